section
-- ===== PART A: goes FIRST, ahead of the names: the tables' words, and 'selects' of the private methods out of them =====
/-- a private method of a class that the tables say can be made, by its rows of tables_1 -/
def lw_okq (q : MethodName × Nat) : Prop := (q.1.cls ≠ "java/lang/invoke/MethodHandle" ∧ q.1.cls ≠ "java/lang/invoke/VarHandle") ∧ Cond.instantiable q.1.cls q.2 ∈ tables_1 ∧ Cond.privateMethod q.1 ∈ tables_1 ∧ Cond.instanceMethod q.1 ∈ tables_1
theorem lw_p0 : lw_okq (⟨"SlotStar", "take", "(IIII)V"⟩, 6) := ⟨⟨by decide +kernel, by decide +kernel⟩, List.mem_of_getElem? (i := 9) (by decide +kernel), List.mem_of_getElem? (i := 96) (by decide +kernel), List.mem_of_getElem? (i := 97) (by decide +kernel)⟩
theorem lw_p1 : lw_okq (⟨"SlotStar$Root", "multiplyByOneLess", "(I)V"⟩, 3) := ⟨⟨by decide +kernel, by decide +kernel⟩, List.mem_of_getElem? (i := 49) (by decide +kernel), List.mem_of_getElem? (i := 134) (by decide +kernel), List.mem_of_getElem? (i := 135) (by decide +kernel)⟩
theorem lw_p2 : lw_okq (⟨"SlotStar$Root", "divideByOneLess", "(I)V"⟩, 3) := ⟨⟨by decide +kernel, by decide +kernel⟩, List.mem_of_getElem? (i := 49) (by decide +kernel), List.mem_of_getElem? (i := 141) (by decide +kernel), List.mem_of_getElem? (i := 142) (by decide +kernel)⟩
theorem lw_p3 : lw_okq (⟨"SlotStar$Root", "highestPower", "()I"⟩, 3) := ⟨⟨by decide +kernel, by decide +kernel⟩, List.mem_of_getElem? (i := 49) (by decide +kernel), List.mem_of_getElem? (i := 145) (by decide +kernel), List.mem_of_getElem? (i := 146) (by decide +kernel)⟩
theorem lw_p4 : lw_okq (⟨"SlotStar", "isSlot", "(I)Z"⟩, 6) := ⟨⟨by decide +kernel, by decide +kernel⟩, List.mem_of_getElem? (i := 9) (by decide +kernel), List.mem_of_getElem? (i := 195) (by decide +kernel), List.mem_of_getElem? (i := 196) (by decide +kernel)⟩
theorem lw_p5 : lw_okq (⟨"SlotStar", "isPhase", "(I)Z"⟩, 6) := ⟨⟨by decide +kernel, by decide +kernel⟩, List.mem_of_getElem? (i := 9) (by decide +kernel), List.mem_of_getElem? (i := 239) (by decide +kernel), List.mem_of_getElem? (i := 240) (by decide +kernel)⟩
theorem lw_p6 : lw_okq (⟨"SlotStar", "addUp", "([IIII)V"⟩, 6) := ⟨⟨by decide +kernel, by decide +kernel⟩, List.mem_of_getElem? (i := 9) (by decide +kernel), List.mem_of_getElem? (i := 273) (by decide +kernel), List.mem_of_getElem? (i := 274) (by decide +kernel)⟩
theorem lw_p7 : lw_okq (⟨"SlotStar", "addPower", "([III)V"⟩, 6) := ⟨⟨by decide +kernel, by decide +kernel⟩, List.mem_of_getElem? (i := 9) (by decide +kernel), List.mem_of_getElem? (i := 278) (by decide +kernel), List.mem_of_getElem? (i := 279) (by decide +kernel)⟩
theorem lw_p8 : lw_okq (⟨"SlotStar", "isNothing", "(II)Z"⟩, 6) := ⟨⟨by decide +kernel, by decide +kernel⟩, List.mem_of_getElem? (i := 9) (by decide +kernel), List.mem_of_getElem? (i := 291) (by decide +kernel), List.mem_of_getElem? (i := 292) (by decide +kernel)⟩
theorem lw_p9 : lw_okq (⟨"SlotStar$Joint", "collect", "(LSlotStar$Machine;I)V"⟩, 6) := ⟨⟨by decide +kernel, by decide +kernel⟩, List.mem_of_getElem? (i := 68) (by decide +kernel), List.mem_of_getElem? (i := 323) (by decide +kernel), List.mem_of_getElem? (i := 324) (by decide +kernel)⟩
theorem lw_p10 : lw_okq (⟨"SlotStar$Joint", "waysOf", "(LSlotStar$Machine;I)I"⟩, 6) := ⟨⟨by decide +kernel, by decide +kernel⟩, List.mem_of_getElem? (i := 68) (by decide +kernel), List.mem_of_getElem? (i := 330) (by decide +kernel), List.mem_of_getElem? (i := 331) (by decide +kernel)⟩
theorem lw_p11 : lw_okq (⟨"SlotStar$Joint", "backOf", "(II)I"⟩, 6) := ⟨⟨by decide +kernel, by decide +kernel⟩, List.mem_of_getElem? (i := 68) (by decide +kernel), List.mem_of_getElem? (i := 335) (by decide +kernel), List.mem_of_getElem? (i := 336) (by decide +kernel)⟩
theorem lw_p12 : lw_okq (⟨"SlotStarModel", "pitch", "()I"⟩, 16) := ⟨⟨by decide +kernel, by decide +kernel⟩, List.mem_of_getElem? (i := 372) (by decide +kernel), List.mem_of_getElem? (i := 435) (by decide +kernel), List.mem_of_getElem? (i := 436) (by decide +kernel)⟩
theorem lw_p13 : lw_okq (⟨"SlotStarModel", "star", "()I"⟩, 16) := ⟨⟨by decide +kernel, by decide +kernel⟩, List.mem_of_getElem? (i := 372) (by decide +kernel), List.mem_of_getElem? (i := 442) (by decide +kernel), List.mem_of_getElem? (i := 443) (by decide +kernel)⟩
theorem lw_p14 : lw_okq (⟨"SlotStarModel", "copies", "()I"⟩, 16) := ⟨⟨by decide +kernel, by decide +kernel⟩, List.mem_of_getElem? (i := 372) (by decide +kernel), List.mem_of_getElem? (i := 446) (by decide +kernel), List.mem_of_getElem? (i := 447) (by decide +kernel)⟩
theorem lw_p15 : lw_okq (⟨"SlotStarModel", "isSlot", "(I)Z"⟩, 16) := ⟨⟨by decide +kernel, by decide +kernel⟩, List.mem_of_getElem? (i := 372) (by decide +kernel), List.mem_of_getElem? (i := 465) (by decide +kernel), List.mem_of_getElem? (i := 466) (by decide +kernel)⟩
def lw_privs_1 : List (MethodName × Nat) := [(⟨"SlotStar", "take", "(IIII)V"⟩, 6), (⟨"SlotStar$Root", "multiplyByOneLess", "(I)V"⟩, 3), (⟨"SlotStar$Root", "divideByOneLess", "(I)V"⟩, 3), (⟨"SlotStar$Root", "highestPower", "()I"⟩, 3), (⟨"SlotStar", "isSlot", "(I)Z"⟩, 6), (⟨"SlotStar", "isPhase", "(I)Z"⟩, 6), (⟨"SlotStar", "addUp", "([IIII)V"⟩, 6), (⟨"SlotStar", "addPower", "([III)V"⟩, 6), (⟨"SlotStar", "isNothing", "(II)Z"⟩, 6), (⟨"SlotStar$Joint", "collect", "(LSlotStar$Machine;I)V"⟩, 6), (⟨"SlotStar$Joint", "waysOf", "(LSlotStar$Machine;I)I"⟩, 6), (⟨"SlotStar$Joint", "backOf", "(II)I"⟩, 6), (⟨"SlotStarModel", "pitch", "()I"⟩, 16), (⟨"SlotStarModel", "star", "()I"⟩, 16), (⟨"SlotStarModel", "copies", "()I"⟩, 16), (⟨"SlotStarModel", "isSlot", "(I)Z"⟩, 16)]
theorem lw_r1 : ∀ q ∈ lw_privs_1, lw_okq q := List.forall_mem_cons.mpr ⟨lw_p0, List.forall_mem_cons.mpr ⟨lw_p1, List.forall_mem_cons.mpr ⟨lw_p2, List.forall_mem_cons.mpr ⟨lw_p3, List.forall_mem_cons.mpr ⟨lw_p4, List.forall_mem_cons.mpr ⟨lw_p5, List.forall_mem_cons.mpr ⟨lw_p6, List.forall_mem_cons.mpr ⟨lw_p7, List.forall_mem_cons.mpr ⟨lw_p8, List.forall_mem_cons.mpr ⟨lw_p9, List.forall_mem_cons.mpr ⟨lw_p10, List.forall_mem_cons.mpr ⟨lw_p11, List.forall_mem_cons.mpr ⟨lw_p12, List.forall_mem_cons.mpr ⟨lw_p13, List.forall_mem_cons.mpr ⟨lw_p14, List.forall_mem_cons.mpr ⟨lw_p15, fun _ h => absurd h List.not_mem_nil⟩⟩⟩⟩⟩⟩⟩⟩⟩⟩⟩⟩⟩⟩⟩⟩
theorem lw_p16 : lw_okq (⟨"SlotStarModel", "isBalanced", "()Z"⟩, 16) := ⟨⟨by decide +kernel, by decide +kernel⟩, List.mem_of_getElem? (i := 372) (by decide +kernel), List.mem_of_getElem? (i := 469) (by decide +kernel), List.mem_of_getElem? (i := 470) (by decide +kernel)⟩
theorem lw_p17 : lw_okq (⟨"SlotStarModel", "turn", "(I)I"⟩, 16) := ⟨⟨by decide +kernel, by decide +kernel⟩, List.mem_of_getElem? (i := 372) (by decide +kernel), List.mem_of_getElem? (i := 473) (by decide +kernel), List.mem_of_getElem? (i := 474) (by decide +kernel)⟩
theorem lw_p18 : lw_okq (⟨"SlotStarModel", "zone", "(I)I"⟩, 16) := ⟨⟨by decide +kernel, by decide +kernel⟩, List.mem_of_getElem? (i := 372) (by decide +kernel), List.mem_of_getElem? (i := 477) (by decide +kernel), List.mem_of_getElem? (i := 478) (by decide +kernel)⟩
theorem lw_p19 : lw_okq (⟨"SlotStarModel", "phaseOf", "(I)I"⟩, 16) := ⟨⟨by decide +kernel, by decide +kernel⟩, List.mem_of_getElem? (i := 372) (by decide +kernel), List.mem_of_getElem? (i := 481) (by decide +kernel), List.mem_of_getElem? (i := 482) (by decide +kernel)⟩
theorem lw_p20 : lw_okq (⟨"SlotStarModel", "isForward", "(I)Z"⟩, 16) := ⟨⟨by decide +kernel, by decide +kernel⟩, List.mem_of_getElem? (i := 372) (by decide +kernel), List.mem_of_getElem? (i := 485) (by decide +kernel), List.mem_of_getElem? (i := 486) (by decide +kernel)⟩
theorem lw_p21 : lw_okq (⟨"SlotStarModel", "begins", "(I)I"⟩, 16) := ⟨⟨by decide +kernel, by decide +kernel⟩, List.mem_of_getElem? (i := 372) (by decide +kernel), List.mem_of_getElem? (i := 489) (by decide +kernel), List.mem_of_getElem? (i := 490) (by decide +kernel)⟩
theorem lw_p22 : lw_okq (⟨"SlotStarModel", "isPhase", "(I)Z"⟩, 16) := ⟨⟨by decide +kernel, by decide +kernel⟩, List.mem_of_getElem? (i := 372) (by decide +kernel), List.mem_of_getElem? (i := 497) (by decide +kernel), List.mem_of_getElem? (i := 498) (by decide +kernel)⟩
theorem lw_p23 : lw_okq (⟨"SlotStarModel", "layOwn", "()V"⟩, 16) := ⟨⟨by decide +kernel, by decide +kernel⟩, List.mem_of_getElem? (i := 372) (by decide +kernel), List.mem_of_getElem? (i := 513) (by decide +kernel), List.mem_of_getElem? (i := 514) (by decide +kernel)⟩
theorem lw_p24 : lw_okq (⟨"SlotStarModel", "layDivisor", "(I)V"⟩, 16) := ⟨⟨by decide +kernel, by decide +kernel⟩, List.mem_of_getElem? (i := 372) (by decide +kernel), List.mem_of_getElem? (i := 517) (by decide +kernel), List.mem_of_getElem? (i := 518) (by decide +kernel)⟩
theorem lw_p25 : lw_okq (⟨"SlotStarModel", "divide", "(II)I"⟩, 16) := ⟨⟨by decide +kernel, by decide +kernel⟩, List.mem_of_getElem? (i := 372) (by decide +kernel), List.mem_of_getElem? (i := 521) (by decide +kernel), List.mem_of_getElem? (i := 522) (by decide +kernel)⟩
theorem lw_p26 : lw_okq (⟨"SlotStarModel", "laySum", "(IIII)V"⟩, 16) := ⟨⟨by decide +kernel, by decide +kernel⟩, List.mem_of_getElem? (i := 372) (by decide +kernel), List.mem_of_getElem? (i := 532) (by decide +kernel), List.mem_of_getElem? (i := 533) (by decide +kernel)⟩
theorem lw_p27 : lw_okq (⟨"SlotStarModel", "leaveOver", "(I)V"⟩, 16) := ⟨⟨by decide +kernel, by decide +kernel⟩, List.mem_of_getElem? (i := 372) (by decide +kernel), List.mem_of_getElem? (i := 536) (by decide +kernel), List.mem_of_getElem? (i := 537) (by decide +kernel)⟩
theorem lw_p28 : lw_okq (⟨"SlotStarModel", "isNone", "(II)Z"⟩, 16) := ⟨⟨by decide +kernel, by decide +kernel⟩, List.mem_of_getElem? (i := 372) (by decide +kernel), List.mem_of_getElem? (i := 544) (by decide +kernel), List.mem_of_getElem? (i := 545) (by decide +kernel)⟩
theorem lw_p29 : lw_okq (⟨"SlotStarModel", "join", "(I)Z"⟩, 16) := ⟨⟨by decide +kernel, by decide +kernel⟩, List.mem_of_getElem? (i := 372) (by decide +kernel), List.mem_of_getElem? (i := 560) (by decide +kernel), List.mem_of_getElem? (i := 561) (by decide +kernel)⟩
theorem lw_p30 : lw_okq (⟨"SlotStarModel", "wayOf", "(II)I"⟩, 16) := ⟨⟨by decide +kernel, by decide +kernel⟩, List.mem_of_getElem? (i := 372) (by decide +kernel), List.mem_of_getElem? (i := 564) (by decide +kernel), List.mem_of_getElem? (i := 565) (by decide +kernel)⟩
def lw_privs_2 : List (MethodName × Nat) := [(⟨"SlotStarModel", "isBalanced", "()Z"⟩, 16), (⟨"SlotStarModel", "turn", "(I)I"⟩, 16), (⟨"SlotStarModel", "zone", "(I)I"⟩, 16), (⟨"SlotStarModel", "phaseOf", "(I)I"⟩, 16), (⟨"SlotStarModel", "isForward", "(I)Z"⟩, 16), (⟨"SlotStarModel", "begins", "(I)I"⟩, 16), (⟨"SlotStarModel", "isPhase", "(I)Z"⟩, 16), (⟨"SlotStarModel", "layOwn", "()V"⟩, 16), (⟨"SlotStarModel", "layDivisor", "(I)V"⟩, 16), (⟨"SlotStarModel", "divide", "(II)I"⟩, 16), (⟨"SlotStarModel", "laySum", "(IIII)V"⟩, 16), (⟨"SlotStarModel", "leaveOver", "(I)V"⟩, 16), (⟨"SlotStarModel", "isNone", "(II)Z"⟩, 16), (⟨"SlotStarModel", "join", "(I)Z"⟩, 16), (⟨"SlotStarModel", "wayOf", "(II)I"⟩, 16)]
theorem lw_r2 : ∀ q ∈ lw_privs_2, lw_okq q := List.forall_mem_cons.mpr ⟨lw_p16, List.forall_mem_cons.mpr ⟨lw_p17, List.forall_mem_cons.mpr ⟨lw_p18, List.forall_mem_cons.mpr ⟨lw_p19, List.forall_mem_cons.mpr ⟨lw_p20, List.forall_mem_cons.mpr ⟨lw_p21, List.forall_mem_cons.mpr ⟨lw_p22, List.forall_mem_cons.mpr ⟨lw_p23, List.forall_mem_cons.mpr ⟨lw_p24, List.forall_mem_cons.mpr ⟨lw_p25, List.forall_mem_cons.mpr ⟨lw_p26, List.forall_mem_cons.mpr ⟨lw_p27, List.forall_mem_cons.mpr ⟨lw_p28, List.forall_mem_cons.mpr ⟨lw_p29, List.forall_mem_cons.mpr ⟨lw_p30, fun _ h => absurd h List.not_mem_nil⟩⟩⟩⟩⟩⟩⟩⟩⟩⟩⟩⟩⟩⟩⟩
def lw_privs : List (MethodName × Nat) := lw_privs_1 ++ (lw_privs_2)
def lw_tbl : List Cond := k2_sels lw_privs ++ tables_1
theorem lw_privs_ok : ∀ q ∈ lw_privs, lw_okq q := by
  show ∀ q ∈ lw_privs_1 ++ (lw_privs_2), lw_okq q
  exact List.forall_mem_append.mpr ⟨lw_r1, lw_r2⟩
-- ===== end of PART A; then your names; then what follows =====
end
section
/-! ===== BEGIN words of one list among another's, by their places ===== -/
theorem goodIn_r {big : List Cond} (ws : List Cond) (ps : List Nat) (hp : ws = ps.filterMap (fun i => big[i]?)) (h : ws.all goodWord = true) : GoodIn big ws := by
  intro w hw
  have h1 := List.all_eq_true.mp h w hw
  rw [hp] at hw
  obtain ⟨i, -, hi⟩ := List.mem_filterMap.mp hw
  have hm : w ∈ big := by first | exact List.mem_of_getElem? hi | exact List.getElem?_mem hi
  exact ⟨hm, good_of_word h1⟩
theorem goodIn_app {big a b : List Cond} (ha : GoodIn big a) (hb : GoodIn big b) : GoodIn big (a ++ b) := fun w h => (List.mem_append.mp h).elim (ha w) (hb w)
theorem goodIn_ca {big a b : List Cond} {c : Cond} (ha : GoodIn big (c :: a)) (hb : GoodIn big b) : GoodIn big (c :: (a ++ b)) := fun w h => (List.mem_cons.mp h).elim (fun e => ha w (List.mem_cons.mpr (Or.inl e))) (fun h => (List.mem_append.mp h).elim (fun h => ha w (List.mem_cons.mpr (Or.inr h))) (hb w))
theorem goodIn_sub {big ws : List Cond} (hm : ∀ w ∈ ws, w ∈ big) (h : ws.all goodWord = true) : GoodIn big ws := fun w hw => ⟨hm w hw, good_of_word (List.all_eq_true.mp h w hw)⟩
/-! ===== END ===== -/

/-! ===== BEGIN printed: names, fields, word lists, decode rows ===== -/
def RX0 : String := "SlotStar$Joint"
def TX0 : u_T := fun k => match k with
  | 0 => ("SlotStar$Joint", "forwards", "I", false)
  | 1 => ("SlotStar$Joint", "shift", "I", false)
  | 2 => ("SlotStar$Joint", "ways", "I", false)
  | 3 => ("SlotStar$Joint", "backs", "I", false)
  | 4 => ("SlotStar$Joint", "forwardSlots", "[I", true)
  | _ => ("SlotStar$Joint", "backSlots", "[I", true)
def tyX0 : Nat → FieldType := fun k => match k with
  | 0 => .int
  | 1 => .int
  | 2 => .int
  | 3 => .int
  | 4 => .array .int
  | _ => .array .int
abbrev wsX00 : List Cond := u_ws RX0 TX0 6
theorem nmX0 : ∀ a, a < 6 → ∀ b, b < 6 → a ≠ b → (TX0 a).2.1 ≠ (TX0 b).2.1 := by decide +kernel
theorem tyX0_ok : ∀ k, k < 6 → parseFieldDescriptor (TX0 k).2.2.1 = some (tyX0 k) := by decide +kernel
abbrev cX0_init : ByteArray := prog_2_method_1_code
def yX0_init : MethodName := ⟨RX0, "<init>", "()V"⟩
abbrev cX0_join : ByteArray := prog_2_method_2_code
def yX0_join : MethodName := ⟨RX0, "join", "(LSlotStar$Machine;I)Z"⟩
abbrev cX0_collect : ByteArray := prog_2_method_3_code
def yX0_collect : MethodName := ⟨RX0, "collect", "(LSlotStar$Machine;I)V"⟩
abbrev cX0_waysOf : ByteArray := prog_2_method_4_code
def yX0_waysOf : MethodName := ⟨RX0, "waysOf", "(LSlotStar$Machine;I)I"⟩
abbrev cX0_backOf : ByteArray := prog_2_method_5_code
def yX0_backOf : MethodName := ⟨RX0, "backOf", "(II)I"⟩
abbrev cX0_otherOf : ByteArray := prog_2_method_6_code
def yX0_otherOf : MethodName := ⟨RX0, "otherOf", "(IZ)I"⟩
def RX1 : String := "SlotStar$Machine"
def TX1 : u_T := fun k => match k with
  | 0 => ("SlotStar$Machine", "slots", "I", false)
  | 1 => ("SlotStar$Machine", "pairs", "I", false)
  | 2 => ("SlotStar$Machine", "phases", "I", false)
  | 3 => ("SlotStar$Machine", "width", "I", false)
  | 4 => ("SlotStar$Machine", "copies", "I", false)
  | _ => ("SlotStar$Machine", "turns", "I", false)
def tyX1 : Nat → FieldType := fun k => match k with
  | 0 => .int
  | 1 => .int
  | 2 => .int
  | 3 => .int
  | 4 => .int
  | _ => .int
abbrev wsX10 : List Cond := u_ws RX1 TX1 6
theorem nmX1 : ∀ a, a < 6 → ∀ b, b < 6 → a ≠ b → (TX1 a).2.1 ≠ (TX1 b).2.1 := by decide +kernel
theorem tyX1_ok : ∀ k, k < 6 → parseFieldDescriptor (TX1 k).2.2.1 = some (tyX1 k) := by decide +kernel
abbrev cX1_init : ByteArray := prog_3_method_1_code
def yX1_init : MethodName := ⟨RX1, "<init>", "()V"⟩
abbrev cX1_become : ByteArray := prog_3_method_2_code
def yX1_become : MethodName := ⟨RX1, "become", "(IIII)V"⟩
abbrev cX1_lackingDivisor : ByteArray := prog_3_method_3_code
def yX1_lackingDivisor : MethodName := ⟨RX1, "lackingDivisor", "()I"⟩
abbrev cX1_isBalanced : ByteArray := prog_3_method_4_code
def yX1_isBalanced : MethodName := ⟨RX1, "isBalanced", "()Z"⟩
abbrev cX1_turnOf : ByteArray := prog_3_method_5_code
def yX1_turnOf : MethodName := ⟨RX1, "turnOf", "(I)I"⟩
abbrev cX1_copyOf : ByteArray := prog_3_method_6_code
def yX1_copyOf : MethodName := ⟨RX1, "copyOf", "(I)I"⟩
abbrev cX1_zoneOf : ByteArray := prog_3_method_7_code
def yX1_zoneOf : MethodName := ⟨RX1, "zoneOf", "(I)I"⟩
abbrev cX1_isForward : ByteArray := prog_3_method_8_code
def yX1_isForward : MethodName := ⟨RX1, "isForward", "(I)Z"⟩
abbrev cX1_phaseOf : ByteArray := prog_3_method_9_code
def yX1_phaseOf : MethodName := ⟨RX1, "phaseOf", "(I)I"⟩
abbrev cX1_endOf : ByteArray := prog_3_method_10_code
def yX1_endOf : MethodName := ⟨RX1, "endOf", "(II)I"⟩
abbrev cX1_coilEndingIn : ByteArray := prog_3_method_11_code
def yX1_coilEndingIn : MethodName := ⟨RX1, "coilEndingIn", "(I)I"⟩
abbrev cX1_countSides : ByteArray := prog_3_method_12_code
def yX1_countSides : MethodName := ⟨RX1, "countSides", "(IZ)I"⟩
abbrev cX1_wayBetween : ByteArray := prog_3_method_13_code
def yX1_wayBetween : MethodName := ⟨RX1, "wayBetween", "(II)I"⟩
def RX2 : String := "SlotStar$Root"
def TX2 : u_T := fun k => match k with
  | 0 => ("SlotStar$Root", "numbers", "[I", true)
  | 1 => ("SlotStar$Root", "degree", "I", false)
  | _ => ("SlotStar$Root", "turns", "I", false)
def tyX2 : Nat → FieldType := fun k => match k with
  | 0 => .array .int
  | 1 => .int
  | _ => .int
abbrev wsX20 : List Cond := u_ws RX2 TX2 3
theorem nmX2 : ∀ a, a < 3 → ∀ b, b < 3 → a ≠ b → (TX2 a).2.1 ≠ (TX2 b).2.1 := by decide +kernel
theorem tyX2_ok : ∀ k, k < 3 → parseFieldDescriptor (TX2 k).2.2.1 = some (tyX2 k) := by decide +kernel
abbrev cX2_init : ByteArray := prog_4_method_1_code
def yX2_init : MethodName := ⟨RX2, "<init>", "()V"⟩
abbrev cX2_become : ByteArray := prog_4_method_2_code
def yX2_become : MethodName := ⟨RX2, "become", "(I)V"⟩
abbrev cX2_moebius : ByteArray := prog_4_method_3_code
def yX2_moebius : MethodName := ⟨RX2, "moebius", "(I)I"⟩
abbrev cX2_multiplyByOneLess : ByteArray := prog_4_method_4_code
def yX2_multiplyByOneLess : MethodName := ⟨RX2, "multiplyByOneLess", "(I)V"⟩
abbrev cX2_divideByOneLess : ByteArray := prog_4_method_5_code
def yX2_divideByOneLess : MethodName := ⟨RX2, "divideByOneLess", "(I)V"⟩
abbrev cX2_highestPower : ByteArray := prog_4_method_6_code
def yX2_highestPower : MethodName := ⟨RX2, "highestPower", "()I"⟩
abbrev cX2_reduce : ByteArray := prog_4_method_7_code
def yX2_reduce : MethodName := ⟨RX2, "reduce", "([I)V"⟩
abbrev cX2_multiplyByX : ByteArray := prog_4_method_8_code
def yX2_multiplyByX : MethodName := ⟨RX2, "multiplyByX", "([I)V"⟩
abbrev cX2_isZero : ByteArray := prog_4_method_9_code
def yX2_isZero : MethodName := ⟨RX2, "isZero", "([I)Z"⟩
abbrev cX2_areSame : ByteArray := prog_4_method_10_code
def yX2_areSame : MethodName := ⟨RX2, "areSame", "([I[I)Z"⟩
def RX3 : String := "SlotStar"
def TX3 : u_T := fun k => match k with
  | 0 => ("SlotStar", "star", "LSlotStar$Machine;", true)
  | 1 => ("SlotStar", "root", "LSlotStar$Root;", true)
  | 2 => ("SlotStar", "joint", "LSlotStar$Joint;", true)
  | 3 => ("SlotStar", "first", "[I", true)
  | 4 => ("SlotStar", "second", "[I", true)
  | _ => ("SlotStar", "images", "[I", true)
def tyX3 : Nat → FieldType := fun k => match k with
  | 0 => .object "SlotStar$Machine"
  | 1 => .object "SlotStar$Root"
  | 2 => .object "SlotStar$Joint"
  | 3 => .array .int
  | 4 => .array .int
  | _ => .array .int
abbrev wsX30 : List Cond := u_ws RX3 TX3 6
theorem nmX3 : ∀ a, a < 6 → ∀ b, b < 6 → a ≠ b → (TX3 a).2.1 ≠ (TX3 b).2.1 := by decide +kernel
theorem tyX3_ok : ∀ k, k < 6 → parseFieldDescriptor (TX3 k).2.2.1 = some (tyX3 k) := by decide +kernel
abbrev cX3_init : ByteArray := prog_1_method_1_code
def yX3_init : MethodName := ⟨RX3, "<init>", "()V"⟩
abbrev cX3_machine : ByteArray := prog_1_method_2_code
def yX3_machine : MethodName := ⟨RX3, "machine", "(III)I"⟩
abbrev cX3_width : ByteArray := prog_1_method_3_code
def yX3_width : MethodName := ⟨RX3, "width", "(I)I"⟩
abbrev cX3_lacking : ByteArray := prog_1_method_4_code
def yX3_lacking : MethodName := ⟨RX3, "lacking", "()I"⟩
abbrev cX3_slot : ByteArray := prog_1_method_5_code
def yX3_slot : MethodName := ⟨RX3, "slot", "(II)I"⟩
abbrev cX3_phase : ByteArray := prog_1_method_6_code
def yX3_phase : MethodName := ⟨RX3, "phase", "(II)I"⟩
abbrev cX3_layer : ByteArray := prog_1_method_7_code
def yX3_layer : MethodName := ⟨RX3, "layer", "(II)I"⟩
abbrev cX3_each : ByteArray := prog_1_method_8_code
def yX3_each : MethodName := ⟨RX3, "each", "(I)I"⟩
abbrev cX3_own : ByteArray := prog_1_method_9_code
def yX3_own : MethodName := ⟨RX3, "own", "(I)I"⟩
abbrev cX3_sum : ByteArray := prog_1_method_10_code
def yX3_sum : MethodName := ⟨RX3, "sum", "(III)I"⟩
abbrev cX3_vanishes : ByteArray := prog_1_method_11_code
def yX3_vanishes : MethodName := ⟨RX3, "vanishes", "(I)I"⟩
abbrev cX3_choose : ByteArray := prog_1_method_12_code
def yX3_choose : MethodName := ⟨RX3, "choose", "(I)I"⟩
abbrev cX3_turned : ByteArray := prog_1_method_13_code
def yX3_turned : MethodName := ⟨RX3, "turned", "(III)I"⟩
abbrev cX3_joined : ByteArray := prog_1_method_14_code
def yX3_joined : MethodName := ⟨RX3, "joined", "(II)I"⟩
abbrev cX3_partner : ByteArray := prog_1_method_15_code
def yX3_partner : MethodName := ⟨RX3, "partner", "(I)I"⟩
abbrev cX3_path : ByteArray := prog_1_method_16_code
def yX3_path : MethodName := ⟨RX3, "path", "(II)I"⟩
abbrev cX3_image : ByteArray := prog_1_method_17_code
def yX3_image : MethodName := ⟨RX3, "image", "(I)I"⟩
abbrev cX3_restore : ByteArray := prog_1_method_18_code
def yX3_restore : MethodName := ⟨RX3, "restore", "(I)I"⟩
abbrev cX3_told : ByteArray := prog_1_method_19_code
def yX3_told : MethodName := ⟨RX3, "told", "(I)I"⟩
abbrev cX3_take : ByteArray := prog_1_method_20_code
def yX3_take : MethodName := ⟨RX3, "take", "(IIII)V"⟩
abbrev cX3_isSlot : ByteArray := prog_1_method_21_code
def yX3_isSlot : MethodName := ⟨RX3, "isSlot", "(I)Z"⟩
abbrev cX3_isPhase : ByteArray := prog_1_method_22_code
def yX3_isPhase : MethodName := ⟨RX3, "isPhase", "(I)Z"⟩
abbrev cX3_isWave : ByteArray := prog_1_method_23_code
def yX3_isWave : MethodName := ⟨RX3, "isWave", "(I)Z"⟩
abbrev cX3_addUp : ByteArray := prog_1_method_24_code
def yX3_addUp : MethodName := ⟨RX3, "addUp", "([IIII)V"⟩
abbrev cX3_addPower : ByteArray := prog_1_method_25_code
def yX3_addPower : MethodName := ⟨RX3, "addPower", "([III)V"⟩
abbrev cX3_isNothing : ByteArray := prog_1_method_26_code
def yX3_isNothing : MethodName := ⟨RX3, "isNothing", "(II)Z"⟩
abbrev cX3_poleWidth : ByteArray := prog_1_method_27_code
def yX3_poleWidth : MethodName := ⟨RX3, "poleWidth", "(II)I"⟩
abbrev cX3_isWithin : ByteArray := prog_1_method_28_code
def yX3_isWithin : MethodName := ⟨RX3, "isWithin", "(III)Z"⟩
abbrev cX3_commonDivisor : ByteArray := prog_1_method_29_code
def yX3_commonDivisor : MethodName := ⟨RX3, "commonDivisor", "(II)I"⟩
abbrev cX3_leftOver : ByteArray := prog_1_method_30_code
def yX3_leftOver : MethodName := ⟨RX3, "leftOver", "(II)I"⟩
abbrev cX3_cut : ByteArray := prog_1_method_31_code
def yX3_cut : MethodName := ⟨RX3, "cut", "(II)I"⟩
abbrev cX3_at : ByteArray := prog_1_method_32_code
def yX3_at : MethodName := ⟨RX3, "at", "([II)I"⟩
abbrev cX3_put : ByteArray := prog_1_method_33_code
def yX3_put : MethodName := ⟨RX3, "put", "([III)V"⟩
def RX4 : String := "SlotStarModel"
def TX4 : u_T := fun k => match k with
  | 0 => ("SlotStarModel", "slots", "I", false)
  | 1 => ("SlotStarModel", "poles", "I", false)
  | 2 => ("SlotStarModel", "phases", "I", false)
  | 3 => ("SlotStarModel", "reach", "I", false)
  | 4 => ("SlotStarModel", "own", "[I", true)
  | 5 => ("SlotStarModel", "degree", "[I", true)
  | 6 => ("SlotStarModel", "work", "[I", true)
  | 7 => ("SlotStarModel", "sum", "[I", true)
  | 8 => ("SlotStarModel", "forth", "[I", true)
  | 9 => ("SlotStarModel", "back", "[I", true)
  | 10 => ("SlotStarModel", "forths", "I", false)
  | 11 => ("SlotStarModel", "backs", "I", false)
  | 12 => ("SlotStarModel", "least", "I", false)
  | 13 => ("SlotStarModel", "shift", "I", false)
  | 14 => ("SlotStarModel", "image", "[I", true)
  | _ => ("SlotStarModel", "isKept", "[Z", true)
def tyX4 : Nat → FieldType := fun k => match k with
  | 0 => .int
  | 1 => .int
  | 2 => .int
  | 3 => .int
  | 4 => .array .int
  | 5 => .array .int
  | 6 => .array .int
  | 7 => .array .int
  | 8 => .array .int
  | 9 => .array .int
  | 10 => .int
  | 11 => .int
  | 12 => .int
  | 13 => .int
  | 14 => .array .int
  | _ => .array .boolean
abbrev wsX40 : List Cond := u_ws RX4 TX4 16
theorem nmX4 : ∀ a, a < 16 → ∀ b, b < 16 → a ≠ b → (TX4 a).2.1 ≠ (TX4 b).2.1 := by decide +kernel
theorem tyX4_ok : ∀ k, k < 16 → parseFieldDescriptor (TX4 k).2.2.1 = some (tyX4 k) := by decide +kernel
abbrev cX4_init : ByteArray := prog_6_method_1_code
def yX4_init : MethodName := ⟨RX4, "<init>", "()V"⟩
abbrev cX4_in : ByteArray := prog_6_method_2_code
def yX4_in : MethodName := ⟨RX4, "in", "(III)Z"⟩
abbrev cX4_common : ByteArray := prog_6_method_3_code
def yX4_common : MethodName := ⟨RX4, "common", "(II)I"⟩
abbrev cX4_copies : ByteArray := prog_6_method_4_code
def yX4_copies : MethodName := ⟨RX4, "copies", "()I"⟩
abbrev cX4_star : ByteArray := prog_6_method_5_code
def yX4_star : MethodName := ⟨RX4, "star", "()I"⟩
abbrev cX4_isBalanced : ByteArray := prog_6_method_6_code
def yX4_isBalanced : MethodName := ⟨RX4, "isBalanced", "()Z"⟩
abbrev cX4_isSlot : ByteArray := prog_6_method_7_code
def yX4_isSlot : MethodName := ⟨RX4, "isSlot", "(I)Z"⟩
abbrev cX4_isPhase : ByteArray := prog_6_method_8_code
def yX4_isPhase : MethodName := ⟨RX4, "isPhase", "(I)Z"⟩
abbrev cX4_greater : ByteArray := prog_6_method_9_code
def yX4_greater : MethodName := ⟨RX4, "greater", "(II)I"⟩
abbrev cX4_pitch : ByteArray := prog_6_method_10_code
def yX4_pitch : MethodName := ⟨RX4, "pitch", "()I"⟩
abbrev cX4_machine : ByteArray := prog_6_method_11_code
def yX4_machine : MethodName := ⟨RX4, "machine", "(III)I"⟩
abbrev cX4_width : ByteArray := prog_6_method_12_code
def yX4_width : MethodName := ⟨RX4, "width", "(I)I"⟩
abbrev cX4_lacking : ByteArray := prog_6_method_13_code
def yX4_lacking : MethodName := ⟨RX4, "lacking", "()I"⟩
abbrev cX4_turn : ByteArray := prog_6_method_14_code
def yX4_turn : MethodName := ⟨RX4, "turn", "(I)I"⟩
abbrev cX4_zone : ByteArray := prog_6_method_15_code
def yX4_zone : MethodName := ⟨RX4, "zone", "(I)I"⟩
abbrev cX4_phaseOf : ByteArray := prog_6_method_16_code
def yX4_phaseOf : MethodName := ⟨RX4, "phaseOf", "(I)I"⟩
abbrev cX4_isForward : ByteArray := prog_6_method_17_code
def yX4_isForward : MethodName := ⟨RX4, "isForward", "(I)Z"⟩
abbrev cX4_begins : ByteArray := prog_6_method_18_code
def yX4_begins : MethodName := ⟨RX4, "begins", "(I)I"⟩
abbrev cX4_slot : ByteArray := prog_6_method_19_code
def yX4_slot : MethodName := ⟨RX4, "slot", "(II)I"⟩
abbrev cX4_phase : ByteArray := prog_6_method_20_code
def yX4_phase : MethodName := ⟨RX4, "phase", "(II)I"⟩
abbrev cX4_layer : ByteArray := prog_6_method_21_code
def yX4_layer : MethodName := ⟨RX4, "layer", "(II)I"⟩
abbrev cX4_each : ByteArray := prog_6_method_22_code
def yX4_each : MethodName := ⟨RX4, "each", "(I)I"⟩
abbrev cX4_layOwn : ByteArray := prog_6_method_23_code
def yX4_layOwn : MethodName := ⟨RX4, "layOwn", "()V"⟩
abbrev cX4_layDivisor : ByteArray := prog_6_method_24_code
def yX4_layDivisor : MethodName := ⟨RX4, "layDivisor", "(I)V"⟩
abbrev cX4_divide : ByteArray := prog_6_method_25_code
def yX4_divide : MethodName := ⟨RX4, "divide", "(II)I"⟩
abbrev cX4_own : ByteArray := prog_6_method_26_code
def yX4_own : MethodName := ⟨RX4, "own", "(I)I"⟩
abbrev cX4_leaveOver : ByteArray := prog_6_method_27_code
def yX4_leaveOver : MethodName := ⟨RX4, "leaveOver", "(I)V"⟩
abbrev cX4_laySum : ByteArray := prog_6_method_28_code
def yX4_laySum : MethodName := ⟨RX4, "laySum", "(IIII)V"⟩
abbrev cX4_sum : ByteArray := prog_6_method_29_code
def yX4_sum : MethodName := ⟨RX4, "sum", "(III)I"⟩
abbrev cX4_isNone : ByteArray := prog_6_method_30_code
def yX4_isNone : MethodName := ⟨RX4, "isNone", "(II)Z"⟩
abbrev cX4_vanishes : ByteArray := prog_6_method_31_code
def yX4_vanishes : MethodName := ⟨RX4, "vanishes", "(I)I"⟩
abbrev cX4_choose : ByteArray := prog_6_method_32_code
def yX4_choose : MethodName := ⟨RX4, "choose", "(I)I"⟩
abbrev cX4_turned : ByteArray := prog_6_method_33_code
def yX4_turned : MethodName := ⟨RX4, "turned", "(III)I"⟩
abbrev cX4_wayOf : ByteArray := prog_6_method_34_code
def yX4_wayOf : MethodName := ⟨RX4, "wayOf", "(II)I"⟩
abbrev cX4_join : ByteArray := prog_6_method_35_code
def yX4_join : MethodName := ⟨RX4, "join", "(I)Z"⟩
abbrev cX4_joined : ByteArray := prog_6_method_36_code
def yX4_joined : MethodName := ⟨RX4, "joined", "(II)I"⟩
abbrev cX4_partner : ByteArray := prog_6_method_37_code
def yX4_partner : MethodName := ⟨RX4, "partner", "(I)I"⟩
abbrev cX4_path : ByteArray := prog_6_method_38_code
def yX4_path : MethodName := ⟨RX4, "path", "(II)I"⟩
abbrev cX4_image : ByteArray := prog_6_method_39_code
def yX4_image : MethodName := ⟨RX4, "image", "(I)I"⟩
abbrev cX4_restore : ByteArray := prog_6_method_40_code
def yX4_restore : MethodName := ⟨RX4, "restore", "(I)I"⟩
abbrev cX4_told : ByteArray := prog_6_method_41_code
def yX4_told : MethodName := ⟨RX4, "told", "(I)I"⟩
def RJ9 : String := "java/lang/Math"
def TJ9 : u_T := fun k => match k with
  | _ => ("", "", "", false)
def tyJ9 : Nat → FieldType := fun k => match k with
  | _ => .int
abbrev wsJ90 : List Cond := u_ws RJ9 TJ9 0
theorem nmJ9 : ∀ a, a < 0 → ∀ b, b < 0 → a ≠ b → (TJ9 a).2.1 ≠ (TJ9 b).2.1 := by decide +kernel
theorem tyJ9_ok : ∀ k, k < 0 → parseFieldDescriptor (TJ9 k).2.2.1 = some (tyJ9 k) := by decide +kernel
abbrev cJ9_abs_0f7a4 : ByteArray := prog_7_method_59_code
def yJ9_abs_0f7a4 : MethodName := ⟨RJ9, "abs", "(I)I"⟩
abbrev cJ9_max_7cf53 : ByteArray := prog_7_method_65_code
def yJ9_max_7cf53 : MethodName := ⟨RJ9, "max", "(II)I"⟩
abbrev cJ9_min_7cf53 : ByteArray := prog_7_method_69_code
def yJ9_min_7cf53 : MethodName := ⟨RJ9, "min", "(II)I"⟩
def RJ7 : String := "java/util/Arrays"
def TJ7 : u_T := fun k => match k with
  | _ => ("", "", "", false)
def tyJ7 : Nat → FieldType := fun k => match k with
  | _ => .int
abbrev wsJ70 : List Cond := u_ws RJ7 TJ7 0
theorem nmJ7 : ∀ a, a < 0 → ∀ b, b < 0 → a ≠ b → (TJ7 a).2.1 ≠ (TJ7 b).2.1 := by decide +kernel
theorem tyJ7_ok : ∀ k, k < 0 → parseFieldDescriptor (TJ7 k).2.2.1 = some (tyJ7 k) := by decide +kernel
abbrev cJ7_fill_53178 : ByteArray := prog_8_method_103_code
def yJ7_fill_53178 : MethodName := ⟨RJ7, "fill", "([II)V"⟩
def RL : String := "SlotStarLaw"
abbrev cL_law : ByteArray := code
def yL_law : MethodName := ⟨RL, "law", "([I)Z"⟩
def wsX0_init : List Cond := .code yX0_init cX0_init 1 none :: ([.methodLink RX0 3 objectInit, .instanceMethod objectInit, .code objectInit ⟨#[0xb1]⟩ 1 none, .arrayClass .int, .fieldLink RX0 9 "SlotStar$Joint" "forwardSlots" "[I", .fieldLink RX0 15 "SlotStar$Joint" "backSlots" "[I"] ++ wsX00)
def wsX3_leftOver : List Cond := .code yX3_leftOver cX3_leftOver 3 (some .int) :: ([])
def wsX3_cut : List Cond := .code yX3_cut cX3_cut 2 (some .int) :: ([])
def wsX1_turnOf : List Cond := .code yX1_turnOf cX1_turnOf 2 (some .int) :: ([.fieldLink RX1 13 "SlotStar$Machine" "pairs" "I", .fieldLink RX1 7 "SlotStar$Machine" "slots" "I", .fieldLink RX1 28 "SlotStar$Machine" "copies" "I", .static yX3_leftOver, .initialized RX3, .code yX3_leftOver cX3_leftOver 3 (some .int), .static yX3_cut, .code yX3_cut cX3_cut 2 (some .int)] ++ wsX10)
def wsX1_zoneOf : List Cond := .code yX1_zoneOf cX1_zoneOf 2 (some .int) :: ([.fieldLink RX1 16 "SlotStar$Machine" "phases" "I", .fieldLink RX1 34 "SlotStar$Machine" "turns" "I", .methodLink RX1 44 yX1_turnOf, .instanceMethod yX1_turnOf, .selects RX1 yX1_turnOf yX1_turnOf, .initialized RX1, .code yX1_turnOf cX1_turnOf 2 (some .int), .fieldLink RX1 13 "SlotStar$Machine" "pairs" "I", .fieldLink RX1 7 "SlotStar$Machine" "slots" "I", .fieldLink RX1 28 "SlotStar$Machine" "copies" "I", .static yX3_leftOver, .initialized RX3, .code yX3_leftOver cX3_leftOver 3 (some .int), .static yX3_cut, .code yX3_cut cX3_cut 2 (some .int)] ++ wsX10)
def wsX1_phaseOf : List Cond := .code yX1_phaseOf cX1_phaseOf 3 (some .int) :: ([.fieldLink RX1 16 "SlotStar$Machine" "phases" "I", .methodLink RX1 48 yX1_zoneOf, .instanceMethod yX1_zoneOf, .selects RX1 yX1_zoneOf yX1_zoneOf, .initialized RX1, .code yX1_zoneOf cX1_zoneOf 2 (some .int), .fieldLink RX1 34 "SlotStar$Machine" "turns" "I", .methodLink RX1 44 yX1_turnOf, .instanceMethod yX1_turnOf, .selects RX1 yX1_turnOf yX1_turnOf, .code yX1_turnOf cX1_turnOf 2 (some .int), .fieldLink RX1 13 "SlotStar$Machine" "pairs" "I", .fieldLink RX1 7 "SlotStar$Machine" "slots" "I", .fieldLink RX1 28 "SlotStar$Machine" "copies" "I", .static yX3_leftOver, .initialized RX3, .code yX3_leftOver cX3_leftOver 3 (some .int), .static yX3_cut, .code yX3_cut cX3_cut 2 (some .int)] ++ wsX10)
def wsX1_isForward : List Cond := .code yX1_isForward cX1_isForward 2 (some .boolean) :: ([.methodLink RX1 48 yX1_zoneOf, .instanceMethod yX1_zoneOf, .selects RX1 yX1_zoneOf yX1_zoneOf, .initialized RX1, .code yX1_zoneOf cX1_zoneOf 2 (some .int), .fieldLink RX1 16 "SlotStar$Machine" "phases" "I", .fieldLink RX1 34 "SlotStar$Machine" "turns" "I", .methodLink RX1 44 yX1_turnOf, .instanceMethod yX1_turnOf, .selects RX1 yX1_turnOf yX1_turnOf, .code yX1_turnOf cX1_turnOf 2 (some .int), .fieldLink RX1 13 "SlotStar$Machine" "pairs" "I", .fieldLink RX1 7 "SlotStar$Machine" "slots" "I", .fieldLink RX1 28 "SlotStar$Machine" "copies" "I", .static yX3_leftOver, .initialized RX3, .code yX3_leftOver cX3_leftOver 3 (some .int), .static yX3_cut, .code yX3_cut cX3_cut 2 (some .int)] ++ wsX10)
def wsX3_isWithin : List Cond := .code yX3_isWithin cX3_isWithin 3 (some .boolean) :: ([])
def wsX3_put : List Cond := .code yX3_put cX3_put 3 none :: ([.methodLink RX3 44 yX3_isWithin, .static yX3_isWithin, .initialized RX3, .code yX3_isWithin cX3_isWithin 3 (some .boolean)])
def wsX0_collect_r1 : List Cond := [Cond.fieldLink RX0 22 "SlotStar$Joint" "forwards" "I", Cond.fieldLink RX0 26 "SlotStar$Joint" "backs" "I", Cond.fieldLink RX0 39 "SlotStar$Machine" "slots" "I", Cond.fieldLink RX0 9 "SlotStar$Joint" "forwardSlots" "[I", Cond.fieldLink RX0 15 "SlotStar$Joint" "backSlots" "[I", Cond.methodLink RX0 44 yX1_phaseOf, Cond.instanceMethod yX1_phaseOf, Cond.selects RX1 yX1_phaseOf yX1_phaseOf, Cond.initialized RX1, Cond.code yX1_phaseOf cX1_phaseOf 3 (some .int), Cond.fieldLink RX1 16 "SlotStar$Machine" "phases" "I", Cond.methodLink RX1 48 yX1_zoneOf, Cond.instanceMethod yX1_zoneOf, Cond.selects RX1 yX1_zoneOf yX1_zoneOf, Cond.code yX1_zoneOf cX1_zoneOf 2 (some .int), Cond.fieldLink RX1 34 "SlotStar$Machine" "turns" "I", Cond.methodLink RX1 44 yX1_turnOf, Cond.instanceMethod yX1_turnOf, Cond.selects RX1 yX1_turnOf yX1_turnOf, Cond.code yX1_turnOf cX1_turnOf 2 (some .int), Cond.fieldLink RX1 13 "SlotStar$Machine" "pairs" "I", Cond.fieldLink RX1 7 "SlotStar$Machine" "slots" "I", Cond.fieldLink RX1 28 "SlotStar$Machine" "copies" "I", Cond.static yX3_leftOver]
def wsX0_collect_r2 : List Cond := [Cond.initialized RX3, Cond.code yX3_leftOver cX3_leftOver 3 (some .int), Cond.static yX3_cut, Cond.code yX3_cut cX3_cut 2 (some .int), Cond.methodLink RX0 48 yX1_isForward, Cond.instanceMethod yX1_isForward, Cond.selects RX1 yX1_isForward yX1_isForward, Cond.code yX1_isForward cX1_isForward 2 (some .boolean), Cond.static yX3_put, Cond.code yX3_put cX3_put 3 none, Cond.methodLink RX3 44 yX3_isWithin, Cond.static yX3_isWithin, Cond.code yX3_isWithin cX3_isWithin 3 (some .boolean)]
def wsX0_collect : List Cond := .code yX0_collect cX0_collect 4 none :: ((wsX0_collect_r1 ++ wsX0_collect_r2) ++ wsX00 ++ wsX10)
def wsX3_at : List Cond := .code yX3_at cX3_at 2 (some .int) :: ([.methodLink RX3 44 yX3_isWithin, .static yX3_isWithin, .initialized RX3, .code yX3_isWithin cX3_isWithin 3 (some .boolean)])
def wsX0_backOf : List Cond := .code yX0_backOf cX0_backOf 3 (some .int) :: ([.fieldLink RX0 15 "SlotStar$Joint" "backSlots" "[I", .fieldLink RX0 22 "SlotStar$Joint" "forwards" "I", .static yX3_leftOver, .initialized RX3, .code yX3_leftOver cX3_leftOver 3 (some .int), .static yX3_at, .code yX3_at cX3_at 2 (some .int), .methodLink RX3 44 yX3_isWithin, .static yX3_isWithin, .code yX3_isWithin cX3_isWithin 3 (some .boolean)] ++ wsX00)
def wsX1_wayBetween : List Cond := .code yX1_wayBetween cX1_wayBetween 4 (some .int) :: ([.methodLink RX1 58 Lib.Math.abs.name, .static Lib.Math.abs.name, .initialized "java/lang/Math", .code Lib.Math.abs.name Lib.Math.abs.code 1 (some .int), .fieldLink RX1 7 "SlotStar$Machine" "slots" "I", .methodLink RX1 63 Lib.Math.min.name, .static Lib.Math.min.name, .code Lib.Math.min.name Lib.Math.min.code 2 (some .int)] ++ wsX10)
def wsX0_waysOf_r1 : List Cond := [Cond.fieldLink RX0 22 "SlotStar$Joint" "forwards" "I", Cond.fieldLink RX0 9 "SlotStar$Joint" "forwardSlots" "[I", Cond.static yX3_at, Cond.initialized RX3, Cond.code yX3_at cX3_at 2 (some .int), Cond.methodLink RX3 44 yX3_isWithin, Cond.static yX3_isWithin, Cond.code yX3_isWithin cX3_isWithin 3 (some .boolean), Cond.methodLink RX0 60 yX0_backOf, Cond.instanceMethod yX0_backOf, Cond.selects RX0 yX0_backOf yX0_backOf, Cond.initialized RX0, Cond.code yX0_backOf cX0_backOf 3 (some .int), Cond.fieldLink RX0 15 "SlotStar$Joint" "backSlots" "[I", Cond.static yX3_leftOver, Cond.code yX3_leftOver cX3_leftOver 3 (some .int), Cond.methodLink RX0 64 yX1_wayBetween, Cond.instanceMethod yX1_wayBetween, Cond.selects RX1 yX1_wayBetween yX1_wayBetween, Cond.initialized RX1, Cond.code yX1_wayBetween cX1_wayBetween 4 (some .int), Cond.methodLink RX1 58 Lib.Math.abs.name, Cond.static Lib.Math.abs.name, Cond.initialized "java/lang/Math"]
def wsX0_waysOf_r2 : List Cond := [Cond.code Lib.Math.abs.name Lib.Math.abs.code 1 (some .int), Cond.fieldLink RX1 7 "SlotStar$Machine" "slots" "I", Cond.methodLink RX1 63 Lib.Math.min.name, Cond.static Lib.Math.min.name, Cond.code Lib.Math.min.name Lib.Math.min.code 2 (some .int)]
def wsX0_waysOf : List Cond := .code yX0_waysOf cX0_waysOf 5 (some .int) :: ((wsX0_waysOf_r1 ++ wsX0_waysOf_r2) ++ wsX00 ++ wsX10)
def wsX0_join_r1 : List Cond := [Cond.fieldLink RX0 22 "SlotStar$Joint" "forwards" "I", Cond.fieldLink RX0 26 "SlotStar$Joint" "backs" "I", Cond.fieldLink RX0 29 "SlotStar$Joint" "shift" "I", Cond.fieldLink RX0 36 "SlotStar$Joint" "ways" "I", Cond.methodLink RX0 18 yX0_collect, Cond.instanceMethod yX0_collect, Cond.selects RX0 yX0_collect yX0_collect, Cond.initialized RX0, Cond.code yX0_collect cX0_collect 4 none, Cond.fieldLink RX0 39 "SlotStar$Machine" "slots" "I", Cond.fieldLink RX0 9 "SlotStar$Joint" "forwardSlots" "[I", Cond.fieldLink RX0 15 "SlotStar$Joint" "backSlots" "[I", Cond.methodLink RX0 44 yX1_phaseOf, Cond.instanceMethod yX1_phaseOf, Cond.selects RX1 yX1_phaseOf yX1_phaseOf, Cond.initialized RX1, Cond.code yX1_phaseOf cX1_phaseOf 3 (some .int), Cond.fieldLink RX1 16 "SlotStar$Machine" "phases" "I", Cond.methodLink RX1 48 yX1_zoneOf, Cond.instanceMethod yX1_zoneOf, Cond.selects RX1 yX1_zoneOf yX1_zoneOf, Cond.code yX1_zoneOf cX1_zoneOf 2 (some .int), Cond.fieldLink RX1 34 "SlotStar$Machine" "turns" "I", Cond.methodLink RX1 44 yX1_turnOf]
def wsX0_join_r2 : List Cond := [Cond.instanceMethod yX1_turnOf, Cond.selects RX1 yX1_turnOf yX1_turnOf, Cond.code yX1_turnOf cX1_turnOf 2 (some .int), Cond.fieldLink RX1 13 "SlotStar$Machine" "pairs" "I", Cond.fieldLink RX1 7 "SlotStar$Machine" "slots" "I", Cond.fieldLink RX1 28 "SlotStar$Machine" "copies" "I", Cond.static yX3_leftOver, Cond.initialized RX3, Cond.code yX3_leftOver cX3_leftOver 3 (some .int), Cond.static yX3_cut, Cond.code yX3_cut cX3_cut 2 (some .int), Cond.methodLink RX0 48 yX1_isForward, Cond.instanceMethod yX1_isForward, Cond.selects RX1 yX1_isForward yX1_isForward, Cond.code yX1_isForward cX1_isForward 2 (some .boolean), Cond.static yX3_put, Cond.code yX3_put cX3_put 3 none, Cond.methodLink RX3 44 yX3_isWithin, Cond.static yX3_isWithin, Cond.code yX3_isWithin cX3_isWithin 3 (some .boolean), Cond.methodLink RX0 32 yX0_waysOf, Cond.instanceMethod yX0_waysOf, Cond.selects RX0 yX0_waysOf yX0_waysOf, Cond.code yX0_waysOf cX0_waysOf 5 (some .int)]
def wsX0_join_r3 : List Cond := [Cond.static yX3_at, Cond.code yX3_at cX3_at 2 (some .int), Cond.methodLink RX0 60 yX0_backOf, Cond.instanceMethod yX0_backOf, Cond.selects RX0 yX0_backOf yX0_backOf, Cond.code yX0_backOf cX0_backOf 3 (some .int), Cond.methodLink RX0 64 yX1_wayBetween, Cond.instanceMethod yX1_wayBetween, Cond.selects RX1 yX1_wayBetween yX1_wayBetween, Cond.code yX1_wayBetween cX1_wayBetween 4 (some .int), Cond.methodLink RX1 58 Lib.Math.abs.name, Cond.static Lib.Math.abs.name, Cond.initialized "java/lang/Math", Cond.code Lib.Math.abs.name Lib.Math.abs.code 1 (some .int), Cond.methodLink RX1 63 Lib.Math.min.name, Cond.static Lib.Math.min.name, Cond.code Lib.Math.min.name Lib.Math.min.code 2 (some .int)]
def wsX0_join : List Cond := .code yX0_join cX0_join 5 (some .boolean) :: ((wsX0_join_r1 ++ (wsX0_join_r2 ++ wsX0_join_r3)) ++ wsX00 ++ wsX10)
def wsX0_otherOf : List Cond := .code yX0_otherOf cX0_otherOf 6 (some .int) :: ([.fieldLink RX0 22 "SlotStar$Joint" "forwards" "I", .fieldLink RX0 9 "SlotStar$Joint" "forwardSlots" "[I", .fieldLink RX0 29 "SlotStar$Joint" "shift" "I", .static yX3_at, .initialized RX3, .code yX3_at cX3_at 2 (some .int), .methodLink RX3 44 yX3_isWithin, .static yX3_isWithin, .code yX3_isWithin cX3_isWithin 3 (some .boolean), .methodLink RX0 60 yX0_backOf, .instanceMethod yX0_backOf, .selects RX0 yX0_backOf yX0_backOf, .initialized RX0, .code yX0_backOf cX0_backOf 3 (some .int), .fieldLink RX0 15 "SlotStar$Joint" "backSlots" "[I", .static yX3_leftOver, .code yX3_leftOver cX3_leftOver 3 (some .int)] ++ wsX00)
def wsX1_init : List Cond := .code yX1_init cX1_init 1 none :: ([.methodLink RX1 1 objectInit, .instanceMethod objectInit, .code objectInit ⟨#[0xb1]⟩ 1 none])
def wsX3_commonDivisor : List Cond := .code yX3_commonDivisor cX3_commonDivisor 3 (some .int) :: ([.methodLink RX3 200 Lib.Math.min.name, .static Lib.Math.min.name, .initialized "java/lang/Math", .code Lib.Math.min.name Lib.Math.min.code 2 (some .int), .methodLink RX3 166 yX3_leftOver, .static yX3_leftOver, .initialized RX3, .code yX3_leftOver cX3_leftOver 3 (some .int)])
def wsX1_become : List Cond := .code yX1_become cX1_become 5 none :: ([.fieldLink RX1 7 "SlotStar$Machine" "slots" "I", .fieldLink RX1 13 "SlotStar$Machine" "pairs" "I", .fieldLink RX1 16 "SlotStar$Machine" "phases" "I", .fieldLink RX1 19 "SlotStar$Machine" "width" "I", .fieldLink RX1 28 "SlotStar$Machine" "copies" "I", .fieldLink RX1 34 "SlotStar$Machine" "turns" "I", .static yX3_commonDivisor, .initialized RX3, .code yX3_commonDivisor cX3_commonDivisor 3 (some .int), .methodLink RX3 200 Lib.Math.min.name, .static Lib.Math.min.name, .initialized "java/lang/Math", .code Lib.Math.min.name Lib.Math.min.code 2 (some .int), .methodLink RX3 166 yX3_leftOver, .static yX3_leftOver, .code yX3_leftOver cX3_leftOver 3 (some .int), .static yX3_cut, .code yX3_cut cX3_cut 2 (some .int)] ++ wsX10)
def wsX1_lackingDivisor : List Cond := .code yX1_lackingDivisor cX1_lackingDivisor 1 (some .int) :: ([.fieldLink RX1 16 "SlotStar$Machine" "phases" "I", .fieldLink RX1 34 "SlotStar$Machine" "turns" "I", .static yX3_commonDivisor, .initialized RX3, .code yX3_commonDivisor cX3_commonDivisor 3 (some .int), .methodLink RX3 200 Lib.Math.min.name, .static Lib.Math.min.name, .initialized "java/lang/Math", .code Lib.Math.min.name Lib.Math.min.code 2 (some .int), .methodLink RX3 166 yX3_leftOver, .static yX3_leftOver, .code yX3_leftOver cX3_leftOver 3 (some .int), .static yX3_cut, .code yX3_cut cX3_cut 2 (some .int)] ++ wsX10)
def wsX1_isBalanced : List Cond := .code yX1_isBalanced cX1_isBalanced 1 (some .boolean) :: ([.methodLink RX1 37 yX1_lackingDivisor, .instanceMethod yX1_lackingDivisor, .selects RX1 yX1_lackingDivisor yX1_lackingDivisor, .initialized RX1, .code yX1_lackingDivisor cX1_lackingDivisor 1 (some .int), .fieldLink RX1 16 "SlotStar$Machine" "phases" "I", .fieldLink RX1 34 "SlotStar$Machine" "turns" "I", .static yX3_commonDivisor, .initialized RX3, .code yX3_commonDivisor cX3_commonDivisor 3 (some .int), .methodLink RX3 200 Lib.Math.min.name, .static Lib.Math.min.name, .initialized "java/lang/Math", .code Lib.Math.min.name Lib.Math.min.code 2 (some .int), .methodLink RX3 166 yX3_leftOver, .static yX3_leftOver, .code yX3_leftOver cX3_leftOver 3 (some .int), .static yX3_cut, .code yX3_cut cX3_cut 2 (some .int)] ++ wsX10)
def wsX1_copyOf : List Cond := .code yX1_copyOf cX1_copyOf 2 (some .int) :: ([.fieldLink RX1 34 "SlotStar$Machine" "turns" "I", .static yX3_cut, .initialized RX3, .code yX3_cut cX3_cut 2 (some .int)] ++ wsX10)
def wsX1_endOf : List Cond := .code yX1_endOf cX1_endOf 3 (some .int) :: ([.fieldLink RX1 7 "SlotStar$Machine" "slots" "I", .static yX3_leftOver, .initialized RX3, .code yX3_leftOver cX3_leftOver 3 (some .int)] ++ wsX10)
def wsX1_coilEndingIn : List Cond := .code yX1_coilEndingIn cX1_coilEndingIn 2 (some .int) :: ([.fieldLink RX1 19 "SlotStar$Machine" "width" "I", .fieldLink RX1 7 "SlotStar$Machine" "slots" "I", .static yX3_leftOver, .initialized RX3, .code yX3_leftOver cX3_leftOver 3 (some .int)] ++ wsX10)
def wsX1_countSides_r1 : List Cond := [Cond.fieldLink RX1 7 "SlotStar$Machine" "slots" "I", Cond.methodLink RX1 51 yX1_phaseOf, Cond.instanceMethod yX1_phaseOf, Cond.selects RX1 yX1_phaseOf yX1_phaseOf, Cond.initialized RX1, Cond.code yX1_phaseOf cX1_phaseOf 3 (some .int), Cond.fieldLink RX1 16 "SlotStar$Machine" "phases" "I", Cond.methodLink RX1 48 yX1_zoneOf, Cond.instanceMethod yX1_zoneOf, Cond.selects RX1 yX1_zoneOf yX1_zoneOf, Cond.code yX1_zoneOf cX1_zoneOf 2 (some .int), Cond.fieldLink RX1 34 "SlotStar$Machine" "turns" "I", Cond.methodLink RX1 44 yX1_turnOf, Cond.instanceMethod yX1_turnOf, Cond.selects RX1 yX1_turnOf yX1_turnOf, Cond.code yX1_turnOf cX1_turnOf 2 (some .int), Cond.fieldLink RX1 13 "SlotStar$Machine" "pairs" "I", Cond.fieldLink RX1 28 "SlotStar$Machine" "copies" "I", Cond.static yX3_leftOver, Cond.initialized RX3, Cond.code yX3_leftOver cX3_leftOver 3 (some .int), Cond.static yX3_cut, Cond.code yX3_cut cX3_cut 2 (some .int), Cond.methodLink RX1 54 yX1_isForward]
def wsX1_countSides_r2 : List Cond := [Cond.instanceMethod yX1_isForward, Cond.selects RX1 yX1_isForward yX1_isForward, Cond.code yX1_isForward cX1_isForward 2 (some .boolean)]
def wsX1_countSides : List Cond := .code yX1_countSides cX1_countSides 5 (some .int) :: ((wsX1_countSides_r1 ++ wsX1_countSides_r2) ++ wsX10)
def wsX2_init : List Cond := .code yX2_init cX2_init 1 none :: ([.methodLink RX2 3 objectInit, .instanceMethod objectInit, .code objectInit ⟨#[0xb1]⟩ 1 none, .arrayClass .int, .fieldLink RX2 9 "SlotStar$Root" "numbers" "[I"] ++ wsX20)
def wsJ7_fill_53178 : List Cond := .code yJ7_fill_53178 cJ7_fill_53178 4 none :: ([])
def wsX2_moebius : List Cond := .code yX2_moebius cX2_moebius 4 (some .int) :: ([.static yX3_leftOver, .initialized RX3, .code yX3_leftOver cX3_leftOver 3 (some .int), .static yX3_cut, .code yX3_cut cX3_cut 2 (some .int)])
def wsX2_multiplyByOneLess : List Cond := .code yX2_multiplyByOneLess cX2_multiplyByOneLess 3 none :: ([.fieldLink RX2 15 "SlotStar$Root" "turns" "I", .fieldLink RX2 9 "SlotStar$Root" "numbers" "[I", .static yX3_at, .initialized RX3, .code yX3_at cX3_at 2 (some .int), .methodLink RX3 44 yX3_isWithin, .static yX3_isWithin, .code yX3_isWithin cX3_isWithin 3 (some .boolean), .static yX3_put, .code yX3_put cX3_put 3 none] ++ wsX20)
def wsX2_divideByOneLess : List Cond := .code yX2_divideByOneLess cX2_divideByOneLess 3 none :: ([.fieldLink RX2 15 "SlotStar$Root" "turns" "I", .fieldLink RX2 9 "SlotStar$Root" "numbers" "[I", .static yX3_at, .initialized RX3, .code yX3_at cX3_at 2 (some .int), .methodLink RX3 44 yX3_isWithin, .static yX3_isWithin, .code yX3_isWithin cX3_isWithin 3 (some .boolean), .static yX3_put, .code yX3_put cX3_put 3 none] ++ wsX20)
def wsX2_highestPower : List Cond := .code yX2_highestPower cX2_highestPower 2 (some .int) :: ([.fieldLink RX2 15 "SlotStar$Root" "turns" "I", .fieldLink RX2 9 "SlotStar$Root" "numbers" "[I", .static yX3_at, .initialized RX3, .code yX3_at cX3_at 2 (some .int), .methodLink RX3 44 yX3_isWithin, .static yX3_isWithin, .code yX3_isWithin cX3_isWithin 3 (some .boolean)] ++ wsX20)
def wsX2_become_r1 : List Cond := [Cond.fieldLink RX2 15 "SlotStar$Root" "turns" "I", Cond.fieldLink RX2 9 "SlotStar$Root" "numbers" "[I", Cond.fieldLink RX2 51 "SlotStar$Root" "degree" "I", Cond.methodLink RX2 19 yJ7_fill_53178, Cond.static yJ7_fill_53178, Cond.initialized RJ7, Cond.code yJ7_fill_53178 cJ7_fill_53178 4 none, Cond.static yX3_put, Cond.initialized RX3, Cond.code yX3_put cX3_put 3 none, Cond.methodLink RX3 44 yX3_isWithin, Cond.static yX3_isWithin, Cond.code yX3_isWithin cX3_isWithin 3 (some .boolean), Cond.static yX3_leftOver, Cond.code yX3_leftOver cX3_leftOver 3 (some .int), Cond.static yX3_cut, Cond.code yX3_cut cX3_cut 2 (some .int), Cond.methodLink RX2 36 yX2_moebius, Cond.static yX2_moebius, Cond.initialized RX2, Cond.code yX2_moebius cX2_moebius 4 (some .int), Cond.methodLink RX2 40 yX2_multiplyByOneLess, Cond.instanceMethod yX2_multiplyByOneLess, Cond.selects RX2 yX2_multiplyByOneLess yX2_multiplyByOneLess]
def wsX2_become_r2 : List Cond := [Cond.code yX2_multiplyByOneLess cX2_multiplyByOneLess 3 none, Cond.static yX3_at, Cond.code yX3_at cX3_at 2 (some .int), Cond.methodLink RX2 44 yX2_divideByOneLess, Cond.instanceMethod yX2_divideByOneLess, Cond.selects RX2 yX2_divideByOneLess yX2_divideByOneLess, Cond.code yX2_divideByOneLess cX2_divideByOneLess 3 none, Cond.methodLink RX2 47 yX2_highestPower, Cond.instanceMethod yX2_highestPower, Cond.selects RX2 yX2_highestPower yX2_highestPower, Cond.code yX2_highestPower cX2_highestPower 2 (some .int)]
def wsX2_become : List Cond := .code yX2_become cX2_become 4 none :: ((wsX2_become_r1 ++ wsX2_become_r2) ++ wsX20)
def wsX2_reduce : List Cond := .code yX2_reduce cX2_reduce 6 none :: ([.fieldLink RX2 15 "SlotStar$Root" "turns" "I", .fieldLink RX2 51 "SlotStar$Root" "degree" "I", .fieldLink RX2 9 "SlotStar$Root" "numbers" "[I", .static yX3_at, .initialized RX3, .code yX3_at cX3_at 2 (some .int), .methodLink RX3 44 yX3_isWithin, .static yX3_isWithin, .code yX3_isWithin cX3_isWithin 3 (some .boolean), .static yX3_put, .code yX3_put cX3_put 3 none] ++ wsX20)
def wsX2_multiplyByX : List Cond := .code yX2_multiplyByX cX2_multiplyByX 4 none :: ([.fieldLink RX2 51 "SlotStar$Root" "degree" "I", .fieldLink RX2 9 "SlotStar$Root" "numbers" "[I", .static yX3_at, .initialized RX3, .code yX3_at cX3_at 2 (some .int), .methodLink RX3 44 yX3_isWithin, .static yX3_isWithin, .code yX3_isWithin cX3_isWithin 3 (some .boolean), .static yX3_put, .code yX3_put cX3_put 3 none] ++ wsX20)
def wsX2_isZero : List Cond := .code yX2_isZero cX2_isZero 3 (some .boolean) :: ([.fieldLink RX2 51 "SlotStar$Root" "degree" "I", .static yX3_at, .initialized RX3, .code yX3_at cX3_at 2 (some .int), .methodLink RX3 44 yX3_isWithin, .static yX3_isWithin, .code yX3_isWithin cX3_isWithin 3 (some .boolean)] ++ wsX20)
def wsX2_areSame : List Cond := .code yX2_areSame cX2_areSame 4 (some .boolean) :: ([.fieldLink RX2 51 "SlotStar$Root" "degree" "I", .static yX3_at, .initialized RX3, .code yX3_at cX3_at 2 (some .int), .methodLink RX3 44 yX3_isWithin, .static yX3_isWithin, .code yX3_isWithin cX3_isWithin 3 (some .boolean)] ++ wsX20)
def wsX3_take_r1 : List Cond := [Cond.fieldLink RX3 10 "SlotStar" "star" "LSlotStar$Machine;", Cond.fieldLink RX3 19 "SlotStar" "root" "LSlotStar$Root;", Cond.fieldLink RX3 52 "SlotStar$Machine" "turns" "I", Cond.methodLink RX3 173 yX1_become, Cond.instanceMethod yX1_become, Cond.selects RX1 yX1_become yX1_become, Cond.initialized RX1, Cond.code yX1_become cX1_become 5 none, Cond.fieldLink RX1 7 "SlotStar$Machine" "slots" "I", Cond.fieldLink RX1 13 "SlotStar$Machine" "pairs" "I", Cond.fieldLink RX1 16 "SlotStar$Machine" "phases" "I", Cond.fieldLink RX1 19 "SlotStar$Machine" "width" "I", Cond.fieldLink RX1 28 "SlotStar$Machine" "copies" "I", Cond.fieldLink RX1 34 "SlotStar$Machine" "turns" "I", Cond.static yX3_commonDivisor, Cond.initialized RX3, Cond.code yX3_commonDivisor cX3_commonDivisor 3 (some .int), Cond.methodLink RX3 200 Lib.Math.min.name, Cond.static Lib.Math.min.name, Cond.initialized "java/lang/Math", Cond.code Lib.Math.min.name Lib.Math.min.code 2 (some .int), Cond.methodLink RX3 166 yX3_leftOver, Cond.static yX3_leftOver, Cond.code yX3_leftOver cX3_leftOver 3 (some .int)]
def wsX3_take_r2 : List Cond := [Cond.static yX3_cut, Cond.code yX3_cut cX3_cut 2 (some .int), Cond.methodLink RX3 176 yX2_become, Cond.instanceMethod yX2_become, Cond.selects RX2 yX2_become yX2_become, Cond.initialized RX2, Cond.code yX2_become cX2_become 4 none, Cond.fieldLink RX2 15 "SlotStar$Root" "turns" "I", Cond.fieldLink RX2 9 "SlotStar$Root" "numbers" "[I", Cond.fieldLink RX2 51 "SlotStar$Root" "degree" "I", Cond.methodLink RX2 19 yJ7_fill_53178, Cond.static yJ7_fill_53178, Cond.initialized RJ7, Cond.code yJ7_fill_53178 cJ7_fill_53178 4 none, Cond.static yX3_put, Cond.code yX3_put cX3_put 3 none, Cond.methodLink RX3 44 yX3_isWithin, Cond.static yX3_isWithin, Cond.code yX3_isWithin cX3_isWithin 3 (some .boolean), Cond.methodLink RX2 36 yX2_moebius, Cond.static yX2_moebius, Cond.code yX2_moebius cX2_moebius 4 (some .int), Cond.methodLink RX2 40 yX2_multiplyByOneLess, Cond.instanceMethod yX2_multiplyByOneLess]
def wsX3_take_r3 : List Cond := [Cond.selects RX2 yX2_multiplyByOneLess yX2_multiplyByOneLess, Cond.code yX2_multiplyByOneLess cX2_multiplyByOneLess 3 none, Cond.static yX3_at, Cond.code yX3_at cX3_at 2 (some .int), Cond.methodLink RX2 44 yX2_divideByOneLess, Cond.instanceMethod yX2_divideByOneLess, Cond.selects RX2 yX2_divideByOneLess yX2_divideByOneLess, Cond.code yX2_divideByOneLess cX2_divideByOneLess 3 none, Cond.methodLink RX2 47 yX2_highestPower, Cond.instanceMethod yX2_highestPower, Cond.selects RX2 yX2_highestPower yX2_highestPower, Cond.code yX2_highestPower cX2_highestPower 2 (some .int)]
def wsX3_take : List Cond := .code yX3_take cX3_take 5 none :: ((wsX3_take_r1 ++ (wsX3_take_r2 ++ wsX3_take_r3)) ++ wsX30 ++ wsX10 ++ wsX20)
def wsX3_init_r1 : List Cond := [Cond.methodLink RX3 1 objectInit, Cond.instanceMethod objectInit, Cond.code objectInit ⟨#[0xb1]⟩ 1 none, Cond.classLink RX3 7 RX1, Cond.instantiable RX1 6, Cond.initialized RX1, Cond.fieldLink RX3 10 "SlotStar" "star" "LSlotStar$Machine;", Cond.classLink RX3 16 RX2, Cond.instantiable RX2 3, Cond.initialized RX2, Cond.fieldLink RX3 19 "SlotStar" "root" "LSlotStar$Root;", Cond.classLink RX3 23 RX0, Cond.instantiable RX0 6, Cond.initialized RX0, Cond.fieldLink RX3 26 "SlotStar" "joint" "LSlotStar$Joint;", Cond.arrayClass .int, Cond.fieldLink RX3 30 "SlotStar" "first" "[I", Cond.fieldLink RX3 34 "SlotStar" "second" "[I", Cond.fieldLink RX3 37 "SlotStar" "images" "[I", Cond.instanceMethod yX1_init, Cond.code yX1_init cX1_init 1 none, Cond.methodLink RX1 1 objectInit, Cond.instanceMethod yX2_init, Cond.code yX2_init cX2_init 1 none]
def wsX3_init_r2 : List Cond := [Cond.methodLink RX2 3 objectInit, Cond.fieldLink RX2 9 "SlotStar$Root" "numbers" "[I", Cond.instanceMethod yX0_init, Cond.code yX0_init cX0_init 1 none, Cond.methodLink RX0 3 objectInit, Cond.fieldLink RX0 9 "SlotStar$Joint" "forwardSlots" "[I", Cond.fieldLink RX0 15 "SlotStar$Joint" "backSlots" "[I", Cond.methodLink RX3 40 yX3_take, Cond.instanceMethod yX3_take, Cond.selects RX3 yX3_take yX3_take, Cond.initialized RX3, Cond.code yX3_take cX3_take 5 none, Cond.fieldLink RX3 52 "SlotStar$Machine" "turns" "I", Cond.methodLink RX3 173 yX1_become, Cond.instanceMethod yX1_become, Cond.selects RX1 yX1_become yX1_become, Cond.code yX1_become cX1_become 5 none, Cond.fieldLink RX1 7 "SlotStar$Machine" "slots" "I", Cond.fieldLink RX1 13 "SlotStar$Machine" "pairs" "I", Cond.fieldLink RX1 16 "SlotStar$Machine" "phases" "I", Cond.fieldLink RX1 19 "SlotStar$Machine" "width" "I", Cond.fieldLink RX1 28 "SlotStar$Machine" "copies" "I", Cond.fieldLink RX1 34 "SlotStar$Machine" "turns" "I", Cond.static yX3_commonDivisor]
def wsX3_init_r3 : List Cond := [Cond.code yX3_commonDivisor cX3_commonDivisor 3 (some .int), Cond.methodLink RX3 200 Lib.Math.min.name, Cond.static Lib.Math.min.name, Cond.initialized "java/lang/Math", Cond.code Lib.Math.min.name Lib.Math.min.code 2 (some .int), Cond.methodLink RX3 166 yX3_leftOver, Cond.static yX3_leftOver, Cond.code yX3_leftOver cX3_leftOver 3 (some .int), Cond.static yX3_cut, Cond.code yX3_cut cX3_cut 2 (some .int), Cond.methodLink RX3 176 yX2_become, Cond.instanceMethod yX2_become, Cond.selects RX2 yX2_become yX2_become, Cond.code yX2_become cX2_become 4 none, Cond.fieldLink RX2 15 "SlotStar$Root" "turns" "I", Cond.fieldLink RX2 51 "SlotStar$Root" "degree" "I", Cond.methodLink RX2 19 yJ7_fill_53178, Cond.static yJ7_fill_53178, Cond.initialized RJ7, Cond.code yJ7_fill_53178 cJ7_fill_53178 4 none, Cond.static yX3_put, Cond.code yX3_put cX3_put 3 none, Cond.methodLink RX3 44 yX3_isWithin, Cond.static yX3_isWithin]
def wsX3_init_r4 : List Cond := [Cond.code yX3_isWithin cX3_isWithin 3 (some .boolean), Cond.methodLink RX2 36 yX2_moebius, Cond.static yX2_moebius, Cond.code yX2_moebius cX2_moebius 4 (some .int), Cond.methodLink RX2 40 yX2_multiplyByOneLess, Cond.instanceMethod yX2_multiplyByOneLess, Cond.selects RX2 yX2_multiplyByOneLess yX2_multiplyByOneLess, Cond.code yX2_multiplyByOneLess cX2_multiplyByOneLess 3 none, Cond.static yX3_at, Cond.code yX3_at cX3_at 2 (some .int), Cond.methodLink RX2 44 yX2_divideByOneLess, Cond.instanceMethod yX2_divideByOneLess, Cond.selects RX2 yX2_divideByOneLess yX2_divideByOneLess, Cond.code yX2_divideByOneLess cX2_divideByOneLess 3 none, Cond.methodLink RX2 47 yX2_highestPower, Cond.instanceMethod yX2_highestPower, Cond.selects RX2 yX2_highestPower yX2_highestPower, Cond.code yX2_highestPower cX2_highestPower 2 (some .int)]
def wsX3_init : List Cond := .code yX3_init cX3_init 1 none :: ((wsX3_init_r1 ++ (wsX3_init_r2 ++ (wsX3_init_r3 ++ wsX3_init_r4))) ++ wsX10 ++ wsX30 ++ wsX20 ++ wsX00)
def wsX3_poleWidth : List Cond := .code yX3_poleWidth cX3_poleWidth 2 (some .int) :: ([.methodLink RX3 195 Lib.Math.max.name, .static Lib.Math.max.name, .initialized "java/lang/Math", .code Lib.Math.max.name Lib.Math.max.code 2 (some .int), .methodLink RX3 112 yX3_cut, .static yX3_cut, .initialized RX3, .code yX3_cut cX3_cut 2 (some .int)])
def wsX3_machine_r1 : List Cond := [Cond.fieldLink RX3 10 "SlotStar" "star" "LSlotStar$Machine;", Cond.fieldLink RX3 52 "SlotStar$Machine" "turns" "I", Cond.methodLink RX3 44 yX3_isWithin, Cond.static yX3_isWithin, Cond.initialized RX3, Cond.code yX3_isWithin cX3_isWithin 3 (some .boolean), Cond.methodLink RX3 48 yX3_poleWidth, Cond.static yX3_poleWidth, Cond.code yX3_poleWidth cX3_poleWidth 2 (some .int), Cond.methodLink RX3 195 Lib.Math.max.name, Cond.static Lib.Math.max.name, Cond.initialized "java/lang/Math", Cond.code Lib.Math.max.name Lib.Math.max.code 2 (some .int), Cond.methodLink RX3 112 yX3_cut, Cond.static yX3_cut, Cond.code yX3_cut cX3_cut 2 (some .int), Cond.methodLink RX3 40 yX3_take, Cond.instanceMethod yX3_take, Cond.selects RX3 yX3_take yX3_take, Cond.code yX3_take cX3_take 5 none, Cond.fieldLink RX3 19 "SlotStar" "root" "LSlotStar$Root;", Cond.methodLink RX3 173 yX1_become, Cond.instanceMethod yX1_become, Cond.selects RX1 yX1_become yX1_become]
def wsX3_machine_r2 : List Cond := [Cond.initialized RX1, Cond.code yX1_become cX1_become 5 none, Cond.fieldLink RX1 7 "SlotStar$Machine" "slots" "I", Cond.fieldLink RX1 13 "SlotStar$Machine" "pairs" "I", Cond.fieldLink RX1 16 "SlotStar$Machine" "phases" "I", Cond.fieldLink RX1 19 "SlotStar$Machine" "width" "I", Cond.fieldLink RX1 28 "SlotStar$Machine" "copies" "I", Cond.fieldLink RX1 34 "SlotStar$Machine" "turns" "I", Cond.static yX3_commonDivisor, Cond.code yX3_commonDivisor cX3_commonDivisor 3 (some .int), Cond.methodLink RX3 200 Lib.Math.min.name, Cond.static Lib.Math.min.name, Cond.code Lib.Math.min.name Lib.Math.min.code 2 (some .int), Cond.methodLink RX3 166 yX3_leftOver, Cond.static yX3_leftOver, Cond.code yX3_leftOver cX3_leftOver 3 (some .int), Cond.methodLink RX3 176 yX2_become, Cond.instanceMethod yX2_become, Cond.selects RX2 yX2_become yX2_become, Cond.initialized RX2, Cond.code yX2_become cX2_become 4 none, Cond.fieldLink RX2 15 "SlotStar$Root" "turns" "I", Cond.fieldLink RX2 9 "SlotStar$Root" "numbers" "[I", Cond.fieldLink RX2 51 "SlotStar$Root" "degree" "I"]
def wsX3_machine_r3 : List Cond := [Cond.methodLink RX2 19 yJ7_fill_53178, Cond.static yJ7_fill_53178, Cond.initialized RJ7, Cond.code yJ7_fill_53178 cJ7_fill_53178 4 none, Cond.static yX3_put, Cond.code yX3_put cX3_put 3 none, Cond.methodLink RX2 36 yX2_moebius, Cond.static yX2_moebius, Cond.code yX2_moebius cX2_moebius 4 (some .int), Cond.methodLink RX2 40 yX2_multiplyByOneLess, Cond.instanceMethod yX2_multiplyByOneLess, Cond.selects RX2 yX2_multiplyByOneLess yX2_multiplyByOneLess, Cond.code yX2_multiplyByOneLess cX2_multiplyByOneLess 3 none, Cond.static yX3_at, Cond.code yX3_at cX3_at 2 (some .int), Cond.methodLink RX2 44 yX2_divideByOneLess, Cond.instanceMethod yX2_divideByOneLess, Cond.selects RX2 yX2_divideByOneLess yX2_divideByOneLess, Cond.code yX2_divideByOneLess cX2_divideByOneLess 3 none, Cond.methodLink RX2 47 yX2_highestPower, Cond.instanceMethod yX2_highestPower, Cond.selects RX2 yX2_highestPower yX2_highestPower, Cond.code yX2_highestPower cX2_highestPower 2 (some .int)]
def wsX3_machine : List Cond := .code yX3_machine cX3_machine 4 (some .int) :: ((wsX3_machine_r1 ++ (wsX3_machine_r2 ++ wsX3_machine_r3)) ++ wsX30 ++ wsX10 ++ wsX20)
def wsX3_width : List Cond := .code yX3_width cX3_width 3 (some .int) :: ([.fieldLink RX3 10 "SlotStar" "star" "LSlotStar$Machine;", .fieldLink RX3 56 "SlotStar$Machine" "slots" "I", .fieldLink RX3 59 "SlotStar$Machine" "width" "I", .methodLink RX3 44 yX3_isWithin, .static yX3_isWithin, .initialized RX3, .code yX3_isWithin cX3_isWithin 3 (some .boolean)] ++ wsX30 ++ wsX10)
def wsX3_lacking : List Cond := .code yX3_lacking cX3_lacking 1 (some .int) :: ([.fieldLink RX3 10 "SlotStar" "star" "LSlotStar$Machine;", .methodLink RX3 62 yX1_lackingDivisor, .instanceMethod yX1_lackingDivisor, .selects RX1 yX1_lackingDivisor yX1_lackingDivisor, .initialized RX1, .code yX1_lackingDivisor cX1_lackingDivisor 1 (some .int), .fieldLink RX1 16 "SlotStar$Machine" "phases" "I", .fieldLink RX1 34 "SlotStar$Machine" "turns" "I", .static yX3_commonDivisor, .initialized RX3, .code yX3_commonDivisor cX3_commonDivisor 3 (some .int), .methodLink RX3 200 Lib.Math.min.name, .static Lib.Math.min.name, .initialized "java/lang/Math", .code Lib.Math.min.name Lib.Math.min.code 2 (some .int), .methodLink RX3 166 yX3_leftOver, .static yX3_leftOver, .code yX3_leftOver cX3_leftOver 3 (some .int), .static yX3_cut, .code yX3_cut cX3_cut 2 (some .int)] ++ wsX30 ++ wsX10)
def wsX3_isSlot : List Cond := .code yX3_isSlot cX3_isSlot 2 (some .boolean) :: ([.fieldLink RX3 10 "SlotStar" "star" "LSlotStar$Machine;", .fieldLink RX3 56 "SlotStar$Machine" "slots" "I", .methodLink RX3 44 yX3_isWithin, .static yX3_isWithin, .initialized RX3, .code yX3_isWithin cX3_isWithin 3 (some .boolean)] ++ wsX30 ++ wsX10)
def wsX3_slot_r1 : List Cond := [Cond.fieldLink RX3 10 "SlotStar" "star" "LSlotStar$Machine;", Cond.fieldLink RX3 59 "SlotStar$Machine" "width" "I", Cond.methodLink RX3 66 yX3_isSlot, Cond.instanceMethod yX3_isSlot, Cond.selects RX3 yX3_isSlot yX3_isSlot, Cond.initialized RX3, Cond.code yX3_isSlot cX3_isSlot 2 (some .boolean), Cond.fieldLink RX3 56 "SlotStar$Machine" "slots" "I", Cond.methodLink RX3 44 yX3_isWithin, Cond.static yX3_isWithin, Cond.code yX3_isWithin cX3_isWithin 3 (some .boolean), Cond.methodLink RX3 70 yX1_isBalanced, Cond.instanceMethod yX1_isBalanced, Cond.selects RX1 yX1_isBalanced yX1_isBalanced, Cond.initialized RX1, Cond.code yX1_isBalanced cX1_isBalanced 1 (some .boolean), Cond.methodLink RX1 37 yX1_lackingDivisor, Cond.instanceMethod yX1_lackingDivisor, Cond.selects RX1 yX1_lackingDivisor yX1_lackingDivisor, Cond.code yX1_lackingDivisor cX1_lackingDivisor 1 (some .int), Cond.fieldLink RX1 16 "SlotStar$Machine" "phases" "I", Cond.fieldLink RX1 34 "SlotStar$Machine" "turns" "I", Cond.static yX3_commonDivisor, Cond.code yX3_commonDivisor cX3_commonDivisor 3 (some .int)]
def wsX3_slot_r2 : List Cond := [Cond.methodLink RX3 200 Lib.Math.min.name, Cond.static Lib.Math.min.name, Cond.initialized "java/lang/Math", Cond.code Lib.Math.min.name Lib.Math.min.code 2 (some .int), Cond.methodLink RX3 166 yX3_leftOver, Cond.static yX3_leftOver, Cond.code yX3_leftOver cX3_leftOver 3 (some .int), Cond.static yX3_cut, Cond.code yX3_cut cX3_cut 2 (some .int), Cond.methodLink RX3 74 yX1_turnOf, Cond.instanceMethod yX1_turnOf, Cond.selects RX1 yX1_turnOf yX1_turnOf, Cond.code yX1_turnOf cX1_turnOf 2 (some .int), Cond.fieldLink RX1 13 "SlotStar$Machine" "pairs" "I", Cond.fieldLink RX1 7 "SlotStar$Machine" "slots" "I", Cond.fieldLink RX1 28 "SlotStar$Machine" "copies" "I", Cond.methodLink RX3 78 yX1_copyOf, Cond.instanceMethod yX1_copyOf, Cond.selects RX1 yX1_copyOf yX1_copyOf, Cond.code yX1_copyOf cX1_copyOf 2 (some .int), Cond.methodLink RX3 81 yX1_zoneOf, Cond.instanceMethod yX1_zoneOf, Cond.selects RX1 yX1_zoneOf yX1_zoneOf, Cond.code yX1_zoneOf cX1_zoneOf 2 (some .int)]
def wsX3_slot_r3 : List Cond := [Cond.methodLink RX1 44 yX1_turnOf, Cond.methodLink RX3 84 yX1_phaseOf, Cond.instanceMethod yX1_phaseOf, Cond.selects RX1 yX1_phaseOf yX1_phaseOf, Cond.code yX1_phaseOf cX1_phaseOf 3 (some .int), Cond.methodLink RX1 48 yX1_zoneOf, Cond.methodLink RX3 87 yX1_isForward, Cond.instanceMethod yX1_isForward, Cond.selects RX1 yX1_isForward yX1_isForward, Cond.code yX1_isForward cX1_isForward 2 (some .boolean), Cond.methodLink RX3 90 yX1_endOf, Cond.instanceMethod yX1_endOf, Cond.selects RX1 yX1_endOf yX1_endOf, Cond.code yX1_endOf cX1_endOf 3 (some .int), Cond.methodLink RX3 93 yX1_coilEndingIn, Cond.instanceMethod yX1_coilEndingIn, Cond.selects RX1 yX1_coilEndingIn yX1_coilEndingIn, Cond.code yX1_coilEndingIn cX1_coilEndingIn 2 (some .int), Cond.fieldLink RX1 19 "SlotStar$Machine" "width" "I"]
def wsX3_slot : List Cond := .code yX3_slot cX3_slot 3 (some .int) :: ((wsX3_slot_r1 ++ (wsX3_slot_r2 ++ wsX3_slot_r3)) ++ wsX30 ++ wsX10)
def wsX3_isPhase : List Cond := .code yX3_isPhase cX3_isPhase 2 (some .boolean) :: ([.fieldLink RX3 10 "SlotStar" "star" "LSlotStar$Machine;", .fieldLink RX3 106 "SlotStar$Machine" "phases" "I", .methodLink RX3 44 yX3_isWithin, .static yX3_isWithin, .initialized RX3, .code yX3_isWithin cX3_isWithin 3 (some .boolean)] ++ wsX30 ++ wsX10)
def wsX3_phase_r1 : List Cond := [Cond.fieldLink RX3 10 "SlotStar" "star" "LSlotStar$Machine;", Cond.methodLink RX3 96 yX3_isPhase, Cond.instanceMethod yX3_isPhase, Cond.selects RX3 yX3_isPhase yX3_isPhase, Cond.initialized RX3, Cond.code yX3_isPhase cX3_isPhase 2 (some .boolean), Cond.fieldLink RX3 106 "SlotStar$Machine" "phases" "I", Cond.methodLink RX3 44 yX3_isWithin, Cond.static yX3_isWithin, Cond.code yX3_isWithin cX3_isWithin 3 (some .boolean), Cond.methodLink RX3 70 yX1_isBalanced, Cond.instanceMethod yX1_isBalanced, Cond.selects RX1 yX1_isBalanced yX1_isBalanced, Cond.initialized RX1, Cond.code yX1_isBalanced cX1_isBalanced 1 (some .boolean), Cond.methodLink RX1 37 yX1_lackingDivisor, Cond.instanceMethod yX1_lackingDivisor, Cond.selects RX1 yX1_lackingDivisor yX1_lackingDivisor, Cond.code yX1_lackingDivisor cX1_lackingDivisor 1 (some .int), Cond.fieldLink RX1 16 "SlotStar$Machine" "phases" "I", Cond.fieldLink RX1 34 "SlotStar$Machine" "turns" "I", Cond.static yX3_commonDivisor, Cond.code yX3_commonDivisor cX3_commonDivisor 3 (some .int), Cond.methodLink RX3 200 Lib.Math.min.name]
def wsX3_phase_r2 : List Cond := [Cond.static Lib.Math.min.name, Cond.initialized "java/lang/Math", Cond.code Lib.Math.min.name Lib.Math.min.code 2 (some .int), Cond.methodLink RX3 166 yX3_leftOver, Cond.static yX3_leftOver, Cond.code yX3_leftOver cX3_leftOver 3 (some .int), Cond.static yX3_cut, Cond.code yX3_cut cX3_cut 2 (some .int), Cond.methodLink RX3 99 yX1_countSides, Cond.instanceMethod yX1_countSides, Cond.selects RX1 yX1_countSides yX1_countSides, Cond.code yX1_countSides cX1_countSides 5 (some .int), Cond.fieldLink RX1 7 "SlotStar$Machine" "slots" "I", Cond.methodLink RX1 51 yX1_phaseOf, Cond.instanceMethod yX1_phaseOf, Cond.selects RX1 yX1_phaseOf yX1_phaseOf, Cond.code yX1_phaseOf cX1_phaseOf 3 (some .int), Cond.methodLink RX1 48 yX1_zoneOf, Cond.instanceMethod yX1_zoneOf, Cond.selects RX1 yX1_zoneOf yX1_zoneOf, Cond.code yX1_zoneOf cX1_zoneOf 2 (some .int), Cond.methodLink RX1 44 yX1_turnOf, Cond.instanceMethod yX1_turnOf, Cond.selects RX1 yX1_turnOf yX1_turnOf]
def wsX3_phase_r3 : List Cond := [Cond.code yX1_turnOf cX1_turnOf 2 (some .int), Cond.fieldLink RX1 13 "SlotStar$Machine" "pairs" "I", Cond.fieldLink RX1 28 "SlotStar$Machine" "copies" "I", Cond.methodLink RX1 54 yX1_isForward, Cond.instanceMethod yX1_isForward, Cond.selects RX1 yX1_isForward yX1_isForward, Cond.code yX1_isForward cX1_isForward 2 (some .boolean)]
def wsX3_phase : List Cond := .code yX3_phase cX3_phase 3 (some .int) :: ((wsX3_phase_r1 ++ (wsX3_phase_r2 ++ wsX3_phase_r3)) ++ wsX30 ++ wsX10)
def wsX3_layer_r1 : List Cond := [Cond.fieldLink RX3 10 "SlotStar" "star" "LSlotStar$Machine;", Cond.methodLink RX3 66 yX3_isSlot, Cond.instanceMethod yX3_isSlot, Cond.selects RX3 yX3_isSlot yX3_isSlot, Cond.initialized RX3, Cond.code yX3_isSlot cX3_isSlot 2 (some .boolean), Cond.fieldLink RX3 56 "SlotStar$Machine" "slots" "I", Cond.methodLink RX3 44 yX3_isWithin, Cond.static yX3_isWithin, Cond.code yX3_isWithin cX3_isWithin 3 (some .boolean), Cond.methodLink RX3 70 yX1_isBalanced, Cond.instanceMethod yX1_isBalanced, Cond.selects RX1 yX1_isBalanced yX1_isBalanced, Cond.initialized RX1, Cond.code yX1_isBalanced cX1_isBalanced 1 (some .boolean), Cond.methodLink RX1 37 yX1_lackingDivisor, Cond.instanceMethod yX1_lackingDivisor, Cond.selects RX1 yX1_lackingDivisor yX1_lackingDivisor, Cond.code yX1_lackingDivisor cX1_lackingDivisor 1 (some .int), Cond.fieldLink RX1 16 "SlotStar$Machine" "phases" "I", Cond.fieldLink RX1 34 "SlotStar$Machine" "turns" "I", Cond.static yX3_commonDivisor, Cond.code yX3_commonDivisor cX3_commonDivisor 3 (some .int), Cond.methodLink RX3 200 Lib.Math.min.name]
def wsX3_layer_r2 : List Cond := [Cond.static Lib.Math.min.name, Cond.initialized "java/lang/Math", Cond.code Lib.Math.min.name Lib.Math.min.code 2 (some .int), Cond.methodLink RX3 166 yX3_leftOver, Cond.static yX3_leftOver, Cond.code yX3_leftOver cX3_leftOver 3 (some .int), Cond.static yX3_cut, Cond.code yX3_cut cX3_cut 2 (some .int), Cond.methodLink RX3 93 yX1_coilEndingIn, Cond.instanceMethod yX1_coilEndingIn, Cond.selects RX1 yX1_coilEndingIn yX1_coilEndingIn, Cond.code yX1_coilEndingIn cX1_coilEndingIn 2 (some .int), Cond.fieldLink RX1 19 "SlotStar$Machine" "width" "I", Cond.fieldLink RX1 7 "SlotStar$Machine" "slots" "I", Cond.methodLink RX3 87 yX1_isForward, Cond.instanceMethod yX1_isForward, Cond.selects RX1 yX1_isForward yX1_isForward, Cond.code yX1_isForward cX1_isForward 2 (some .boolean), Cond.methodLink RX1 48 yX1_zoneOf, Cond.instanceMethod yX1_zoneOf, Cond.selects RX1 yX1_zoneOf yX1_zoneOf, Cond.code yX1_zoneOf cX1_zoneOf 2 (some .int), Cond.methodLink RX1 44 yX1_turnOf, Cond.instanceMethod yX1_turnOf]
def wsX3_layer_r3 : List Cond := [Cond.selects RX1 yX1_turnOf yX1_turnOf, Cond.code yX1_turnOf cX1_turnOf 2 (some .int), Cond.fieldLink RX1 13 "SlotStar$Machine" "pairs" "I", Cond.fieldLink RX1 28 "SlotStar$Machine" "copies" "I", Cond.methodLink RX3 84 yX1_phaseOf, Cond.instanceMethod yX1_phaseOf, Cond.selects RX1 yX1_phaseOf yX1_phaseOf, Cond.code yX1_phaseOf cX1_phaseOf 3 (some .int)]
def wsX3_layer : List Cond := .code yX3_layer cX3_layer 6 (some .int) :: ((wsX3_layer_r1 ++ (wsX3_layer_r2 ++ wsX3_layer_r3)) ++ wsX30 ++ wsX10)
def wsX3_each : List Cond := .code yX3_each cX3_each 4 (some .int) :: ([.fieldLink RX3 10 "SlotStar" "star" "LSlotStar$Machine;", .fieldLink RX3 103 "SlotStar$Machine" "pairs" "I", .fieldLink RX3 106 "SlotStar$Machine" "phases" "I", .fieldLink RX3 56 "SlotStar$Machine" "slots" "I", .methodLink RX3 44 yX3_isWithin, .static yX3_isWithin, .initialized RX3, .code yX3_isWithin cX3_isWithin 3 (some .boolean), .methodLink RX3 109 yX3_commonDivisor, .static yX3_commonDivisor, .code yX3_commonDivisor cX3_commonDivisor 3 (some .int), .methodLink RX3 200 Lib.Math.min.name, .static Lib.Math.min.name, .initialized "java/lang/Math", .code Lib.Math.min.name Lib.Math.min.code 2 (some .int), .methodLink RX3 166 yX3_leftOver, .static yX3_leftOver, .code yX3_leftOver cX3_leftOver 3 (some .int), .methodLink RX3 112 yX3_cut, .static yX3_cut, .code yX3_cut cX3_cut 2 (some .int)] ++ wsX30 ++ wsX10)
def wsX3_own : List Cond := .code yX3_own cX3_own 2 (some .int) :: ([.fieldLink RX3 19 "SlotStar" "root" "LSlotStar$Root;", .fieldLink RX3 115 "SlotStar$Root" "degree" "I", .fieldLink RX3 118 "SlotStar$Root" "numbers" "[I", .methodLink RX3 44 yX3_isWithin, .static yX3_isWithin, .initialized RX3, .code yX3_isWithin cX3_isWithin 3 (some .boolean), .methodLink RX3 121 yX3_at, .static yX3_at, .code yX3_at cX3_at 2 (some .int)] ++ wsX30 ++ wsX20)
def wsX3_isWave : List Cond := .code yX3_isWave cX3_isWave 1 (some .boolean) :: ([.methodLink RX3 44 yX3_isWithin, .static yX3_isWithin, .initialized RX3, .code yX3_isWithin cX3_isWithin 3 (some .boolean)])
def wsX3_addPower : List Cond := .code yX3_addPower cX3_addPower 5 none :: ([.fieldLink RX3 10 "SlotStar" "star" "LSlotStar$Machine;", .fieldLink RX3 52 "SlotStar$Machine" "turns" "I", .methodLink RX3 166 yX3_leftOver, .static yX3_leftOver, .initialized RX3, .code yX3_leftOver cX3_leftOver 3 (some .int), .methodLink RX3 121 yX3_at, .static yX3_at, .code yX3_at cX3_at 2 (some .int), .methodLink RX3 44 yX3_isWithin, .static yX3_isWithin, .code yX3_isWithin cX3_isWithin 3 (some .boolean), .methodLink RX3 169 yX3_put, .static yX3_put, .code yX3_put cX3_put 3 none] ++ wsX30 ++ wsX10)
def wsX3_addUp_r1 : List Cond := [Cond.fieldLink RX3 10 "SlotStar" "star" "LSlotStar$Machine;", Cond.fieldLink RX3 52 "SlotStar$Machine" "turns" "I", Cond.fieldLink RX3 19 "SlotStar" "root" "LSlotStar$Root;", Cond.methodLink RX3 179 yJ7_fill_53178, Cond.static yJ7_fill_53178, Cond.initialized RJ7, Cond.code yJ7_fill_53178 cJ7_fill_53178 4 none, Cond.methodLink RX3 84 yX1_phaseOf, Cond.instanceMethod yX1_phaseOf, Cond.selects RX1 yX1_phaseOf yX1_phaseOf, Cond.initialized RX1, Cond.code yX1_phaseOf cX1_phaseOf 3 (some .int), Cond.fieldLink RX1 16 "SlotStar$Machine" "phases" "I", Cond.methodLink RX1 48 yX1_zoneOf, Cond.instanceMethod yX1_zoneOf, Cond.selects RX1 yX1_zoneOf yX1_zoneOf, Cond.code yX1_zoneOf cX1_zoneOf 2 (some .int), Cond.fieldLink RX1 34 "SlotStar$Machine" "turns" "I", Cond.methodLink RX1 44 yX1_turnOf, Cond.instanceMethod yX1_turnOf, Cond.selects RX1 yX1_turnOf yX1_turnOf, Cond.code yX1_turnOf cX1_turnOf 2 (some .int), Cond.fieldLink RX1 13 "SlotStar$Machine" "pairs" "I", Cond.fieldLink RX1 7 "SlotStar$Machine" "slots" "I"]
def wsX3_addUp_r2 : List Cond := [Cond.fieldLink RX1 28 "SlotStar$Machine" "copies" "I", Cond.static yX3_leftOver, Cond.initialized RX3, Cond.code yX3_leftOver cX3_leftOver 3 (some .int), Cond.static yX3_cut, Cond.code yX3_cut cX3_cut 2 (some .int), Cond.methodLink RX3 87 yX1_isForward, Cond.instanceMethod yX1_isForward, Cond.selects RX1 yX1_isForward yX1_isForward, Cond.code yX1_isForward cX1_isForward 2 (some .boolean), Cond.methodLink RX3 74 yX1_turnOf, Cond.methodLink RX3 185 yX3_addPower, Cond.instanceMethod yX3_addPower, Cond.selects RX3 yX3_addPower yX3_addPower, Cond.code yX3_addPower cX3_addPower 5 none, Cond.methodLink RX3 166 yX3_leftOver, Cond.methodLink RX3 121 yX3_at, Cond.static yX3_at, Cond.code yX3_at cX3_at 2 (some .int), Cond.methodLink RX3 44 yX3_isWithin, Cond.static yX3_isWithin, Cond.code yX3_isWithin cX3_isWithin 3 (some .boolean), Cond.methodLink RX3 169 yX3_put, Cond.static yX3_put]
def wsX3_addUp_r3 : List Cond := [Cond.code yX3_put cX3_put 3 none, Cond.methodLink RX3 90 yX1_endOf, Cond.instanceMethod yX1_endOf, Cond.selects RX1 yX1_endOf yX1_endOf, Cond.code yX1_endOf cX1_endOf 3 (some .int), Cond.methodLink RX3 188 yX2_reduce, Cond.instanceMethod yX2_reduce, Cond.selects RX2 yX2_reduce yX2_reduce, Cond.initialized RX2, Cond.code yX2_reduce cX2_reduce 6 none, Cond.fieldLink RX2 15 "SlotStar$Root" "turns" "I", Cond.fieldLink RX2 51 "SlotStar$Root" "degree" "I", Cond.fieldLink RX2 9 "SlotStar$Root" "numbers" "[I"]
def wsX3_addUp : List Cond := .code yX3_addUp cX3_addUp 7 none :: ((wsX3_addUp_r1 ++ (wsX3_addUp_r2 ++ wsX3_addUp_r3)) ++ wsX30 ++ wsX10 ++ wsX20)
def wsX3_sum_r1 : List Cond := [Cond.constant RX3 125 (-100001), Cond.fieldLink RX3 19 "SlotStar" "root" "LSlotStar$Root;", Cond.fieldLink RX3 115 "SlotStar$Root" "degree" "I", Cond.constant RX3 129 (-100002), Cond.fieldLink RX3 10 "SlotStar" "star" "LSlotStar$Machine;", Cond.constant RX3 130 (-100003), Cond.fieldLink RX3 30 "SlotStar" "first" "[I", Cond.fieldLink RX3 59 "SlotStar$Machine" "width" "I", Cond.methodLink RX3 96 yX3_isPhase, Cond.instanceMethod yX3_isPhase, Cond.selects RX3 yX3_isPhase yX3_isPhase, Cond.initialized RX3, Cond.code yX3_isPhase cX3_isPhase 2 (some .boolean), Cond.fieldLink RX3 106 "SlotStar$Machine" "phases" "I", Cond.methodLink RX3 44 yX3_isWithin, Cond.static yX3_isWithin, Cond.code yX3_isWithin cX3_isWithin 3 (some .boolean), Cond.methodLink RX3 126 yX3_isWave, Cond.static yX3_isWave, Cond.code yX3_isWave cX3_isWave 1 (some .boolean), Cond.methodLink RX3 70 yX1_isBalanced, Cond.instanceMethod yX1_isBalanced, Cond.selects RX1 yX1_isBalanced yX1_isBalanced, Cond.initialized RX1]
def wsX3_sum_r2 : List Cond := [Cond.code yX1_isBalanced cX1_isBalanced 1 (some .boolean), Cond.methodLink RX1 37 yX1_lackingDivisor, Cond.instanceMethod yX1_lackingDivisor, Cond.selects RX1 yX1_lackingDivisor yX1_lackingDivisor, Cond.code yX1_lackingDivisor cX1_lackingDivisor 1 (some .int), Cond.fieldLink RX1 16 "SlotStar$Machine" "phases" "I", Cond.fieldLink RX1 34 "SlotStar$Machine" "turns" "I", Cond.static yX3_commonDivisor, Cond.code yX3_commonDivisor cX3_commonDivisor 3 (some .int), Cond.methodLink RX3 200 Lib.Math.min.name, Cond.static Lib.Math.min.name, Cond.initialized "java/lang/Math", Cond.code Lib.Math.min.name Lib.Math.min.code 2 (some .int), Cond.methodLink RX3 166 yX3_leftOver, Cond.static yX3_leftOver, Cond.code yX3_leftOver cX3_leftOver 3 (some .int), Cond.static yX3_cut, Cond.code yX3_cut cX3_cut 2 (some .int), Cond.methodLink RX3 131 yX3_addUp, Cond.instanceMethod yX3_addUp, Cond.selects RX3 yX3_addUp yX3_addUp, Cond.code yX3_addUp cX3_addUp 7 none, Cond.fieldLink RX3 52 "SlotStar$Machine" "turns" "I", Cond.methodLink RX3 179 yJ7_fill_53178]
def wsX3_sum_r3 : List Cond := [Cond.static yJ7_fill_53178, Cond.initialized RJ7, Cond.code yJ7_fill_53178 cJ7_fill_53178 4 none, Cond.methodLink RX3 84 yX1_phaseOf, Cond.instanceMethod yX1_phaseOf, Cond.selects RX1 yX1_phaseOf yX1_phaseOf, Cond.code yX1_phaseOf cX1_phaseOf 3 (some .int), Cond.methodLink RX1 48 yX1_zoneOf, Cond.instanceMethod yX1_zoneOf, Cond.selects RX1 yX1_zoneOf yX1_zoneOf, Cond.code yX1_zoneOf cX1_zoneOf 2 (some .int), Cond.methodLink RX1 44 yX1_turnOf, Cond.instanceMethod yX1_turnOf, Cond.selects RX1 yX1_turnOf yX1_turnOf, Cond.code yX1_turnOf cX1_turnOf 2 (some .int), Cond.fieldLink RX1 13 "SlotStar$Machine" "pairs" "I", Cond.fieldLink RX1 7 "SlotStar$Machine" "slots" "I", Cond.fieldLink RX1 28 "SlotStar$Machine" "copies" "I", Cond.methodLink RX3 87 yX1_isForward, Cond.instanceMethod yX1_isForward, Cond.selects RX1 yX1_isForward yX1_isForward, Cond.code yX1_isForward cX1_isForward 2 (some .boolean), Cond.methodLink RX3 74 yX1_turnOf, Cond.methodLink RX3 185 yX3_addPower]
def wsX3_sum_r4 : List Cond := [Cond.instanceMethod yX3_addPower, Cond.selects RX3 yX3_addPower yX3_addPower, Cond.code yX3_addPower cX3_addPower 5 none, Cond.methodLink RX3 121 yX3_at, Cond.static yX3_at, Cond.code yX3_at cX3_at 2 (some .int), Cond.methodLink RX3 169 yX3_put, Cond.static yX3_put, Cond.code yX3_put cX3_put 3 none, Cond.methodLink RX3 90 yX1_endOf, Cond.instanceMethod yX1_endOf, Cond.selects RX1 yX1_endOf yX1_endOf, Cond.code yX1_endOf cX1_endOf 3 (some .int), Cond.methodLink RX3 188 yX2_reduce, Cond.instanceMethod yX2_reduce, Cond.selects RX2 yX2_reduce yX2_reduce, Cond.initialized RX2, Cond.code yX2_reduce cX2_reduce 6 none, Cond.fieldLink RX2 15 "SlotStar$Root" "turns" "I", Cond.fieldLink RX2 51 "SlotStar$Root" "degree" "I", Cond.fieldLink RX2 9 "SlotStar$Root" "numbers" "[I"]
def wsX3_sum : List Cond := .code yX3_sum cX3_sum 4 (some .int) :: ((wsX3_sum_r1 ++ (wsX3_sum_r2 ++ (wsX3_sum_r3 ++ wsX3_sum_r4))) ++ wsX30 ++ wsX20 ++ wsX10)
def wsX3_isNothing_r1 : List Cond := [Cond.fieldLink RX3 30 "SlotStar" "first" "[I", Cond.fieldLink RX3 19 "SlotStar" "root" "LSlotStar$Root;", Cond.methodLink RX3 131 yX3_addUp, Cond.instanceMethod yX3_addUp, Cond.selects RX3 yX3_addUp yX3_addUp, Cond.initialized RX3, Cond.code yX3_addUp cX3_addUp 7 none, Cond.fieldLink RX3 10 "SlotStar" "star" "LSlotStar$Machine;", Cond.fieldLink RX3 52 "SlotStar$Machine" "turns" "I", Cond.methodLink RX3 179 yJ7_fill_53178, Cond.static yJ7_fill_53178, Cond.initialized RJ7, Cond.code yJ7_fill_53178 cJ7_fill_53178 4 none, Cond.methodLink RX3 84 yX1_phaseOf, Cond.instanceMethod yX1_phaseOf, Cond.selects RX1 yX1_phaseOf yX1_phaseOf, Cond.initialized RX1, Cond.code yX1_phaseOf cX1_phaseOf 3 (some .int), Cond.fieldLink RX1 16 "SlotStar$Machine" "phases" "I", Cond.methodLink RX1 48 yX1_zoneOf, Cond.instanceMethod yX1_zoneOf, Cond.selects RX1 yX1_zoneOf yX1_zoneOf, Cond.code yX1_zoneOf cX1_zoneOf 2 (some .int), Cond.fieldLink RX1 34 "SlotStar$Machine" "turns" "I"]
def wsX3_isNothing_r2 : List Cond := [Cond.methodLink RX1 44 yX1_turnOf, Cond.instanceMethod yX1_turnOf, Cond.selects RX1 yX1_turnOf yX1_turnOf, Cond.code yX1_turnOf cX1_turnOf 2 (some .int), Cond.fieldLink RX1 13 "SlotStar$Machine" "pairs" "I", Cond.fieldLink RX1 7 "SlotStar$Machine" "slots" "I", Cond.fieldLink RX1 28 "SlotStar$Machine" "copies" "I", Cond.static yX3_leftOver, Cond.code yX3_leftOver cX3_leftOver 3 (some .int), Cond.static yX3_cut, Cond.code yX3_cut cX3_cut 2 (some .int), Cond.methodLink RX3 87 yX1_isForward, Cond.instanceMethod yX1_isForward, Cond.selects RX1 yX1_isForward yX1_isForward, Cond.code yX1_isForward cX1_isForward 2 (some .boolean), Cond.methodLink RX3 74 yX1_turnOf, Cond.methodLink RX3 185 yX3_addPower, Cond.instanceMethod yX3_addPower, Cond.selects RX3 yX3_addPower yX3_addPower, Cond.code yX3_addPower cX3_addPower 5 none, Cond.methodLink RX3 166 yX3_leftOver, Cond.methodLink RX3 121 yX3_at, Cond.static yX3_at, Cond.code yX3_at cX3_at 2 (some .int)]
def wsX3_isNothing_r3 : List Cond := [Cond.methodLink RX3 44 yX3_isWithin, Cond.static yX3_isWithin, Cond.code yX3_isWithin cX3_isWithin 3 (some .boolean), Cond.methodLink RX3 169 yX3_put, Cond.static yX3_put, Cond.code yX3_put cX3_put 3 none, Cond.methodLink RX3 90 yX1_endOf, Cond.instanceMethod yX1_endOf, Cond.selects RX1 yX1_endOf yX1_endOf, Cond.code yX1_endOf cX1_endOf 3 (some .int), Cond.methodLink RX3 188 yX2_reduce, Cond.instanceMethod yX2_reduce, Cond.selects RX2 yX2_reduce yX2_reduce, Cond.initialized RX2, Cond.code yX2_reduce cX2_reduce 6 none, Cond.fieldLink RX2 15 "SlotStar$Root" "turns" "I", Cond.fieldLink RX2 51 "SlotStar$Root" "degree" "I", Cond.fieldLink RX2 9 "SlotStar$Root" "numbers" "[I", Cond.methodLink RX3 191 yX2_isZero, Cond.instanceMethod yX2_isZero, Cond.selects RX2 yX2_isZero yX2_isZero, Cond.code yX2_isZero cX2_isZero 3 (some .boolean)]
def wsX3_isNothing : List Cond := .code yX3_isNothing cX3_isNothing 3 (some .boolean) :: ((wsX3_isNothing_r1 ++ (wsX3_isNothing_r2 ++ wsX3_isNothing_r3)) ++ wsX30 ++ wsX10 ++ wsX20)
def wsX3_vanishes_r1 : List Cond := [Cond.fieldLink RX3 10 "SlotStar" "star" "LSlotStar$Machine;", Cond.fieldLink RX3 59 "SlotStar$Machine" "width" "I", Cond.methodLink RX3 126 yX3_isWave, Cond.static yX3_isWave, Cond.initialized RX3, Cond.code yX3_isWave cX3_isWave 1 (some .boolean), Cond.methodLink RX3 44 yX3_isWithin, Cond.static yX3_isWithin, Cond.code yX3_isWithin cX3_isWithin 3 (some .boolean), Cond.methodLink RX3 70 yX1_isBalanced, Cond.instanceMethod yX1_isBalanced, Cond.selects RX1 yX1_isBalanced yX1_isBalanced, Cond.initialized RX1, Cond.code yX1_isBalanced cX1_isBalanced 1 (some .boolean), Cond.methodLink RX1 37 yX1_lackingDivisor, Cond.instanceMethod yX1_lackingDivisor, Cond.selects RX1 yX1_lackingDivisor yX1_lackingDivisor, Cond.code yX1_lackingDivisor cX1_lackingDivisor 1 (some .int), Cond.fieldLink RX1 16 "SlotStar$Machine" "phases" "I", Cond.fieldLink RX1 34 "SlotStar$Machine" "turns" "I", Cond.static yX3_commonDivisor, Cond.code yX3_commonDivisor cX3_commonDivisor 3 (some .int), Cond.methodLink RX3 200 Lib.Math.min.name, Cond.static Lib.Math.min.name]
def wsX3_vanishes_r2 : List Cond := [Cond.initialized "java/lang/Math", Cond.code Lib.Math.min.name Lib.Math.min.code 2 (some .int), Cond.methodLink RX3 166 yX3_leftOver, Cond.static yX3_leftOver, Cond.code yX3_leftOver cX3_leftOver 3 (some .int), Cond.static yX3_cut, Cond.code yX3_cut cX3_cut 2 (some .int), Cond.methodLink RX3 135 yX3_isNothing, Cond.instanceMethod yX3_isNothing, Cond.selects RX3 yX3_isNothing yX3_isNothing, Cond.code yX3_isNothing cX3_isNothing 3 (some .boolean), Cond.fieldLink RX3 30 "SlotStar" "first" "[I", Cond.fieldLink RX3 19 "SlotStar" "root" "LSlotStar$Root;", Cond.methodLink RX3 131 yX3_addUp, Cond.instanceMethod yX3_addUp, Cond.selects RX3 yX3_addUp yX3_addUp, Cond.code yX3_addUp cX3_addUp 7 none, Cond.fieldLink RX3 52 "SlotStar$Machine" "turns" "I", Cond.methodLink RX3 179 yJ7_fill_53178, Cond.static yJ7_fill_53178, Cond.initialized RJ7, Cond.code yJ7_fill_53178 cJ7_fill_53178 4 none, Cond.methodLink RX3 84 yX1_phaseOf, Cond.instanceMethod yX1_phaseOf]
def wsX3_vanishes_r3 : List Cond := [Cond.selects RX1 yX1_phaseOf yX1_phaseOf, Cond.code yX1_phaseOf cX1_phaseOf 3 (some .int), Cond.methodLink RX1 48 yX1_zoneOf, Cond.instanceMethod yX1_zoneOf, Cond.selects RX1 yX1_zoneOf yX1_zoneOf, Cond.code yX1_zoneOf cX1_zoneOf 2 (some .int), Cond.methodLink RX1 44 yX1_turnOf, Cond.instanceMethod yX1_turnOf, Cond.selects RX1 yX1_turnOf yX1_turnOf, Cond.code yX1_turnOf cX1_turnOf 2 (some .int), Cond.fieldLink RX1 13 "SlotStar$Machine" "pairs" "I", Cond.fieldLink RX1 7 "SlotStar$Machine" "slots" "I", Cond.fieldLink RX1 28 "SlotStar$Machine" "copies" "I", Cond.methodLink RX3 87 yX1_isForward, Cond.instanceMethod yX1_isForward, Cond.selects RX1 yX1_isForward yX1_isForward, Cond.code yX1_isForward cX1_isForward 2 (some .boolean), Cond.methodLink RX3 74 yX1_turnOf, Cond.methodLink RX3 185 yX3_addPower, Cond.instanceMethod yX3_addPower, Cond.selects RX3 yX3_addPower yX3_addPower, Cond.code yX3_addPower cX3_addPower 5 none, Cond.methodLink RX3 121 yX3_at, Cond.static yX3_at]
def wsX3_vanishes_r4 : List Cond := [Cond.code yX3_at cX3_at 2 (some .int), Cond.methodLink RX3 169 yX3_put, Cond.static yX3_put, Cond.code yX3_put cX3_put 3 none, Cond.methodLink RX3 90 yX1_endOf, Cond.instanceMethod yX1_endOf, Cond.selects RX1 yX1_endOf yX1_endOf, Cond.code yX1_endOf cX1_endOf 3 (some .int), Cond.methodLink RX3 188 yX2_reduce, Cond.instanceMethod yX2_reduce, Cond.selects RX2 yX2_reduce yX2_reduce, Cond.initialized RX2, Cond.code yX2_reduce cX2_reduce 6 none, Cond.fieldLink RX2 15 "SlotStar$Root" "turns" "I", Cond.fieldLink RX2 51 "SlotStar$Root" "degree" "I", Cond.fieldLink RX2 9 "SlotStar$Root" "numbers" "[I", Cond.methodLink RX3 191 yX2_isZero, Cond.instanceMethod yX2_isZero, Cond.selects RX2 yX2_isZero yX2_isZero, Cond.code yX2_isZero cX2_isZero 3 (some .boolean)]
def wsX3_vanishes : List Cond := .code yX3_vanishes cX3_vanishes 2 (some .int) :: ((wsX3_vanishes_r1 ++ (wsX3_vanishes_r2 ++ (wsX3_vanishes_r3 ++ wsX3_vanishes_r4))) ++ wsX30 ++ wsX10 ++ wsX20)
def wsX3_choose_r1 : List Cond := [Cond.fieldLink RX3 10 "SlotStar" "star" "LSlotStar$Machine;", Cond.fieldLink RX3 56 "SlotStar$Machine" "slots" "I", Cond.fieldLink RX3 103 "SlotStar$Machine" "pairs" "I", Cond.methodLink RX3 126 yX3_isWave, Cond.static yX3_isWave, Cond.initialized RX3, Cond.code yX3_isWave cX3_isWave 1 (some .boolean), Cond.methodLink RX3 44 yX3_isWithin, Cond.static yX3_isWithin, Cond.code yX3_isWithin cX3_isWithin 3 (some .boolean), Cond.methodLink RX3 70 yX1_isBalanced, Cond.instanceMethod yX1_isBalanced, Cond.selects RX1 yX1_isBalanced yX1_isBalanced, Cond.initialized RX1, Cond.code yX1_isBalanced cX1_isBalanced 1 (some .boolean), Cond.methodLink RX1 37 yX1_lackingDivisor, Cond.instanceMethod yX1_lackingDivisor, Cond.selects RX1 yX1_lackingDivisor yX1_lackingDivisor, Cond.code yX1_lackingDivisor cX1_lackingDivisor 1 (some .int), Cond.fieldLink RX1 16 "SlotStar$Machine" "phases" "I", Cond.fieldLink RX1 34 "SlotStar$Machine" "turns" "I", Cond.static yX3_commonDivisor, Cond.code yX3_commonDivisor cX3_commonDivisor 3 (some .int), Cond.methodLink RX3 200 Lib.Math.min.name]
def wsX3_choose_r2 : List Cond := [Cond.static Lib.Math.min.name, Cond.initialized "java/lang/Math", Cond.code Lib.Math.min.name Lib.Math.min.code 2 (some .int), Cond.methodLink RX3 166 yX3_leftOver, Cond.static yX3_leftOver, Cond.code yX3_leftOver cX3_leftOver 3 (some .int), Cond.static yX3_cut, Cond.code yX3_cut cX3_cut 2 (some .int), Cond.methodLink RX3 48 yX3_poleWidth, Cond.static yX3_poleWidth, Cond.code yX3_poleWidth cX3_poleWidth 2 (some .int), Cond.methodLink RX3 195 Lib.Math.max.name, Cond.static Lib.Math.max.name, Cond.code Lib.Math.max.name Lib.Math.max.code 2 (some .int), Cond.methodLink RX3 112 yX3_cut, Cond.methodLink RX3 135 yX3_isNothing, Cond.instanceMethod yX3_isNothing, Cond.selects RX3 yX3_isNothing yX3_isNothing, Cond.code yX3_isNothing cX3_isNothing 3 (some .boolean), Cond.fieldLink RX3 30 "SlotStar" "first" "[I", Cond.fieldLink RX3 19 "SlotStar" "root" "LSlotStar$Root;", Cond.methodLink RX3 131 yX3_addUp, Cond.instanceMethod yX3_addUp, Cond.selects RX3 yX3_addUp yX3_addUp]
def wsX3_choose_r3 : List Cond := [Cond.code yX3_addUp cX3_addUp 7 none, Cond.fieldLink RX3 52 "SlotStar$Machine" "turns" "I", Cond.methodLink RX3 179 yJ7_fill_53178, Cond.static yJ7_fill_53178, Cond.initialized RJ7, Cond.code yJ7_fill_53178 cJ7_fill_53178 4 none, Cond.methodLink RX3 84 yX1_phaseOf, Cond.instanceMethod yX1_phaseOf, Cond.selects RX1 yX1_phaseOf yX1_phaseOf, Cond.code yX1_phaseOf cX1_phaseOf 3 (some .int), Cond.methodLink RX1 48 yX1_zoneOf, Cond.instanceMethod yX1_zoneOf, Cond.selects RX1 yX1_zoneOf yX1_zoneOf, Cond.code yX1_zoneOf cX1_zoneOf 2 (some .int), Cond.methodLink RX1 44 yX1_turnOf, Cond.instanceMethod yX1_turnOf, Cond.selects RX1 yX1_turnOf yX1_turnOf, Cond.code yX1_turnOf cX1_turnOf 2 (some .int), Cond.fieldLink RX1 13 "SlotStar$Machine" "pairs" "I", Cond.fieldLink RX1 7 "SlotStar$Machine" "slots" "I", Cond.fieldLink RX1 28 "SlotStar$Machine" "copies" "I", Cond.methodLink RX3 87 yX1_isForward, Cond.instanceMethod yX1_isForward, Cond.selects RX1 yX1_isForward yX1_isForward]
def wsX3_choose_r4 : List Cond := [Cond.code yX1_isForward cX1_isForward 2 (some .boolean), Cond.methodLink RX3 74 yX1_turnOf, Cond.methodLink RX3 185 yX3_addPower, Cond.instanceMethod yX3_addPower, Cond.selects RX3 yX3_addPower yX3_addPower, Cond.code yX3_addPower cX3_addPower 5 none, Cond.methodLink RX3 121 yX3_at, Cond.static yX3_at, Cond.code yX3_at cX3_at 2 (some .int), Cond.methodLink RX3 169 yX3_put, Cond.static yX3_put, Cond.code yX3_put cX3_put 3 none, Cond.methodLink RX3 90 yX1_endOf, Cond.instanceMethod yX1_endOf, Cond.selects RX1 yX1_endOf yX1_endOf, Cond.code yX1_endOf cX1_endOf 3 (some .int), Cond.methodLink RX3 188 yX2_reduce, Cond.instanceMethod yX2_reduce, Cond.selects RX2 yX2_reduce yX2_reduce, Cond.initialized RX2, Cond.code yX2_reduce cX2_reduce 6 none, Cond.fieldLink RX2 15 "SlotStar$Root" "turns" "I", Cond.fieldLink RX2 51 "SlotStar$Root" "degree" "I", Cond.fieldLink RX2 9 "SlotStar$Root" "numbers" "[I"]
def wsX3_choose_r5 : List Cond := [Cond.methodLink RX3 191 yX2_isZero, Cond.instanceMethod yX2_isZero, Cond.selects RX2 yX2_isZero yX2_isZero, Cond.code yX2_isZero cX2_isZero 3 (some .boolean)]
def wsX3_choose : List Cond := .code yX3_choose cX3_choose 3 (some .int) :: ((wsX3_choose_r1 ++ (wsX3_choose_r2 ++ (wsX3_choose_r3 ++ (wsX3_choose_r4 ++ wsX3_choose_r5)))) ++ wsX30 ++ wsX10 ++ wsX20)
def wsX3_turned_r1 : List Cond := [Cond.fieldLink RX3 10 "SlotStar" "star" "LSlotStar$Machine;", Cond.fieldLink RX3 30 "SlotStar" "first" "[I", Cond.fieldLink RX3 59 "SlotStar$Machine" "width" "I", Cond.fieldLink RX3 34 "SlotStar" "second" "[I", Cond.fieldLink RX3 52 "SlotStar$Machine" "turns" "I", Cond.fieldLink RX3 19 "SlotStar" "root" "LSlotStar$Root;", Cond.methodLink RX3 96 yX3_isPhase, Cond.instanceMethod yX3_isPhase, Cond.selects RX3 yX3_isPhase yX3_isPhase, Cond.initialized RX3, Cond.code yX3_isPhase cX3_isPhase 2 (some .boolean), Cond.fieldLink RX3 106 "SlotStar$Machine" "phases" "I", Cond.methodLink RX3 44 yX3_isWithin, Cond.static yX3_isWithin, Cond.code yX3_isWithin cX3_isWithin 3 (some .boolean), Cond.methodLink RX3 126 yX3_isWave, Cond.static yX3_isWave, Cond.code yX3_isWave cX3_isWave 1 (some .boolean), Cond.methodLink RX3 70 yX1_isBalanced, Cond.instanceMethod yX1_isBalanced, Cond.selects RX1 yX1_isBalanced yX1_isBalanced, Cond.initialized RX1, Cond.code yX1_isBalanced cX1_isBalanced 1 (some .boolean), Cond.methodLink RX1 37 yX1_lackingDivisor]
def wsX3_turned_r2 : List Cond := [Cond.instanceMethod yX1_lackingDivisor, Cond.selects RX1 yX1_lackingDivisor yX1_lackingDivisor, Cond.code yX1_lackingDivisor cX1_lackingDivisor 1 (some .int), Cond.fieldLink RX1 16 "SlotStar$Machine" "phases" "I", Cond.fieldLink RX1 34 "SlotStar$Machine" "turns" "I", Cond.static yX3_commonDivisor, Cond.code yX3_commonDivisor cX3_commonDivisor 3 (some .int), Cond.methodLink RX3 200 Lib.Math.min.name, Cond.static Lib.Math.min.name, Cond.initialized "java/lang/Math", Cond.code Lib.Math.min.name Lib.Math.min.code 2 (some .int), Cond.methodLink RX3 166 yX3_leftOver, Cond.static yX3_leftOver, Cond.code yX3_leftOver cX3_leftOver 3 (some .int), Cond.static yX3_cut, Cond.code yX3_cut cX3_cut 2 (some .int), Cond.methodLink RX3 131 yX3_addUp, Cond.instanceMethod yX3_addUp, Cond.selects RX3 yX3_addUp yX3_addUp, Cond.code yX3_addUp cX3_addUp 7 none, Cond.methodLink RX3 179 yJ7_fill_53178, Cond.static yJ7_fill_53178, Cond.initialized RJ7, Cond.code yJ7_fill_53178 cJ7_fill_53178 4 none]
def wsX3_turned_r3 : List Cond := [Cond.methodLink RX3 84 yX1_phaseOf, Cond.instanceMethod yX1_phaseOf, Cond.selects RX1 yX1_phaseOf yX1_phaseOf, Cond.code yX1_phaseOf cX1_phaseOf 3 (some .int), Cond.methodLink RX1 48 yX1_zoneOf, Cond.instanceMethod yX1_zoneOf, Cond.selects RX1 yX1_zoneOf yX1_zoneOf, Cond.code yX1_zoneOf cX1_zoneOf 2 (some .int), Cond.methodLink RX1 44 yX1_turnOf, Cond.instanceMethod yX1_turnOf, Cond.selects RX1 yX1_turnOf yX1_turnOf, Cond.code yX1_turnOf cX1_turnOf 2 (some .int), Cond.fieldLink RX1 13 "SlotStar$Machine" "pairs" "I", Cond.fieldLink RX1 7 "SlotStar$Machine" "slots" "I", Cond.fieldLink RX1 28 "SlotStar$Machine" "copies" "I", Cond.methodLink RX3 87 yX1_isForward, Cond.instanceMethod yX1_isForward, Cond.selects RX1 yX1_isForward yX1_isForward, Cond.code yX1_isForward cX1_isForward 2 (some .boolean), Cond.methodLink RX3 74 yX1_turnOf, Cond.methodLink RX3 185 yX3_addPower, Cond.instanceMethod yX3_addPower, Cond.selects RX3 yX3_addPower yX3_addPower, Cond.code yX3_addPower cX3_addPower 5 none]
def wsX3_turned_r4 : List Cond := [Cond.methodLink RX3 121 yX3_at, Cond.static yX3_at, Cond.code yX3_at cX3_at 2 (some .int), Cond.methodLink RX3 169 yX3_put, Cond.static yX3_put, Cond.code yX3_put cX3_put 3 none, Cond.methodLink RX3 90 yX1_endOf, Cond.instanceMethod yX1_endOf, Cond.selects RX1 yX1_endOf yX1_endOf, Cond.code yX1_endOf cX1_endOf 3 (some .int), Cond.methodLink RX3 188 yX2_reduce, Cond.instanceMethod yX2_reduce, Cond.selects RX2 yX2_reduce yX2_reduce, Cond.initialized RX2, Cond.code yX2_reduce cX2_reduce 6 none, Cond.fieldLink RX2 15 "SlotStar$Root" "turns" "I", Cond.fieldLink RX2 51 "SlotStar$Root" "degree" "I", Cond.fieldLink RX2 9 "SlotStar$Root" "numbers" "[I", Cond.methodLink RX3 139 yX2_areSame, Cond.instanceMethod yX2_areSame, Cond.selects RX2 yX2_areSame yX2_areSame, Cond.code yX2_areSame cX2_areSame 4 (some .boolean), Cond.methodLink RX3 143 yX2_multiplyByX, Cond.instanceMethod yX2_multiplyByX]
def wsX3_turned_r5 : List Cond := [Cond.selects RX2 yX2_multiplyByX yX2_multiplyByX, Cond.code yX2_multiplyByX cX2_multiplyByX 4 none]
def wsX3_turned : List Cond := .code yX3_turned cX3_turned 5 (some .int) :: ((wsX3_turned_r1 ++ (wsX3_turned_r2 ++ (wsX3_turned_r3 ++ (wsX3_turned_r4 ++ wsX3_turned_r5)))) ++ wsX30 ++ wsX10 ++ wsX20)
def wsX3_joined_r1 : List Cond := [Cond.fieldLink RX3 10 "SlotStar" "star" "LSlotStar$Machine;", Cond.fieldLink RX3 26 "SlotStar" "joint" "LSlotStar$Joint;", Cond.fieldLink RX3 151 "SlotStar$Joint" "ways" "I", Cond.fieldLink RX3 154 "SlotStar$Joint" "shift" "I", Cond.fieldLink RX3 157 "SlotStar$Joint" "forwards" "I", Cond.methodLink RX3 96 yX3_isPhase, Cond.instanceMethod yX3_isPhase, Cond.selects RX3 yX3_isPhase yX3_isPhase, Cond.initialized RX3, Cond.code yX3_isPhase cX3_isPhase 2 (some .boolean), Cond.fieldLink RX3 106 "SlotStar$Machine" "phases" "I", Cond.methodLink RX3 44 yX3_isWithin, Cond.static yX3_isWithin, Cond.code yX3_isWithin cX3_isWithin 3 (some .boolean), Cond.methodLink RX3 70 yX1_isBalanced, Cond.instanceMethod yX1_isBalanced, Cond.selects RX1 yX1_isBalanced yX1_isBalanced, Cond.initialized RX1, Cond.code yX1_isBalanced cX1_isBalanced 1 (some .boolean), Cond.methodLink RX1 37 yX1_lackingDivisor, Cond.instanceMethod yX1_lackingDivisor, Cond.selects RX1 yX1_lackingDivisor yX1_lackingDivisor, Cond.code yX1_lackingDivisor cX1_lackingDivisor 1 (some .int), Cond.fieldLink RX1 16 "SlotStar$Machine" "phases" "I"]
def wsX3_joined_r2 : List Cond := [Cond.fieldLink RX1 34 "SlotStar$Machine" "turns" "I", Cond.static yX3_commonDivisor, Cond.code yX3_commonDivisor cX3_commonDivisor 3 (some .int), Cond.methodLink RX3 200 Lib.Math.min.name, Cond.static Lib.Math.min.name, Cond.initialized "java/lang/Math", Cond.code Lib.Math.min.name Lib.Math.min.code 2 (some .int), Cond.methodLink RX3 166 yX3_leftOver, Cond.static yX3_leftOver, Cond.code yX3_leftOver cX3_leftOver 3 (some .int), Cond.static yX3_cut, Cond.code yX3_cut cX3_cut 2 (some .int), Cond.methodLink RX3 147 yX0_join, Cond.instanceMethod yX0_join, Cond.selects RX0 yX0_join yX0_join, Cond.initialized RX0, Cond.code yX0_join cX0_join 5 (some .boolean), Cond.fieldLink RX0 22 "SlotStar$Joint" "forwards" "I", Cond.fieldLink RX0 26 "SlotStar$Joint" "backs" "I", Cond.fieldLink RX0 29 "SlotStar$Joint" "shift" "I", Cond.fieldLink RX0 36 "SlotStar$Joint" "ways" "I", Cond.methodLink RX0 18 yX0_collect, Cond.instanceMethod yX0_collect, Cond.selects RX0 yX0_collect yX0_collect]
def wsX3_joined_r3 : List Cond := [Cond.code yX0_collect cX0_collect 4 none, Cond.fieldLink RX0 39 "SlotStar$Machine" "slots" "I", Cond.fieldLink RX0 9 "SlotStar$Joint" "forwardSlots" "[I", Cond.fieldLink RX0 15 "SlotStar$Joint" "backSlots" "[I", Cond.methodLink RX0 44 yX1_phaseOf, Cond.instanceMethod yX1_phaseOf, Cond.selects RX1 yX1_phaseOf yX1_phaseOf, Cond.code yX1_phaseOf cX1_phaseOf 3 (some .int), Cond.methodLink RX1 48 yX1_zoneOf, Cond.instanceMethod yX1_zoneOf, Cond.selects RX1 yX1_zoneOf yX1_zoneOf, Cond.code yX1_zoneOf cX1_zoneOf 2 (some .int), Cond.methodLink RX1 44 yX1_turnOf, Cond.instanceMethod yX1_turnOf, Cond.selects RX1 yX1_turnOf yX1_turnOf, Cond.code yX1_turnOf cX1_turnOf 2 (some .int), Cond.fieldLink RX1 13 "SlotStar$Machine" "pairs" "I", Cond.fieldLink RX1 7 "SlotStar$Machine" "slots" "I", Cond.fieldLink RX1 28 "SlotStar$Machine" "copies" "I", Cond.methodLink RX0 48 yX1_isForward, Cond.instanceMethod yX1_isForward, Cond.selects RX1 yX1_isForward yX1_isForward, Cond.code yX1_isForward cX1_isForward 2 (some .boolean), Cond.static yX3_put]
def wsX3_joined_r4 : List Cond := [Cond.code yX3_put cX3_put 3 none, Cond.methodLink RX0 32 yX0_waysOf, Cond.instanceMethod yX0_waysOf, Cond.selects RX0 yX0_waysOf yX0_waysOf, Cond.code yX0_waysOf cX0_waysOf 5 (some .int), Cond.static yX3_at, Cond.code yX3_at cX3_at 2 (some .int), Cond.methodLink RX0 60 yX0_backOf, Cond.instanceMethod yX0_backOf, Cond.selects RX0 yX0_backOf yX0_backOf, Cond.code yX0_backOf cX0_backOf 3 (some .int), Cond.methodLink RX0 64 yX1_wayBetween, Cond.instanceMethod yX1_wayBetween, Cond.selects RX1 yX1_wayBetween yX1_wayBetween, Cond.code yX1_wayBetween cX1_wayBetween 4 (some .int), Cond.methodLink RX1 58 Lib.Math.abs.name, Cond.static Lib.Math.abs.name, Cond.code Lib.Math.abs.name Lib.Math.abs.code 1 (some .int), Cond.methodLink RX1 63 Lib.Math.min.name]
def wsX3_joined : List Cond := .code yX3_joined cX3_joined 3 (some .int) :: ((wsX3_joined_r1 ++ (wsX3_joined_r2 ++ (wsX3_joined_r3 ++ wsX3_joined_r4))) ++ wsX30 ++ wsX00 ++ wsX10)
def wsX3_partner_r1 : List Cond := [Cond.fieldLink RX3 10 "SlotStar" "star" "LSlotStar$Machine;", Cond.fieldLink RX3 26 "SlotStar" "joint" "LSlotStar$Joint;", Cond.methodLink RX3 66 yX3_isSlot, Cond.instanceMethod yX3_isSlot, Cond.selects RX3 yX3_isSlot yX3_isSlot, Cond.initialized RX3, Cond.code yX3_isSlot cX3_isSlot 2 (some .boolean), Cond.fieldLink RX3 56 "SlotStar$Machine" "slots" "I", Cond.methodLink RX3 44 yX3_isWithin, Cond.static yX3_isWithin, Cond.code yX3_isWithin cX3_isWithin 3 (some .boolean), Cond.methodLink RX3 70 yX1_isBalanced, Cond.instanceMethod yX1_isBalanced, Cond.selects RX1 yX1_isBalanced yX1_isBalanced, Cond.initialized RX1, Cond.code yX1_isBalanced cX1_isBalanced 1 (some .boolean), Cond.methodLink RX1 37 yX1_lackingDivisor, Cond.instanceMethod yX1_lackingDivisor, Cond.selects RX1 yX1_lackingDivisor yX1_lackingDivisor, Cond.code yX1_lackingDivisor cX1_lackingDivisor 1 (some .int), Cond.fieldLink RX1 16 "SlotStar$Machine" "phases" "I", Cond.fieldLink RX1 34 "SlotStar$Machine" "turns" "I", Cond.static yX3_commonDivisor, Cond.code yX3_commonDivisor cX3_commonDivisor 3 (some .int)]
def wsX3_partner_r2 : List Cond := [Cond.methodLink RX3 200 Lib.Math.min.name, Cond.static Lib.Math.min.name, Cond.initialized "java/lang/Math", Cond.code Lib.Math.min.name Lib.Math.min.code 2 (some .int), Cond.methodLink RX3 166 yX3_leftOver, Cond.static yX3_leftOver, Cond.code yX3_leftOver cX3_leftOver 3 (some .int), Cond.static yX3_cut, Cond.code yX3_cut cX3_cut 2 (some .int), Cond.methodLink RX3 84 yX1_phaseOf, Cond.instanceMethod yX1_phaseOf, Cond.selects RX1 yX1_phaseOf yX1_phaseOf, Cond.code yX1_phaseOf cX1_phaseOf 3 (some .int), Cond.methodLink RX1 48 yX1_zoneOf, Cond.instanceMethod yX1_zoneOf, Cond.selects RX1 yX1_zoneOf yX1_zoneOf, Cond.code yX1_zoneOf cX1_zoneOf 2 (some .int), Cond.methodLink RX1 44 yX1_turnOf, Cond.instanceMethod yX1_turnOf, Cond.selects RX1 yX1_turnOf yX1_turnOf, Cond.code yX1_turnOf cX1_turnOf 2 (some .int), Cond.fieldLink RX1 13 "SlotStar$Machine" "pairs" "I", Cond.fieldLink RX1 7 "SlotStar$Machine" "slots" "I", Cond.fieldLink RX1 28 "SlotStar$Machine" "copies" "I"]
def wsX3_partner_r3 : List Cond := [Cond.methodLink RX3 147 yX0_join, Cond.instanceMethod yX0_join, Cond.selects RX0 yX0_join yX0_join, Cond.initialized RX0, Cond.code yX0_join cX0_join 5 (some .boolean), Cond.fieldLink RX0 22 "SlotStar$Joint" "forwards" "I", Cond.fieldLink RX0 26 "SlotStar$Joint" "backs" "I", Cond.fieldLink RX0 29 "SlotStar$Joint" "shift" "I", Cond.fieldLink RX0 36 "SlotStar$Joint" "ways" "I", Cond.methodLink RX0 18 yX0_collect, Cond.instanceMethod yX0_collect, Cond.selects RX0 yX0_collect yX0_collect, Cond.code yX0_collect cX0_collect 4 none, Cond.fieldLink RX0 39 "SlotStar$Machine" "slots" "I", Cond.fieldLink RX0 9 "SlotStar$Joint" "forwardSlots" "[I", Cond.fieldLink RX0 15 "SlotStar$Joint" "backSlots" "[I", Cond.methodLink RX0 44 yX1_phaseOf, Cond.methodLink RX0 48 yX1_isForward, Cond.instanceMethod yX1_isForward, Cond.selects RX1 yX1_isForward yX1_isForward, Cond.code yX1_isForward cX1_isForward 2 (some .boolean), Cond.static yX3_put, Cond.code yX3_put cX3_put 3 none, Cond.methodLink RX0 32 yX0_waysOf]
def wsX3_partner_r4 : List Cond := [Cond.instanceMethod yX0_waysOf, Cond.selects RX0 yX0_waysOf yX0_waysOf, Cond.code yX0_waysOf cX0_waysOf 5 (some .int), Cond.static yX3_at, Cond.code yX3_at cX3_at 2 (some .int), Cond.methodLink RX0 60 yX0_backOf, Cond.instanceMethod yX0_backOf, Cond.selects RX0 yX0_backOf yX0_backOf, Cond.code yX0_backOf cX0_backOf 3 (some .int), Cond.methodLink RX0 64 yX1_wayBetween, Cond.instanceMethod yX1_wayBetween, Cond.selects RX1 yX1_wayBetween yX1_wayBetween, Cond.code yX1_wayBetween cX1_wayBetween 4 (some .int), Cond.methodLink RX1 58 Lib.Math.abs.name, Cond.static Lib.Math.abs.name, Cond.code Lib.Math.abs.name Lib.Math.abs.code 1 (some .int), Cond.methodLink RX1 63 Lib.Math.min.name, Cond.methodLink RX3 87 yX1_isForward, Cond.methodLink RX3 160 yX0_otherOf, Cond.instanceMethod yX0_otherOf, Cond.selects RX0 yX0_otherOf yX0_otherOf, Cond.code yX0_otherOf cX0_otherOf 6 (some .int)]
def wsX3_partner : List Cond := .code yX3_partner cX3_partner 2 (some .int) :: ((wsX3_partner_r1 ++ (wsX3_partner_r2 ++ (wsX3_partner_r3 ++ wsX3_partner_r4))) ++ wsX30 ++ wsX10 ++ wsX00)
def wsX3_path : List Cond := .code yX3_path cX3_path 3 (some .int) :: ([.fieldLink RX3 10 "SlotStar" "star" "LSlotStar$Machine;", .fieldLink RX3 163 "SlotStar$Machine" "copies" "I", .methodLink RX3 66 yX3_isSlot, .instanceMethod yX3_isSlot, .selects RX3 yX3_isSlot yX3_isSlot, .initialized RX3, .code yX3_isSlot cX3_isSlot 2 (some .boolean), .fieldLink RX3 56 "SlotStar$Machine" "slots" "I", .methodLink RX3 44 yX3_isWithin, .static yX3_isWithin, .code yX3_isWithin cX3_isWithin 3 (some .boolean), .methodLink RX3 166 yX3_leftOver, .static yX3_leftOver, .code yX3_leftOver cX3_leftOver 3 (some .int), .methodLink RX3 78 yX1_copyOf, .instanceMethod yX1_copyOf, .selects RX1 yX1_copyOf yX1_copyOf, .initialized RX1, .code yX1_copyOf cX1_copyOf 2 (some .int), .fieldLink RX1 34 "SlotStar$Machine" "turns" "I", .static yX3_cut, .code yX3_cut cX3_cut 2 (some .int)] ++ wsX30 ++ wsX10)
def wsX3_image : List Cond := .code yX3_image cX3_image 3 (some .int) :: ([.fieldLink RX3 37 "SlotStar" "images" "[I", .fieldLink RX3 10 "SlotStar" "star" "LSlotStar$Machine;", .fieldLink RX3 56 "SlotStar$Machine" "slots" "I", .fieldLink RX3 103 "SlotStar$Machine" "pairs" "I", .fieldLink RX3 106 "SlotStar$Machine" "phases" "I", .fieldLink RX3 59 "SlotStar$Machine" "width" "I", .methodLink RX3 44 yX3_isWithin, .static yX3_isWithin, .initialized RX3, .code yX3_isWithin cX3_isWithin 3 (some .boolean), .methodLink RX3 169 yX3_put, .static yX3_put, .code yX3_put cX3_put 3 none] ++ wsX30 ++ wsX10)
def wsX3_restore_r1 : List Cond := [Cond.fieldLink RX3 37 "SlotStar" "images" "[I", Cond.methodLink RX3 44 yX3_isWithin, Cond.static yX3_isWithin, Cond.initialized RX3, Cond.code yX3_isWithin cX3_isWithin 3 (some .boolean), Cond.methodLink RX3 121 yX3_at, Cond.static yX3_at, Cond.code yX3_at cX3_at 2 (some .int), Cond.methodLink RX3 40 yX3_take, Cond.instanceMethod yX3_take, Cond.selects RX3 yX3_take yX3_take, Cond.code yX3_take cX3_take 5 none, Cond.fieldLink RX3 10 "SlotStar" "star" "LSlotStar$Machine;", Cond.fieldLink RX3 19 "SlotStar" "root" "LSlotStar$Root;", Cond.fieldLink RX3 52 "SlotStar$Machine" "turns" "I", Cond.methodLink RX3 173 yX1_become, Cond.instanceMethod yX1_become, Cond.selects RX1 yX1_become yX1_become, Cond.initialized RX1, Cond.code yX1_become cX1_become 5 none, Cond.fieldLink RX1 7 "SlotStar$Machine" "slots" "I", Cond.fieldLink RX1 13 "SlotStar$Machine" "pairs" "I", Cond.fieldLink RX1 16 "SlotStar$Machine" "phases" "I", Cond.fieldLink RX1 19 "SlotStar$Machine" "width" "I"]
def wsX3_restore_r2 : List Cond := [Cond.fieldLink RX1 28 "SlotStar$Machine" "copies" "I", Cond.fieldLink RX1 34 "SlotStar$Machine" "turns" "I", Cond.static yX3_commonDivisor, Cond.code yX3_commonDivisor cX3_commonDivisor 3 (some .int), Cond.methodLink RX3 200 Lib.Math.min.name, Cond.static Lib.Math.min.name, Cond.initialized "java/lang/Math", Cond.code Lib.Math.min.name Lib.Math.min.code 2 (some .int), Cond.methodLink RX3 166 yX3_leftOver, Cond.static yX3_leftOver, Cond.code yX3_leftOver cX3_leftOver 3 (some .int), Cond.static yX3_cut, Cond.code yX3_cut cX3_cut 2 (some .int), Cond.methodLink RX3 176 yX2_become, Cond.instanceMethod yX2_become, Cond.selects RX2 yX2_become yX2_become, Cond.initialized RX2, Cond.code yX2_become cX2_become 4 none, Cond.fieldLink RX2 15 "SlotStar$Root" "turns" "I", Cond.fieldLink RX2 9 "SlotStar$Root" "numbers" "[I", Cond.fieldLink RX2 51 "SlotStar$Root" "degree" "I", Cond.methodLink RX2 19 yJ7_fill_53178, Cond.static yJ7_fill_53178, Cond.initialized RJ7]
def wsX3_restore_r3 : List Cond := [Cond.code yJ7_fill_53178 cJ7_fill_53178 4 none, Cond.static yX3_put, Cond.code yX3_put cX3_put 3 none, Cond.methodLink RX2 36 yX2_moebius, Cond.static yX2_moebius, Cond.code yX2_moebius cX2_moebius 4 (some .int), Cond.methodLink RX2 40 yX2_multiplyByOneLess, Cond.instanceMethod yX2_multiplyByOneLess, Cond.selects RX2 yX2_multiplyByOneLess yX2_multiplyByOneLess, Cond.code yX2_multiplyByOneLess cX2_multiplyByOneLess 3 none, Cond.methodLink RX2 44 yX2_divideByOneLess, Cond.instanceMethod yX2_divideByOneLess, Cond.selects RX2 yX2_divideByOneLess yX2_divideByOneLess, Cond.code yX2_divideByOneLess cX2_divideByOneLess 3 none, Cond.methodLink RX2 47 yX2_highestPower, Cond.instanceMethod yX2_highestPower, Cond.selects RX2 yX2_highestPower yX2_highestPower, Cond.code yX2_highestPower cX2_highestPower 2 (some .int)]
def wsX3_restore : List Cond := .code yX3_restore cX3_restore 3 (some .int) :: ((wsX3_restore_r1 ++ (wsX3_restore_r2 ++ wsX3_restore_r3)) ++ wsX30 ++ wsX10 ++ wsX20)
def wsX3_told_r1 : List Cond := [Cond.fieldLink RX3 10 "SlotStar" "star" "LSlotStar$Machine;", Cond.fieldLink RX3 56 "SlotStar$Machine" "slots" "I", Cond.fieldLink RX3 103 "SlotStar$Machine" "pairs" "I", Cond.fieldLink RX3 106 "SlotStar$Machine" "phases" "I", Cond.fieldLink RX3 59 "SlotStar$Machine" "width" "I", Cond.fieldLink RX3 163 "SlotStar$Machine" "copies" "I", Cond.fieldLink RX3 52 "SlotStar$Machine" "turns" "I", Cond.methodLink RX3 70 yX1_isBalanced, Cond.instanceMethod yX1_isBalanced, Cond.selects RX1 yX1_isBalanced yX1_isBalanced, Cond.initialized RX1, Cond.code yX1_isBalanced cX1_isBalanced 1 (some .boolean), Cond.methodLink RX1 37 yX1_lackingDivisor, Cond.instanceMethod yX1_lackingDivisor, Cond.selects RX1 yX1_lackingDivisor yX1_lackingDivisor, Cond.code yX1_lackingDivisor cX1_lackingDivisor 1 (some .int), Cond.fieldLink RX1 16 "SlotStar$Machine" "phases" "I", Cond.fieldLink RX1 34 "SlotStar$Machine" "turns" "I", Cond.static yX3_commonDivisor, Cond.initialized RX3, Cond.code yX3_commonDivisor cX3_commonDivisor 3 (some .int), Cond.methodLink RX3 200 Lib.Math.min.name, Cond.static Lib.Math.min.name, Cond.initialized "java/lang/Math"]
def wsX3_told_r2 : List Cond := [Cond.code Lib.Math.min.name Lib.Math.min.code 2 (some .int), Cond.methodLink RX3 166 yX3_leftOver, Cond.static yX3_leftOver, Cond.code yX3_leftOver cX3_leftOver 3 (some .int), Cond.static yX3_cut, Cond.code yX3_cut cX3_cut 2 (some .int)]
def wsX3_told : List Cond := .code yX3_told cX3_told 2 (some .int) :: ((wsX3_told_r1 ++ wsX3_told_r2) ++ wsX30 ++ wsX10)
def wsX4_init : List Cond := .code yX4_init cX4_init 1 none :: ([.methodLink RX4 1 objectInit, .instanceMethod objectInit, .code objectInit ⟨#[0xb1]⟩ 1 none, .fieldLink RX4 7 "SlotStarModel" "slots" "I", .fieldLink RX4 13 "SlotStarModel" "poles" "I", .fieldLink RX4 16 "SlotStarModel" "phases" "I", .fieldLink RX4 19 "SlotStarModel" "reach" "I", .arrayClass .int, .fieldLink RX4 22 "SlotStarModel" "own" "[I", .fieldLink RX4 26 "SlotStarModel" "degree" "[I", .fieldLink RX4 29 "SlotStarModel" "work" "[I", .fieldLink RX4 32 "SlotStarModel" "sum" "[I", .fieldLink RX4 35 "SlotStarModel" "forth" "[I", .fieldLink RX4 38 "SlotStarModel" "back" "[I", .fieldLink RX4 41 "SlotStarModel" "image" "[I", .arrayClass .boolean, .fieldLink RX4 44 "SlotStarModel" "isKept" "[Z"] ++ wsX40)
def wsX4_in : List Cond := .code yX4_in cX4_in 3 (some .boolean) :: ([])
def wsX4_common : List Cond := .code yX4_common cX4_common 5 (some .int) :: ([])
def wsX4_copies : List Cond := .code yX4_copies cX4_copies 1 (some .int) :: ([.fieldLink RX4 7 "SlotStarModel" "slots" "I", .fieldLink RX4 13 "SlotStarModel" "poles" "I", .methodLink RX4 48 yX4_common, .static yX4_common, .initialized RX4, .code yX4_common cX4_common 5 (some .int)] ++ wsX40)
def wsX4_star : List Cond := .code yX4_star cX4_star 1 (some .int) :: ([.fieldLink RX4 7 "SlotStarModel" "slots" "I", .methodLink RX4 52 yX4_copies, .instanceMethod yX4_copies, .selects RX4 yX4_copies yX4_copies, .initialized RX4, .code yX4_copies cX4_copies 1 (some .int), .fieldLink RX4 13 "SlotStarModel" "poles" "I", .methodLink RX4 48 yX4_common, .static yX4_common, .code yX4_common cX4_common 5 (some .int)] ++ wsX40)
def wsX4_isBalanced : List Cond := .code yX4_isBalanced cX4_isBalanced 1 (some .boolean) :: ([.fieldLink RX4 16 "SlotStarModel" "phases" "I", .methodLink RX4 56 yX4_star, .instanceMethod yX4_star, .selects RX4 yX4_star yX4_star, .initialized RX4, .code yX4_star cX4_star 1 (some .int), .fieldLink RX4 7 "SlotStarModel" "slots" "I", .methodLink RX4 52 yX4_copies, .instanceMethod yX4_copies, .selects RX4 yX4_copies yX4_copies, .code yX4_copies cX4_copies 1 (some .int), .fieldLink RX4 13 "SlotStarModel" "poles" "I", .methodLink RX4 48 yX4_common, .static yX4_common, .code yX4_common cX4_common 5 (some .int)] ++ wsX40)
def wsX4_isSlot : List Cond := .code yX4_isSlot cX4_isSlot 2 (some .boolean) :: ([.fieldLink RX4 7 "SlotStarModel" "slots" "I", .methodLink RX4 59 yX4_in, .static yX4_in, .initialized RX4, .code yX4_in cX4_in 3 (some .boolean)] ++ wsX40)
def wsX4_isPhase : List Cond := .code yX4_isPhase cX4_isPhase 2 (some .boolean) :: ([.fieldLink RX4 16 "SlotStarModel" "phases" "I", .methodLink RX4 59 yX4_in, .static yX4_in, .initialized RX4, .code yX4_in cX4_in 3 (some .boolean)] ++ wsX40)
def wsX4_greater : List Cond := .code yX4_greater cX4_greater 2 (some .int) :: ([])
def wsX4_pitch : List Cond := .code yX4_pitch cX4_pitch 1 (some .int) :: ([.fieldLink RX4 7 "SlotStarModel" "slots" "I", .fieldLink RX4 13 "SlotStarModel" "poles" "I", .methodLink RX4 63 yX4_greater, .static yX4_greater, .initialized RX4, .code yX4_greater cX4_greater 2 (some .int)] ++ wsX40)
def wsX4_machine_r1 : List Cond := [Cond.fieldLink RX4 7 "SlotStarModel" "slots" "I", Cond.fieldLink RX4 13 "SlotStarModel" "poles" "I", Cond.fieldLink RX4 16 "SlotStarModel" "phases" "I", Cond.fieldLink RX4 19 "SlotStarModel" "reach" "I", Cond.methodLink RX4 59 yX4_in, Cond.static yX4_in, Cond.initialized RX4, Cond.code yX4_in cX4_in 3 (some .boolean), Cond.methodLink RX4 66 yX4_pitch, Cond.instanceMethod yX4_pitch, Cond.selects RX4 yX4_pitch yX4_pitch, Cond.code yX4_pitch cX4_pitch 1 (some .int), Cond.methodLink RX4 63 yX4_greater, Cond.static yX4_greater, Cond.code yX4_greater cX4_greater 2 (some .int), Cond.methodLink RX4 56 yX4_star, Cond.instanceMethod yX4_star, Cond.selects RX4 yX4_star yX4_star, Cond.code yX4_star cX4_star 1 (some .int), Cond.methodLink RX4 52 yX4_copies, Cond.instanceMethod yX4_copies, Cond.selects RX4 yX4_copies yX4_copies, Cond.code yX4_copies cX4_copies 1 (some .int), Cond.methodLink RX4 48 yX4_common]
def wsX4_machine_r2 : List Cond := [Cond.static yX4_common, Cond.code yX4_common cX4_common 5 (some .int)]
def wsX4_machine : List Cond := .code yX4_machine cX4_machine 4 (some .int) :: ((wsX4_machine_r1 ++ wsX4_machine_r2) ++ wsX40)
def wsX4_width : List Cond := .code yX4_width cX4_width 3 (some .int) :: ([.fieldLink RX4 7 "SlotStarModel" "slots" "I", .fieldLink RX4 19 "SlotStarModel" "reach" "I", .methodLink RX4 59 yX4_in, .static yX4_in, .initialized RX4, .code yX4_in cX4_in 3 (some .boolean)] ++ wsX40)
def wsX4_lacking : List Cond := .code yX4_lacking cX4_lacking 1 (some .int) :: ([.fieldLink RX4 16 "SlotStarModel" "phases" "I", .methodLink RX4 56 yX4_star, .instanceMethod yX4_star, .selects RX4 yX4_star yX4_star, .initialized RX4, .code yX4_star cX4_star 1 (some .int), .fieldLink RX4 7 "SlotStarModel" "slots" "I", .methodLink RX4 52 yX4_copies, .instanceMethod yX4_copies, .selects RX4 yX4_copies yX4_copies, .code yX4_copies cX4_copies 1 (some .int), .fieldLink RX4 13 "SlotStarModel" "poles" "I", .methodLink RX4 48 yX4_common, .static yX4_common, .code yX4_common cX4_common 5 (some .int)] ++ wsX40)
def wsX4_turn : List Cond := .code yX4_turn cX4_turn 2 (some .int) :: ([.fieldLink RX4 13 "SlotStarModel" "poles" "I", .fieldLink RX4 7 "SlotStarModel" "slots" "I", .methodLink RX4 52 yX4_copies, .instanceMethod yX4_copies, .selects RX4 yX4_copies yX4_copies, .initialized RX4, .code yX4_copies cX4_copies 1 (some .int), .methodLink RX4 48 yX4_common, .static yX4_common, .code yX4_common cX4_common 5 (some .int)] ++ wsX40)
def wsX4_zone : List Cond := .code yX4_zone cX4_zone 2 (some .int) :: ([.fieldLink RX4 16 "SlotStarModel" "phases" "I", .methodLink RX4 69 yX4_turn, .instanceMethod yX4_turn, .selects RX4 yX4_turn yX4_turn, .initialized RX4, .code yX4_turn cX4_turn 2 (some .int), .fieldLink RX4 13 "SlotStarModel" "poles" "I", .fieldLink RX4 7 "SlotStarModel" "slots" "I", .methodLink RX4 52 yX4_copies, .instanceMethod yX4_copies, .selects RX4 yX4_copies yX4_copies, .code yX4_copies cX4_copies 1 (some .int), .methodLink RX4 48 yX4_common, .static yX4_common, .code yX4_common cX4_common 5 (some .int), .methodLink RX4 56 yX4_star, .instanceMethod yX4_star, .selects RX4 yX4_star yX4_star, .code yX4_star cX4_star 1 (some .int)] ++ wsX40)
def wsX4_phaseOf : List Cond := .code yX4_phaseOf cX4_phaseOf 3 (some .int) :: ([.fieldLink RX4 16 "SlotStarModel" "phases" "I", .methodLink RX4 73 yX4_zone, .instanceMethod yX4_zone, .selects RX4 yX4_zone yX4_zone, .initialized RX4, .code yX4_zone cX4_zone 2 (some .int), .methodLink RX4 69 yX4_turn, .instanceMethod yX4_turn, .selects RX4 yX4_turn yX4_turn, .code yX4_turn cX4_turn 2 (some .int), .fieldLink RX4 13 "SlotStarModel" "poles" "I", .fieldLink RX4 7 "SlotStarModel" "slots" "I", .methodLink RX4 52 yX4_copies, .instanceMethod yX4_copies, .selects RX4 yX4_copies yX4_copies, .code yX4_copies cX4_copies 1 (some .int), .methodLink RX4 48 yX4_common, .static yX4_common, .code yX4_common cX4_common 5 (some .int), .methodLink RX4 56 yX4_star, .instanceMethod yX4_star, .selects RX4 yX4_star yX4_star, .code yX4_star cX4_star 1 (some .int)] ++ wsX40)
def wsX4_isForward : List Cond := .code yX4_isForward cX4_isForward 2 (some .boolean) :: ([.methodLink RX4 73 yX4_zone, .instanceMethod yX4_zone, .selects RX4 yX4_zone yX4_zone, .initialized RX4, .code yX4_zone cX4_zone 2 (some .int), .fieldLink RX4 16 "SlotStarModel" "phases" "I", .methodLink RX4 69 yX4_turn, .instanceMethod yX4_turn, .selects RX4 yX4_turn yX4_turn, .code yX4_turn cX4_turn 2 (some .int), .fieldLink RX4 13 "SlotStarModel" "poles" "I", .fieldLink RX4 7 "SlotStarModel" "slots" "I", .methodLink RX4 52 yX4_copies, .instanceMethod yX4_copies, .selects RX4 yX4_copies yX4_copies, .code yX4_copies cX4_copies 1 (some .int), .methodLink RX4 48 yX4_common, .static yX4_common, .code yX4_common cX4_common 5 (some .int), .methodLink RX4 56 yX4_star, .instanceMethod yX4_star, .selects RX4 yX4_star yX4_star, .code yX4_star cX4_star 1 (some .int)] ++ wsX40)
def wsX4_begins : List Cond := .code yX4_begins cX4_begins 2 (some .int) :: ([.fieldLink RX4 7 "SlotStarModel" "slots" "I", .fieldLink RX4 19 "SlotStarModel" "reach" "I"] ++ wsX40)
def wsX4_slot_r1 : List Cond := [Cond.fieldLink RX4 19 "SlotStarModel" "reach" "I", Cond.fieldLink RX4 7 "SlotStarModel" "slots" "I", Cond.methodLink RX4 76 yX4_isSlot, Cond.instanceMethod yX4_isSlot, Cond.selects RX4 yX4_isSlot yX4_isSlot, Cond.initialized RX4, Cond.code yX4_isSlot cX4_isSlot 2 (some .boolean), Cond.methodLink RX4 59 yX4_in, Cond.static yX4_in, Cond.code yX4_in cX4_in 3 (some .boolean), Cond.methodLink RX4 80 yX4_isBalanced, Cond.instanceMethod yX4_isBalanced, Cond.selects RX4 yX4_isBalanced yX4_isBalanced, Cond.code yX4_isBalanced cX4_isBalanced 1 (some .boolean), Cond.fieldLink RX4 16 "SlotStarModel" "phases" "I", Cond.methodLink RX4 56 yX4_star, Cond.instanceMethod yX4_star, Cond.selects RX4 yX4_star yX4_star, Cond.code yX4_star cX4_star 1 (some .int), Cond.methodLink RX4 52 yX4_copies, Cond.instanceMethod yX4_copies, Cond.selects RX4 yX4_copies yX4_copies, Cond.code yX4_copies cX4_copies 1 (some .int), Cond.fieldLink RX4 13 "SlotStarModel" "poles" "I"]
def wsX4_slot_r2 : List Cond := [Cond.methodLink RX4 48 yX4_common, Cond.static yX4_common, Cond.code yX4_common cX4_common 5 (some .int), Cond.methodLink RX4 69 yX4_turn, Cond.instanceMethod yX4_turn, Cond.selects RX4 yX4_turn yX4_turn, Cond.code yX4_turn cX4_turn 2 (some .int), Cond.methodLink RX4 73 yX4_zone, Cond.instanceMethod yX4_zone, Cond.selects RX4 yX4_zone yX4_zone, Cond.code yX4_zone cX4_zone 2 (some .int), Cond.methodLink RX4 84 yX4_phaseOf, Cond.instanceMethod yX4_phaseOf, Cond.selects RX4 yX4_phaseOf yX4_phaseOf, Cond.code yX4_phaseOf cX4_phaseOf 3 (some .int), Cond.methodLink RX4 87 yX4_isForward, Cond.instanceMethod yX4_isForward, Cond.selects RX4 yX4_isForward yX4_isForward, Cond.code yX4_isForward cX4_isForward 2 (some .boolean), Cond.methodLink RX4 90 yX4_begins, Cond.instanceMethod yX4_begins, Cond.selects RX4 yX4_begins yX4_begins, Cond.code yX4_begins cX4_begins 2 (some .int)]
def wsX4_slot : List Cond := .code yX4_slot cX4_slot 3 (some .int) :: ((wsX4_slot_r1 ++ wsX4_slot_r2) ++ wsX40)
def wsX4_phase_r1 : List Cond := [Cond.fieldLink RX4 7 "SlotStarModel" "slots" "I", Cond.methodLink RX4 93 yX4_isPhase, Cond.instanceMethod yX4_isPhase, Cond.selects RX4 yX4_isPhase yX4_isPhase, Cond.initialized RX4, Cond.code yX4_isPhase cX4_isPhase 2 (some .boolean), Cond.fieldLink RX4 16 "SlotStarModel" "phases" "I", Cond.methodLink RX4 59 yX4_in, Cond.static yX4_in, Cond.code yX4_in cX4_in 3 (some .boolean), Cond.methodLink RX4 80 yX4_isBalanced, Cond.instanceMethod yX4_isBalanced, Cond.selects RX4 yX4_isBalanced yX4_isBalanced, Cond.code yX4_isBalanced cX4_isBalanced 1 (some .boolean), Cond.methodLink RX4 56 yX4_star, Cond.instanceMethod yX4_star, Cond.selects RX4 yX4_star yX4_star, Cond.code yX4_star cX4_star 1 (some .int), Cond.methodLink RX4 52 yX4_copies, Cond.instanceMethod yX4_copies, Cond.selects RX4 yX4_copies yX4_copies, Cond.code yX4_copies cX4_copies 1 (some .int), Cond.fieldLink RX4 13 "SlotStarModel" "poles" "I", Cond.methodLink RX4 48 yX4_common]
def wsX4_phase_r2 : List Cond := [Cond.static yX4_common, Cond.code yX4_common cX4_common 5 (some .int), Cond.methodLink RX4 84 yX4_phaseOf, Cond.instanceMethod yX4_phaseOf, Cond.selects RX4 yX4_phaseOf yX4_phaseOf, Cond.code yX4_phaseOf cX4_phaseOf 3 (some .int), Cond.methodLink RX4 73 yX4_zone, Cond.instanceMethod yX4_zone, Cond.selects RX4 yX4_zone yX4_zone, Cond.code yX4_zone cX4_zone 2 (some .int), Cond.methodLink RX4 69 yX4_turn, Cond.instanceMethod yX4_turn, Cond.selects RX4 yX4_turn yX4_turn, Cond.code yX4_turn cX4_turn 2 (some .int), Cond.methodLink RX4 87 yX4_isForward, Cond.instanceMethod yX4_isForward, Cond.selects RX4 yX4_isForward yX4_isForward, Cond.code yX4_isForward cX4_isForward 2 (some .boolean)]
def wsX4_phase : List Cond := .code yX4_phase cX4_phase 5 (some .int) :: ((wsX4_phase_r1 ++ wsX4_phase_r2) ++ wsX40)
def wsX4_layer_r1 : List Cond := [Cond.methodLink RX4 76 yX4_isSlot, Cond.instanceMethod yX4_isSlot, Cond.selects RX4 yX4_isSlot yX4_isSlot, Cond.initialized RX4, Cond.code yX4_isSlot cX4_isSlot 2 (some .boolean), Cond.fieldLink RX4 7 "SlotStarModel" "slots" "I", Cond.methodLink RX4 59 yX4_in, Cond.static yX4_in, Cond.code yX4_in cX4_in 3 (some .boolean), Cond.methodLink RX4 80 yX4_isBalanced, Cond.instanceMethod yX4_isBalanced, Cond.selects RX4 yX4_isBalanced yX4_isBalanced, Cond.code yX4_isBalanced cX4_isBalanced 1 (some .boolean), Cond.fieldLink RX4 16 "SlotStarModel" "phases" "I", Cond.methodLink RX4 56 yX4_star, Cond.instanceMethod yX4_star, Cond.selects RX4 yX4_star yX4_star, Cond.code yX4_star cX4_star 1 (some .int), Cond.methodLink RX4 52 yX4_copies, Cond.instanceMethod yX4_copies, Cond.selects RX4 yX4_copies yX4_copies, Cond.code yX4_copies cX4_copies 1 (some .int), Cond.fieldLink RX4 13 "SlotStarModel" "poles" "I", Cond.methodLink RX4 48 yX4_common]
def wsX4_layer_r2 : List Cond := [Cond.static yX4_common, Cond.code yX4_common cX4_common 5 (some .int), Cond.methodLink RX4 90 yX4_begins, Cond.instanceMethod yX4_begins, Cond.selects RX4 yX4_begins yX4_begins, Cond.code yX4_begins cX4_begins 2 (some .int), Cond.fieldLink RX4 19 "SlotStarModel" "reach" "I", Cond.methodLink RX4 84 yX4_phaseOf, Cond.instanceMethod yX4_phaseOf, Cond.selects RX4 yX4_phaseOf yX4_phaseOf, Cond.code yX4_phaseOf cX4_phaseOf 3 (some .int), Cond.methodLink RX4 73 yX4_zone, Cond.instanceMethod yX4_zone, Cond.selects RX4 yX4_zone yX4_zone, Cond.code yX4_zone cX4_zone 2 (some .int), Cond.methodLink RX4 69 yX4_turn, Cond.instanceMethod yX4_turn, Cond.selects RX4 yX4_turn yX4_turn, Cond.code yX4_turn cX4_turn 2 (some .int), Cond.methodLink RX4 87 yX4_isForward, Cond.instanceMethod yX4_isForward, Cond.selects RX4 yX4_isForward yX4_isForward, Cond.code yX4_isForward cX4_isForward 2 (some .boolean)]
def wsX4_layer : List Cond := .code yX4_layer cX4_layer 4 (some .int) :: ((wsX4_layer_r1 ++ wsX4_layer_r2) ++ wsX40)
def wsX4_each : List Cond := .code yX4_each cX4_each 4 (some .int) :: ([.fieldLink RX4 13 "SlotStarModel" "poles" "I", .fieldLink RX4 16 "SlotStarModel" "phases" "I", .fieldLink RX4 7 "SlotStarModel" "slots" "I", .methodLink RX4 59 yX4_in, .static yX4_in, .initialized RX4, .code yX4_in cX4_in 3 (some .boolean), .methodLink RX4 48 yX4_common, .static yX4_common, .code yX4_common cX4_common 5 (some .int)] ++ wsX40)
def wsX4_divide : List Cond := .code yX4_divide cX4_divide 7 (some .int) :: ([.fieldLink RX4 26 "SlotStarModel" "degree" "[I", .fieldLink RX4 29 "SlotStarModel" "work" "[I", .fieldLink RX4 22 "SlotStarModel" "own" "[I"] ++ wsX40)
def wsX4_layDivisor : List Cond := .code yX4_layDivisor cX4_layDivisor 4 none :: ([.fieldLink RX4 29 "SlotStarModel" "work" "[I", .fieldLink RX4 22 "SlotStarModel" "own" "[I", .fieldLink RX4 26 "SlotStarModel" "degree" "[I", .methodLink RX4 100 yX4_divide, .instanceMethod yX4_divide, .selects RX4 yX4_divide yX4_divide, .initialized RX4, .code yX4_divide cX4_divide 7 (some .int)] ++ wsX40)
def wsX4_layOwn_r1 : List Cond := [Cond.methodLink RX4 56 yX4_star, Cond.instanceMethod yX4_star, Cond.selects RX4 yX4_star yX4_star, Cond.initialized RX4, Cond.code yX4_star cX4_star 1 (some .int), Cond.fieldLink RX4 7 "SlotStarModel" "slots" "I", Cond.methodLink RX4 52 yX4_copies, Cond.instanceMethod yX4_copies, Cond.selects RX4 yX4_copies yX4_copies, Cond.code yX4_copies cX4_copies 1 (some .int), Cond.fieldLink RX4 13 "SlotStarModel" "poles" "I", Cond.methodLink RX4 48 yX4_common, Cond.static yX4_common, Cond.code yX4_common cX4_common 5 (some .int), Cond.methodLink RX4 96 yX4_layDivisor, Cond.instanceMethod yX4_layDivisor, Cond.selects RX4 yX4_layDivisor yX4_layDivisor, Cond.code yX4_layDivisor cX4_layDivisor 4 none, Cond.fieldLink RX4 29 "SlotStarModel" "work" "[I", Cond.fieldLink RX4 22 "SlotStarModel" "own" "[I", Cond.fieldLink RX4 26 "SlotStarModel" "degree" "[I", Cond.methodLink RX4 100 yX4_divide, Cond.instanceMethod yX4_divide, Cond.selects RX4 yX4_divide yX4_divide]
def wsX4_layOwn_r2 : List Cond := [Cond.code yX4_divide cX4_divide 7 (some .int)]
def wsX4_layOwn : List Cond := .code yX4_layOwn cX4_layOwn 3 none :: ((wsX4_layOwn_r1 ++ wsX4_layOwn_r2) ++ wsX40)
def wsX4_own_r1 : List Cond := [Cond.fieldLink RX4 26 "SlotStarModel" "degree" "[I", Cond.fieldLink RX4 22 "SlotStarModel" "own" "[I", Cond.methodLink RX4 103 yX4_layOwn, Cond.instanceMethod yX4_layOwn, Cond.selects RX4 yX4_layOwn yX4_layOwn, Cond.initialized RX4, Cond.code yX4_layOwn cX4_layOwn 3 none, Cond.methodLink RX4 56 yX4_star, Cond.instanceMethod yX4_star, Cond.selects RX4 yX4_star yX4_star, Cond.code yX4_star cX4_star 1 (some .int), Cond.fieldLink RX4 7 "SlotStarModel" "slots" "I", Cond.methodLink RX4 52 yX4_copies, Cond.instanceMethod yX4_copies, Cond.selects RX4 yX4_copies yX4_copies, Cond.code yX4_copies cX4_copies 1 (some .int), Cond.fieldLink RX4 13 "SlotStarModel" "poles" "I", Cond.methodLink RX4 48 yX4_common, Cond.static yX4_common, Cond.code yX4_common cX4_common 5 (some .int), Cond.methodLink RX4 96 yX4_layDivisor, Cond.instanceMethod yX4_layDivisor, Cond.selects RX4 yX4_layDivisor yX4_layDivisor, Cond.code yX4_layDivisor cX4_layDivisor 4 none]
def wsX4_own_r2 : List Cond := [Cond.fieldLink RX4 29 "SlotStarModel" "work" "[I", Cond.methodLink RX4 100 yX4_divide, Cond.instanceMethod yX4_divide, Cond.selects RX4 yX4_divide yX4_divide, Cond.code yX4_divide cX4_divide 7 (some .int), Cond.methodLink RX4 59 yX4_in, Cond.static yX4_in, Cond.code yX4_in cX4_in 3 (some .boolean)]
def wsX4_own : List Cond := .code yX4_own cX4_own 3 (some .int) :: ((wsX4_own_r1 ++ wsX4_own_r2) ++ wsX40)
def wsX4_leaveOver : List Cond := .code yX4_leaveOver cX4_leaveOver 7 none :: ([.fieldLink RX4 26 "SlotStarModel" "degree" "[I", .fieldLink RX4 32 "SlotStarModel" "sum" "[I", .fieldLink RX4 22 "SlotStarModel" "own" "[I", .methodLink RX4 56 yX4_star, .instanceMethod yX4_star, .selects RX4 yX4_star yX4_star, .initialized RX4, .code yX4_star cX4_star 1 (some .int), .fieldLink RX4 7 "SlotStarModel" "slots" "I", .methodLink RX4 52 yX4_copies, .instanceMethod yX4_copies, .selects RX4 yX4_copies yX4_copies, .code yX4_copies cX4_copies 1 (some .int), .fieldLink RX4 13 "SlotStarModel" "poles" "I", .methodLink RX4 48 yX4_common, .static yX4_common, .code yX4_common cX4_common 5 (some .int)] ++ wsX40)
def wsX4_laySum_r1 : List Cond := [Cond.fieldLink RX4 32 "SlotStarModel" "sum" "[I", Cond.fieldLink RX4 7 "SlotStarModel" "slots" "I", Cond.methodLink RX4 56 yX4_star, Cond.instanceMethod yX4_star, Cond.selects RX4 yX4_star yX4_star, Cond.initialized RX4, Cond.code yX4_star cX4_star 1 (some .int), Cond.methodLink RX4 52 yX4_copies, Cond.instanceMethod yX4_copies, Cond.selects RX4 yX4_copies yX4_copies, Cond.code yX4_copies cX4_copies 1 (some .int), Cond.fieldLink RX4 13 "SlotStarModel" "poles" "I", Cond.methodLink RX4 48 yX4_common, Cond.static yX4_common, Cond.code yX4_common cX4_common 5 (some .int), Cond.methodLink RX4 103 yX4_layOwn, Cond.instanceMethod yX4_layOwn, Cond.selects RX4 yX4_layOwn yX4_layOwn, Cond.code yX4_layOwn cX4_layOwn 3 none, Cond.methodLink RX4 96 yX4_layDivisor, Cond.instanceMethod yX4_layDivisor, Cond.selects RX4 yX4_layDivisor yX4_layDivisor, Cond.code yX4_layDivisor cX4_layDivisor 4 none, Cond.fieldLink RX4 29 "SlotStarModel" "work" "[I"]
def wsX4_laySum_r2 : List Cond := [Cond.fieldLink RX4 22 "SlotStarModel" "own" "[I", Cond.fieldLink RX4 26 "SlotStarModel" "degree" "[I", Cond.methodLink RX4 100 yX4_divide, Cond.instanceMethod yX4_divide, Cond.selects RX4 yX4_divide yX4_divide, Cond.code yX4_divide cX4_divide 7 (some .int), Cond.methodLink RX4 84 yX4_phaseOf, Cond.instanceMethod yX4_phaseOf, Cond.selects RX4 yX4_phaseOf yX4_phaseOf, Cond.code yX4_phaseOf cX4_phaseOf 3 (some .int), Cond.fieldLink RX4 16 "SlotStarModel" "phases" "I", Cond.methodLink RX4 73 yX4_zone, Cond.instanceMethod yX4_zone, Cond.selects RX4 yX4_zone yX4_zone, Cond.code yX4_zone cX4_zone 2 (some .int), Cond.methodLink RX4 69 yX4_turn, Cond.instanceMethod yX4_turn, Cond.selects RX4 yX4_turn yX4_turn, Cond.code yX4_turn cX4_turn 2 (some .int), Cond.methodLink RX4 87 yX4_isForward, Cond.instanceMethod yX4_isForward, Cond.selects RX4 yX4_isForward yX4_isForward, Cond.code yX4_isForward cX4_isForward 2 (some .boolean), Cond.methodLink RX4 106 yX4_leaveOver]
def wsX4_laySum_r3 : List Cond := [Cond.instanceMethod yX4_leaveOver, Cond.selects RX4 yX4_leaveOver yX4_leaveOver, Cond.code yX4_leaveOver cX4_leaveOver 7 none]
def wsX4_laySum : List Cond := .code yX4_laySum cX4_laySum 8 none :: ((wsX4_laySum_r1 ++ (wsX4_laySum_r2 ++ wsX4_laySum_r3)) ++ wsX40)
def wsX4_sum_r1 : List Cond := [Cond.constant RX4 109 (-100001), Cond.fieldLink RX4 26 "SlotStarModel" "degree" "[I", Cond.constant RX4 110 (-100002), Cond.constant RX4 111 (-100003), Cond.fieldLink RX4 19 "SlotStarModel" "reach" "I", Cond.fieldLink RX4 32 "SlotStarModel" "sum" "[I", Cond.methodLink RX4 93 yX4_isPhase, Cond.instanceMethod yX4_isPhase, Cond.selects RX4 yX4_isPhase yX4_isPhase, Cond.initialized RX4, Cond.code yX4_isPhase cX4_isPhase 2 (some .boolean), Cond.fieldLink RX4 16 "SlotStarModel" "phases" "I", Cond.methodLink RX4 59 yX4_in, Cond.static yX4_in, Cond.code yX4_in cX4_in 3 (some .boolean), Cond.methodLink RX4 103 yX4_layOwn, Cond.instanceMethod yX4_layOwn, Cond.selects RX4 yX4_layOwn yX4_layOwn, Cond.code yX4_layOwn cX4_layOwn 3 none, Cond.methodLink RX4 56 yX4_star, Cond.instanceMethod yX4_star, Cond.selects RX4 yX4_star yX4_star, Cond.code yX4_star cX4_star 1 (some .int), Cond.fieldLink RX4 7 "SlotStarModel" "slots" "I"]
def wsX4_sum_r2 : List Cond := [Cond.methodLink RX4 52 yX4_copies, Cond.instanceMethod yX4_copies, Cond.selects RX4 yX4_copies yX4_copies, Cond.code yX4_copies cX4_copies 1 (some .int), Cond.fieldLink RX4 13 "SlotStarModel" "poles" "I", Cond.methodLink RX4 48 yX4_common, Cond.static yX4_common, Cond.code yX4_common cX4_common 5 (some .int), Cond.methodLink RX4 96 yX4_layDivisor, Cond.instanceMethod yX4_layDivisor, Cond.selects RX4 yX4_layDivisor yX4_layDivisor, Cond.code yX4_layDivisor cX4_layDivisor 4 none, Cond.fieldLink RX4 29 "SlotStarModel" "work" "[I", Cond.fieldLink RX4 22 "SlotStarModel" "own" "[I", Cond.methodLink RX4 100 yX4_divide, Cond.instanceMethod yX4_divide, Cond.selects RX4 yX4_divide yX4_divide, Cond.code yX4_divide cX4_divide 7 (some .int), Cond.methodLink RX4 80 yX4_isBalanced, Cond.instanceMethod yX4_isBalanced, Cond.selects RX4 yX4_isBalanced yX4_isBalanced, Cond.code yX4_isBalanced cX4_isBalanced 1 (some .boolean), Cond.methodLink RX4 112 yX4_laySum, Cond.instanceMethod yX4_laySum]
def wsX4_sum_r3 : List Cond := [Cond.selects RX4 yX4_laySum yX4_laySum, Cond.code yX4_laySum cX4_laySum 8 none, Cond.methodLink RX4 84 yX4_phaseOf, Cond.instanceMethod yX4_phaseOf, Cond.selects RX4 yX4_phaseOf yX4_phaseOf, Cond.code yX4_phaseOf cX4_phaseOf 3 (some .int), Cond.methodLink RX4 73 yX4_zone, Cond.instanceMethod yX4_zone, Cond.selects RX4 yX4_zone yX4_zone, Cond.code yX4_zone cX4_zone 2 (some .int), Cond.methodLink RX4 69 yX4_turn, Cond.instanceMethod yX4_turn, Cond.selects RX4 yX4_turn yX4_turn, Cond.code yX4_turn cX4_turn 2 (some .int), Cond.methodLink RX4 87 yX4_isForward, Cond.instanceMethod yX4_isForward, Cond.selects RX4 yX4_isForward yX4_isForward, Cond.code yX4_isForward cX4_isForward 2 (some .boolean), Cond.methodLink RX4 106 yX4_leaveOver, Cond.instanceMethod yX4_leaveOver, Cond.selects RX4 yX4_leaveOver yX4_leaveOver, Cond.code yX4_leaveOver cX4_leaveOver 7 none]
def wsX4_sum : List Cond := .code yX4_sum cX4_sum 4 (some .int) :: ((wsX4_sum_r1 ++ (wsX4_sum_r2 ++ wsX4_sum_r3)) ++ wsX40)
def wsX4_isNone_r1 : List Cond := [Cond.fieldLink RX4 32 "SlotStarModel" "sum" "[I", Cond.methodLink RX4 112 yX4_laySum, Cond.instanceMethod yX4_laySum, Cond.selects RX4 yX4_laySum yX4_laySum, Cond.initialized RX4, Cond.code yX4_laySum cX4_laySum 8 none, Cond.fieldLink RX4 7 "SlotStarModel" "slots" "I", Cond.methodLink RX4 56 yX4_star, Cond.instanceMethod yX4_star, Cond.selects RX4 yX4_star yX4_star, Cond.code yX4_star cX4_star 1 (some .int), Cond.methodLink RX4 52 yX4_copies, Cond.instanceMethod yX4_copies, Cond.selects RX4 yX4_copies yX4_copies, Cond.code yX4_copies cX4_copies 1 (some .int), Cond.fieldLink RX4 13 "SlotStarModel" "poles" "I", Cond.methodLink RX4 48 yX4_common, Cond.static yX4_common, Cond.code yX4_common cX4_common 5 (some .int), Cond.methodLink RX4 103 yX4_layOwn, Cond.instanceMethod yX4_layOwn, Cond.selects RX4 yX4_layOwn yX4_layOwn, Cond.code yX4_layOwn cX4_layOwn 3 none, Cond.methodLink RX4 96 yX4_layDivisor]
def wsX4_isNone_r2 : List Cond := [Cond.instanceMethod yX4_layDivisor, Cond.selects RX4 yX4_layDivisor yX4_layDivisor, Cond.code yX4_layDivisor cX4_layDivisor 4 none, Cond.fieldLink RX4 29 "SlotStarModel" "work" "[I", Cond.fieldLink RX4 22 "SlotStarModel" "own" "[I", Cond.fieldLink RX4 26 "SlotStarModel" "degree" "[I", Cond.methodLink RX4 100 yX4_divide, Cond.instanceMethod yX4_divide, Cond.selects RX4 yX4_divide yX4_divide, Cond.code yX4_divide cX4_divide 7 (some .int), Cond.methodLink RX4 84 yX4_phaseOf, Cond.instanceMethod yX4_phaseOf, Cond.selects RX4 yX4_phaseOf yX4_phaseOf, Cond.code yX4_phaseOf cX4_phaseOf 3 (some .int), Cond.fieldLink RX4 16 "SlotStarModel" "phases" "I", Cond.methodLink RX4 73 yX4_zone, Cond.instanceMethod yX4_zone, Cond.selects RX4 yX4_zone yX4_zone, Cond.code yX4_zone cX4_zone 2 (some .int), Cond.methodLink RX4 69 yX4_turn, Cond.instanceMethod yX4_turn, Cond.selects RX4 yX4_turn yX4_turn, Cond.code yX4_turn cX4_turn 2 (some .int), Cond.methodLink RX4 87 yX4_isForward]
def wsX4_isNone_r3 : List Cond := [Cond.instanceMethod yX4_isForward, Cond.selects RX4 yX4_isForward yX4_isForward, Cond.code yX4_isForward cX4_isForward 2 (some .boolean), Cond.methodLink RX4 106 yX4_leaveOver, Cond.instanceMethod yX4_leaveOver, Cond.selects RX4 yX4_leaveOver yX4_leaveOver, Cond.code yX4_leaveOver cX4_leaveOver 7 none]
def wsX4_isNone : List Cond := .code yX4_isNone cX4_isNone 5 (some .boolean) :: ((wsX4_isNone_r1 ++ (wsX4_isNone_r2 ++ wsX4_isNone_r3)) ++ wsX40)
def wsX4_vanishes_r1 : List Cond := [Cond.fieldLink RX4 19 "SlotStarModel" "reach" "I", Cond.methodLink RX4 59 yX4_in, Cond.static yX4_in, Cond.initialized RX4, Cond.code yX4_in cX4_in 3 (some .boolean), Cond.methodLink RX4 80 yX4_isBalanced, Cond.instanceMethod yX4_isBalanced, Cond.selects RX4 yX4_isBalanced yX4_isBalanced, Cond.code yX4_isBalanced cX4_isBalanced 1 (some .boolean), Cond.fieldLink RX4 16 "SlotStarModel" "phases" "I", Cond.methodLink RX4 56 yX4_star, Cond.instanceMethod yX4_star, Cond.selects RX4 yX4_star yX4_star, Cond.code yX4_star cX4_star 1 (some .int), Cond.fieldLink RX4 7 "SlotStarModel" "slots" "I", Cond.methodLink RX4 52 yX4_copies, Cond.instanceMethod yX4_copies, Cond.selects RX4 yX4_copies yX4_copies, Cond.code yX4_copies cX4_copies 1 (some .int), Cond.fieldLink RX4 13 "SlotStarModel" "poles" "I", Cond.methodLink RX4 48 yX4_common, Cond.static yX4_common, Cond.code yX4_common cX4_common 5 (some .int), Cond.methodLink RX4 116 yX4_isNone]
def wsX4_vanishes_r2 : List Cond := [Cond.instanceMethod yX4_isNone, Cond.selects RX4 yX4_isNone yX4_isNone, Cond.code yX4_isNone cX4_isNone 5 (some .boolean), Cond.fieldLink RX4 32 "SlotStarModel" "sum" "[I", Cond.methodLink RX4 112 yX4_laySum, Cond.instanceMethod yX4_laySum, Cond.selects RX4 yX4_laySum yX4_laySum, Cond.code yX4_laySum cX4_laySum 8 none, Cond.methodLink RX4 103 yX4_layOwn, Cond.instanceMethod yX4_layOwn, Cond.selects RX4 yX4_layOwn yX4_layOwn, Cond.code yX4_layOwn cX4_layOwn 3 none, Cond.methodLink RX4 96 yX4_layDivisor, Cond.instanceMethod yX4_layDivisor, Cond.selects RX4 yX4_layDivisor yX4_layDivisor, Cond.code yX4_layDivisor cX4_layDivisor 4 none, Cond.fieldLink RX4 29 "SlotStarModel" "work" "[I", Cond.fieldLink RX4 22 "SlotStarModel" "own" "[I", Cond.fieldLink RX4 26 "SlotStarModel" "degree" "[I", Cond.methodLink RX4 100 yX4_divide, Cond.instanceMethod yX4_divide, Cond.selects RX4 yX4_divide yX4_divide, Cond.code yX4_divide cX4_divide 7 (some .int), Cond.methodLink RX4 84 yX4_phaseOf]
def wsX4_vanishes_r3 : List Cond := [Cond.instanceMethod yX4_phaseOf, Cond.selects RX4 yX4_phaseOf yX4_phaseOf, Cond.code yX4_phaseOf cX4_phaseOf 3 (some .int), Cond.methodLink RX4 73 yX4_zone, Cond.instanceMethod yX4_zone, Cond.selects RX4 yX4_zone yX4_zone, Cond.code yX4_zone cX4_zone 2 (some .int), Cond.methodLink RX4 69 yX4_turn, Cond.instanceMethod yX4_turn, Cond.selects RX4 yX4_turn yX4_turn, Cond.code yX4_turn cX4_turn 2 (some .int), Cond.methodLink RX4 87 yX4_isForward, Cond.instanceMethod yX4_isForward, Cond.selects RX4 yX4_isForward yX4_isForward, Cond.code yX4_isForward cX4_isForward 2 (some .boolean), Cond.methodLink RX4 106 yX4_leaveOver, Cond.instanceMethod yX4_leaveOver, Cond.selects RX4 yX4_leaveOver yX4_leaveOver, Cond.code yX4_leaveOver cX4_leaveOver 7 none]
def wsX4_vanishes : List Cond := .code yX4_vanishes cX4_vanishes 2 (some .int) :: ((wsX4_vanishes_r1 ++ (wsX4_vanishes_r2 ++ wsX4_vanishes_r3)) ++ wsX40)
def wsX4_choose_r1 : List Cond := [Cond.methodLink RX4 59 yX4_in, Cond.static yX4_in, Cond.initialized RX4, Cond.code yX4_in cX4_in 3 (some .boolean), Cond.methodLink RX4 80 yX4_isBalanced, Cond.instanceMethod yX4_isBalanced, Cond.selects RX4 yX4_isBalanced yX4_isBalanced, Cond.code yX4_isBalanced cX4_isBalanced 1 (some .boolean), Cond.fieldLink RX4 16 "SlotStarModel" "phases" "I", Cond.methodLink RX4 56 yX4_star, Cond.instanceMethod yX4_star, Cond.selects RX4 yX4_star yX4_star, Cond.code yX4_star cX4_star 1 (some .int), Cond.fieldLink RX4 7 "SlotStarModel" "slots" "I", Cond.methodLink RX4 52 yX4_copies, Cond.instanceMethod yX4_copies, Cond.selects RX4 yX4_copies yX4_copies, Cond.code yX4_copies cX4_copies 1 (some .int), Cond.fieldLink RX4 13 "SlotStarModel" "poles" "I", Cond.methodLink RX4 48 yX4_common, Cond.static yX4_common, Cond.code yX4_common cX4_common 5 (some .int), Cond.methodLink RX4 66 yX4_pitch, Cond.instanceMethod yX4_pitch]
def wsX4_choose_r2 : List Cond := [Cond.selects RX4 yX4_pitch yX4_pitch, Cond.code yX4_pitch cX4_pitch 1 (some .int), Cond.methodLink RX4 63 yX4_greater, Cond.static yX4_greater, Cond.code yX4_greater cX4_greater 2 (some .int), Cond.methodLink RX4 116 yX4_isNone, Cond.instanceMethod yX4_isNone, Cond.selects RX4 yX4_isNone yX4_isNone, Cond.code yX4_isNone cX4_isNone 5 (some .boolean), Cond.fieldLink RX4 32 "SlotStarModel" "sum" "[I", Cond.methodLink RX4 112 yX4_laySum, Cond.instanceMethod yX4_laySum, Cond.selects RX4 yX4_laySum yX4_laySum, Cond.code yX4_laySum cX4_laySum 8 none, Cond.methodLink RX4 103 yX4_layOwn, Cond.instanceMethod yX4_layOwn, Cond.selects RX4 yX4_layOwn yX4_layOwn, Cond.code yX4_layOwn cX4_layOwn 3 none, Cond.methodLink RX4 96 yX4_layDivisor, Cond.instanceMethod yX4_layDivisor, Cond.selects RX4 yX4_layDivisor yX4_layDivisor, Cond.code yX4_layDivisor cX4_layDivisor 4 none, Cond.fieldLink RX4 29 "SlotStarModel" "work" "[I", Cond.fieldLink RX4 22 "SlotStarModel" "own" "[I"]
def wsX4_choose_r3 : List Cond := [Cond.fieldLink RX4 26 "SlotStarModel" "degree" "[I", Cond.methodLink RX4 100 yX4_divide, Cond.instanceMethod yX4_divide, Cond.selects RX4 yX4_divide yX4_divide, Cond.code yX4_divide cX4_divide 7 (some .int), Cond.methodLink RX4 84 yX4_phaseOf, Cond.instanceMethod yX4_phaseOf, Cond.selects RX4 yX4_phaseOf yX4_phaseOf, Cond.code yX4_phaseOf cX4_phaseOf 3 (some .int), Cond.methodLink RX4 73 yX4_zone, Cond.instanceMethod yX4_zone, Cond.selects RX4 yX4_zone yX4_zone, Cond.code yX4_zone cX4_zone 2 (some .int), Cond.methodLink RX4 69 yX4_turn, Cond.instanceMethod yX4_turn, Cond.selects RX4 yX4_turn yX4_turn, Cond.code yX4_turn cX4_turn 2 (some .int), Cond.methodLink RX4 87 yX4_isForward, Cond.instanceMethod yX4_isForward, Cond.selects RX4 yX4_isForward yX4_isForward, Cond.code yX4_isForward cX4_isForward 2 (some .boolean), Cond.methodLink RX4 106 yX4_leaveOver, Cond.instanceMethod yX4_leaveOver, Cond.selects RX4 yX4_leaveOver yX4_leaveOver]
def wsX4_choose_r4 : List Cond := [Cond.code yX4_leaveOver cX4_leaveOver 7 none]
def wsX4_choose : List Cond := .code yX4_choose cX4_choose 3 (some .int) :: ((wsX4_choose_r1 ++ (wsX4_choose_r2 ++ (wsX4_choose_r3 ++ wsX4_choose_r4))) ++ wsX40)
def wsX4_turned_r1 : List Cond := [Cond.fieldLink RX4 19 "SlotStarModel" "reach" "I", Cond.fieldLink RX4 32 "SlotStarModel" "sum" "[I", Cond.methodLink RX4 93 yX4_isPhase, Cond.instanceMethod yX4_isPhase, Cond.selects RX4 yX4_isPhase yX4_isPhase, Cond.initialized RX4, Cond.code yX4_isPhase cX4_isPhase 2 (some .boolean), Cond.fieldLink RX4 16 "SlotStarModel" "phases" "I", Cond.methodLink RX4 59 yX4_in, Cond.static yX4_in, Cond.code yX4_in cX4_in 3 (some .boolean), Cond.methodLink RX4 80 yX4_isBalanced, Cond.instanceMethod yX4_isBalanced, Cond.selects RX4 yX4_isBalanced yX4_isBalanced, Cond.code yX4_isBalanced cX4_isBalanced 1 (some .boolean), Cond.methodLink RX4 56 yX4_star, Cond.instanceMethod yX4_star, Cond.selects RX4 yX4_star yX4_star, Cond.code yX4_star cX4_star 1 (some .int), Cond.fieldLink RX4 7 "SlotStarModel" "slots" "I", Cond.methodLink RX4 52 yX4_copies, Cond.instanceMethod yX4_copies, Cond.selects RX4 yX4_copies yX4_copies, Cond.code yX4_copies cX4_copies 1 (some .int)]
def wsX4_turned_r2 : List Cond := [Cond.fieldLink RX4 13 "SlotStarModel" "poles" "I", Cond.methodLink RX4 48 yX4_common, Cond.static yX4_common, Cond.code yX4_common cX4_common 5 (some .int), Cond.methodLink RX4 112 yX4_laySum, Cond.instanceMethod yX4_laySum, Cond.selects RX4 yX4_laySum yX4_laySum, Cond.code yX4_laySum cX4_laySum 8 none, Cond.methodLink RX4 103 yX4_layOwn, Cond.instanceMethod yX4_layOwn, Cond.selects RX4 yX4_layOwn yX4_layOwn, Cond.code yX4_layOwn cX4_layOwn 3 none, Cond.methodLink RX4 96 yX4_layDivisor, Cond.instanceMethod yX4_layDivisor, Cond.selects RX4 yX4_layDivisor yX4_layDivisor, Cond.code yX4_layDivisor cX4_layDivisor 4 none, Cond.fieldLink RX4 29 "SlotStarModel" "work" "[I", Cond.fieldLink RX4 22 "SlotStarModel" "own" "[I", Cond.fieldLink RX4 26 "SlotStarModel" "degree" "[I", Cond.methodLink RX4 100 yX4_divide, Cond.instanceMethod yX4_divide, Cond.selects RX4 yX4_divide yX4_divide, Cond.code yX4_divide cX4_divide 7 (some .int), Cond.methodLink RX4 84 yX4_phaseOf]
def wsX4_turned_r3 : List Cond := [Cond.instanceMethod yX4_phaseOf, Cond.selects RX4 yX4_phaseOf yX4_phaseOf, Cond.code yX4_phaseOf cX4_phaseOf 3 (some .int), Cond.methodLink RX4 73 yX4_zone, Cond.instanceMethod yX4_zone, Cond.selects RX4 yX4_zone yX4_zone, Cond.code yX4_zone cX4_zone 2 (some .int), Cond.methodLink RX4 69 yX4_turn, Cond.instanceMethod yX4_turn, Cond.selects RX4 yX4_turn yX4_turn, Cond.code yX4_turn cX4_turn 2 (some .int), Cond.methodLink RX4 87 yX4_isForward, Cond.instanceMethod yX4_isForward, Cond.selects RX4 yX4_isForward yX4_isForward, Cond.code yX4_isForward cX4_isForward 2 (some .boolean), Cond.methodLink RX4 106 yX4_leaveOver, Cond.instanceMethod yX4_leaveOver, Cond.selects RX4 yX4_leaveOver yX4_leaveOver, Cond.code yX4_leaveOver cX4_leaveOver 7 none]
def wsX4_turned : List Cond := .code yX4_turned cX4_turned 8 (some .int) :: ((wsX4_turned_r1 ++ (wsX4_turned_r2 ++ wsX4_turned_r3)) ++ wsX40)
def wsX4_wayOf : List Cond := .code yX4_wayOf cX4_wayOf 4 (some .int) :: ([.fieldLink RX4 7 "SlotStarModel" "slots" "I"] ++ wsX40)
def wsX4_join_r1 : List Cond := [Cond.fieldLink RX4 120 "SlotStarModel" "forths" "I", Cond.fieldLink RX4 123 "SlotStarModel" "backs" "I", Cond.fieldLink RX4 7 "SlotStarModel" "slots" "I", Cond.fieldLink RX4 35 "SlotStarModel" "forth" "[I", Cond.fieldLink RX4 38 "SlotStarModel" "back" "[I", Cond.fieldLink RX4 126 "SlotStarModel" "least" "I", Cond.fieldLink RX4 129 "SlotStarModel" "shift" "I", Cond.methodLink RX4 84 yX4_phaseOf, Cond.instanceMethod yX4_phaseOf, Cond.selects RX4 yX4_phaseOf yX4_phaseOf, Cond.initialized RX4, Cond.code yX4_phaseOf cX4_phaseOf 3 (some .int), Cond.fieldLink RX4 16 "SlotStarModel" "phases" "I", Cond.methodLink RX4 73 yX4_zone, Cond.instanceMethod yX4_zone, Cond.selects RX4 yX4_zone yX4_zone, Cond.code yX4_zone cX4_zone 2 (some .int), Cond.methodLink RX4 69 yX4_turn, Cond.instanceMethod yX4_turn, Cond.selects RX4 yX4_turn yX4_turn, Cond.code yX4_turn cX4_turn 2 (some .int), Cond.fieldLink RX4 13 "SlotStarModel" "poles" "I", Cond.methodLink RX4 52 yX4_copies, Cond.instanceMethod yX4_copies]
def wsX4_join_r2 : List Cond := [Cond.selects RX4 yX4_copies yX4_copies, Cond.code yX4_copies cX4_copies 1 (some .int), Cond.methodLink RX4 48 yX4_common, Cond.static yX4_common, Cond.code yX4_common cX4_common 5 (some .int), Cond.methodLink RX4 56 yX4_star, Cond.instanceMethod yX4_star, Cond.selects RX4 yX4_star yX4_star, Cond.code yX4_star cX4_star 1 (some .int), Cond.methodLink RX4 87 yX4_isForward, Cond.instanceMethod yX4_isForward, Cond.selects RX4 yX4_isForward yX4_isForward, Cond.code yX4_isForward cX4_isForward 2 (some .boolean), Cond.methodLink RX4 132 yX4_wayOf, Cond.instanceMethod yX4_wayOf, Cond.selects RX4 yX4_wayOf yX4_wayOf, Cond.code yX4_wayOf cX4_wayOf 4 (some .int)]
def wsX4_join : List Cond := .code yX4_join cX4_join 5 (some .boolean) :: ((wsX4_join_r1 ++ wsX4_join_r2) ++ wsX40)
def wsX4_joined_r1 : List Cond := [Cond.fieldLink RX4 126 "SlotStarModel" "least" "I", Cond.fieldLink RX4 129 "SlotStarModel" "shift" "I", Cond.fieldLink RX4 120 "SlotStarModel" "forths" "I", Cond.methodLink RX4 93 yX4_isPhase, Cond.instanceMethod yX4_isPhase, Cond.selects RX4 yX4_isPhase yX4_isPhase, Cond.initialized RX4, Cond.code yX4_isPhase cX4_isPhase 2 (some .boolean), Cond.fieldLink RX4 16 "SlotStarModel" "phases" "I", Cond.methodLink RX4 59 yX4_in, Cond.static yX4_in, Cond.code yX4_in cX4_in 3 (some .boolean), Cond.methodLink RX4 80 yX4_isBalanced, Cond.instanceMethod yX4_isBalanced, Cond.selects RX4 yX4_isBalanced yX4_isBalanced, Cond.code yX4_isBalanced cX4_isBalanced 1 (some .boolean), Cond.methodLink RX4 56 yX4_star, Cond.instanceMethod yX4_star, Cond.selects RX4 yX4_star yX4_star, Cond.code yX4_star cX4_star 1 (some .int), Cond.fieldLink RX4 7 "SlotStarModel" "slots" "I", Cond.methodLink RX4 52 yX4_copies, Cond.instanceMethod yX4_copies, Cond.selects RX4 yX4_copies yX4_copies]
def wsX4_joined_r2 : List Cond := [Cond.code yX4_copies cX4_copies 1 (some .int), Cond.fieldLink RX4 13 "SlotStarModel" "poles" "I", Cond.methodLink RX4 48 yX4_common, Cond.static yX4_common, Cond.code yX4_common cX4_common 5 (some .int), Cond.methodLink RX4 135 yX4_join, Cond.instanceMethod yX4_join, Cond.selects RX4 yX4_join yX4_join, Cond.code yX4_join cX4_join 5 (some .boolean), Cond.fieldLink RX4 123 "SlotStarModel" "backs" "I", Cond.fieldLink RX4 35 "SlotStarModel" "forth" "[I", Cond.fieldLink RX4 38 "SlotStarModel" "back" "[I", Cond.methodLink RX4 84 yX4_phaseOf, Cond.instanceMethod yX4_phaseOf, Cond.selects RX4 yX4_phaseOf yX4_phaseOf, Cond.code yX4_phaseOf cX4_phaseOf 3 (some .int), Cond.methodLink RX4 73 yX4_zone, Cond.instanceMethod yX4_zone, Cond.selects RX4 yX4_zone yX4_zone, Cond.code yX4_zone cX4_zone 2 (some .int), Cond.methodLink RX4 69 yX4_turn, Cond.instanceMethod yX4_turn, Cond.selects RX4 yX4_turn yX4_turn, Cond.code yX4_turn cX4_turn 2 (some .int)]
def wsX4_joined_r3 : List Cond := [Cond.methodLink RX4 87 yX4_isForward, Cond.instanceMethod yX4_isForward, Cond.selects RX4 yX4_isForward yX4_isForward, Cond.code yX4_isForward cX4_isForward 2 (some .boolean), Cond.methodLink RX4 132 yX4_wayOf, Cond.instanceMethod yX4_wayOf, Cond.selects RX4 yX4_wayOf yX4_wayOf, Cond.code yX4_wayOf cX4_wayOf 4 (some .int)]
def wsX4_joined : List Cond := .code yX4_joined cX4_joined 3 (some .int) :: ((wsX4_joined_r1 ++ (wsX4_joined_r2 ++ wsX4_joined_r3)) ++ wsX40)
def wsX4_partner_r1 : List Cond := [Cond.fieldLink RX4 120 "SlotStarModel" "forths" "I", Cond.fieldLink RX4 38 "SlotStarModel" "back" "[I", Cond.fieldLink RX4 129 "SlotStarModel" "shift" "I", Cond.fieldLink RX4 123 "SlotStarModel" "backs" "I", Cond.fieldLink RX4 35 "SlotStarModel" "forth" "[I", Cond.methodLink RX4 76 yX4_isSlot, Cond.instanceMethod yX4_isSlot, Cond.selects RX4 yX4_isSlot yX4_isSlot, Cond.initialized RX4, Cond.code yX4_isSlot cX4_isSlot 2 (some .boolean), Cond.fieldLink RX4 7 "SlotStarModel" "slots" "I", Cond.methodLink RX4 59 yX4_in, Cond.static yX4_in, Cond.code yX4_in cX4_in 3 (some .boolean), Cond.methodLink RX4 80 yX4_isBalanced, Cond.instanceMethod yX4_isBalanced, Cond.selects RX4 yX4_isBalanced yX4_isBalanced, Cond.code yX4_isBalanced cX4_isBalanced 1 (some .boolean), Cond.fieldLink RX4 16 "SlotStarModel" "phases" "I", Cond.methodLink RX4 56 yX4_star, Cond.instanceMethod yX4_star, Cond.selects RX4 yX4_star yX4_star, Cond.code yX4_star cX4_star 1 (some .int), Cond.methodLink RX4 52 yX4_copies]
def wsX4_partner_r2 : List Cond := [Cond.instanceMethod yX4_copies, Cond.selects RX4 yX4_copies yX4_copies, Cond.code yX4_copies cX4_copies 1 (some .int), Cond.fieldLink RX4 13 "SlotStarModel" "poles" "I", Cond.methodLink RX4 48 yX4_common, Cond.static yX4_common, Cond.code yX4_common cX4_common 5 (some .int), Cond.methodLink RX4 84 yX4_phaseOf, Cond.instanceMethod yX4_phaseOf, Cond.selects RX4 yX4_phaseOf yX4_phaseOf, Cond.code yX4_phaseOf cX4_phaseOf 3 (some .int), Cond.methodLink RX4 73 yX4_zone, Cond.instanceMethod yX4_zone, Cond.selects RX4 yX4_zone yX4_zone, Cond.code yX4_zone cX4_zone 2 (some .int), Cond.methodLink RX4 69 yX4_turn, Cond.instanceMethod yX4_turn, Cond.selects RX4 yX4_turn yX4_turn, Cond.code yX4_turn cX4_turn 2 (some .int), Cond.methodLink RX4 135 yX4_join, Cond.instanceMethod yX4_join, Cond.selects RX4 yX4_join yX4_join, Cond.code yX4_join cX4_join 5 (some .boolean), Cond.fieldLink RX4 126 "SlotStarModel" "least" "I"]
def wsX4_partner_r3 : List Cond := [Cond.methodLink RX4 87 yX4_isForward, Cond.instanceMethod yX4_isForward, Cond.selects RX4 yX4_isForward yX4_isForward, Cond.code yX4_isForward cX4_isForward 2 (some .boolean), Cond.methodLink RX4 132 yX4_wayOf, Cond.instanceMethod yX4_wayOf, Cond.selects RX4 yX4_wayOf yX4_wayOf, Cond.code yX4_wayOf cX4_wayOf 4 (some .int)]
def wsX4_partner : List Cond := .code yX4_partner cX4_partner 5 (some .int) :: ((wsX4_partner_r1 ++ (wsX4_partner_r2 ++ wsX4_partner_r3)) ++ wsX40)
def wsX4_path : List Cond := .code yX4_path cX4_path 3 (some .int) :: ([.methodLink RX4 76 yX4_isSlot, .instanceMethod yX4_isSlot, .selects RX4 yX4_isSlot yX4_isSlot, .initialized RX4, .code yX4_isSlot cX4_isSlot 2 (some .boolean), .fieldLink RX4 7 "SlotStarModel" "slots" "I", .methodLink RX4 59 yX4_in, .static yX4_in, .code yX4_in cX4_in 3 (some .boolean), .methodLink RX4 52 yX4_copies, .instanceMethod yX4_copies, .selects RX4 yX4_copies yX4_copies, .code yX4_copies cX4_copies 1 (some .int), .fieldLink RX4 13 "SlotStarModel" "poles" "I", .methodLink RX4 48 yX4_common, .static yX4_common, .code yX4_common cX4_common 5 (some .int), .methodLink RX4 56 yX4_star, .instanceMethod yX4_star, .selects RX4 yX4_star yX4_star, .code yX4_star cX4_star 1 (some .int)] ++ wsX40)
def wsX4_image : List Cond := .code yX4_image cX4_image 2 (some .int) :: ([.fieldLink RX4 41 "SlotStarModel" "image" "[I", .fieldLink RX4 7 "SlotStarModel" "slots" "I", .fieldLink RX4 13 "SlotStarModel" "poles" "I", .fieldLink RX4 16 "SlotStarModel" "phases" "I", .fieldLink RX4 19 "SlotStarModel" "reach" "I", .fieldLink RX4 44 "SlotStarModel" "isKept" "[Z", .methodLink RX4 59 yX4_in, .static yX4_in, .initialized RX4, .code yX4_in cX4_in 3 (some .boolean)] ++ wsX40)
def wsX4_restore : List Cond := .code yX4_restore cX4_restore 2 (some .int) :: ([.fieldLink RX4 44 "SlotStarModel" "isKept" "[Z", .fieldLink RX4 41 "SlotStarModel" "image" "[I", .fieldLink RX4 7 "SlotStarModel" "slots" "I", .fieldLink RX4 13 "SlotStarModel" "poles" "I", .fieldLink RX4 16 "SlotStarModel" "phases" "I", .fieldLink RX4 19 "SlotStarModel" "reach" "I", .methodLink RX4 59 yX4_in, .static yX4_in, .initialized RX4, .code yX4_in cX4_in 3 (some .boolean)] ++ wsX40)
def wsX4_told : List Cond := .code yX4_told cX4_told 2 (some .int) :: ([.fieldLink RX4 7 "SlotStarModel" "slots" "I", .fieldLink RX4 13 "SlotStarModel" "poles" "I", .fieldLink RX4 16 "SlotStarModel" "phases" "I", .fieldLink RX4 19 "SlotStarModel" "reach" "I", .methodLink RX4 52 yX4_copies, .instanceMethod yX4_copies, .selects RX4 yX4_copies yX4_copies, .initialized RX4, .code yX4_copies cX4_copies 1 (some .int), .methodLink RX4 48 yX4_common, .static yX4_common, .code yX4_common cX4_common 5 (some .int), .methodLink RX4 56 yX4_star, .instanceMethod yX4_star, .selects RX4 yX4_star yX4_star, .code yX4_star cX4_star 1 (some .int), .methodLink RX4 80 yX4_isBalanced, .instanceMethod yX4_isBalanced, .selects RX4 yX4_isBalanced yX4_isBalanced, .code yX4_isBalanced cX4_isBalanced 1 (some .boolean)] ++ wsX40)
def wsJ9_abs_0f7a4 : List Cond := .code yJ9_abs_0f7a4 cJ9_abs_0f7a4 1 (some .int) :: ([])
def wsJ9_max_7cf53 : List Cond := .code yJ9_max_7cf53 cJ9_max_7cf53 2 (some .int) :: ([])
def wsJ9_min_7cf53 : List Cond := .code yJ9_min_7cf53 cJ9_min_7cf53 2 (some .int) :: ([])
def wsL_law_r1 : List Cond := [Cond.classLink RL 7 RX3, Cond.instantiable RX3 6, Cond.initialized RX3, Cond.classLink RL 10 RX4, Cond.instantiable RX4 16, Cond.initialized RX4, Cond.methodLink RL 9 yX3_init, Cond.instanceMethod yX3_init, Cond.code yX3_init cX3_init 1 none, Cond.methodLink RX3 1 objectInit, Cond.instanceMethod objectInit, Cond.code objectInit ⟨#[0xb1]⟩ 1 none, Cond.classLink RX3 7 RX1, Cond.instantiable RX1 6, Cond.initialized RX1, Cond.fieldLink RX3 10 "SlotStar" "star" "LSlotStar$Machine;", Cond.classLink RX3 16 RX2, Cond.instantiable RX2 3, Cond.initialized RX2, Cond.fieldLink RX3 19 "SlotStar" "root" "LSlotStar$Root;", Cond.classLink RX3 23 RX0, Cond.instantiable RX0 6, Cond.initialized RX0, Cond.fieldLink RX3 26 "SlotStar" "joint" "LSlotStar$Joint;"]
def wsL_law_r2 : List Cond := [Cond.arrayClass .int, Cond.fieldLink RX3 30 "SlotStar" "first" "[I", Cond.fieldLink RX3 34 "SlotStar" "second" "[I", Cond.fieldLink RX3 37 "SlotStar" "images" "[I", Cond.instanceMethod yX1_init, Cond.code yX1_init cX1_init 1 none, Cond.methodLink RX1 1 objectInit, Cond.instanceMethod yX2_init, Cond.code yX2_init cX2_init 1 none, Cond.methodLink RX2 3 objectInit, Cond.fieldLink RX2 9 "SlotStar$Root" "numbers" "[I", Cond.instanceMethod yX0_init, Cond.code yX0_init cX0_init 1 none, Cond.methodLink RX0 3 objectInit, Cond.fieldLink RX0 9 "SlotStar$Joint" "forwardSlots" "[I", Cond.fieldLink RX0 15 "SlotStar$Joint" "backSlots" "[I", Cond.methodLink RX3 40 yX3_take, Cond.instanceMethod yX3_take, Cond.selects RX3 yX3_take yX3_take, Cond.code yX3_take cX3_take 5 none, Cond.fieldLink RX3 52 "SlotStar$Machine" "turns" "I", Cond.methodLink RX3 173 yX1_become, Cond.instanceMethod yX1_become, Cond.selects RX1 yX1_become yX1_become]
def wsL_law_r3 : List Cond := [Cond.code yX1_become cX1_become 5 none, Cond.fieldLink RX1 7 "SlotStar$Machine" "slots" "I", Cond.fieldLink RX1 13 "SlotStar$Machine" "pairs" "I", Cond.fieldLink RX1 16 "SlotStar$Machine" "phases" "I", Cond.fieldLink RX1 19 "SlotStar$Machine" "width" "I", Cond.fieldLink RX1 28 "SlotStar$Machine" "copies" "I", Cond.fieldLink RX1 34 "SlotStar$Machine" "turns" "I", Cond.static yX3_commonDivisor, Cond.code yX3_commonDivisor cX3_commonDivisor 3 (some .int), Cond.methodLink RX3 200 Lib.Math.min.name, Cond.static Lib.Math.min.name, Cond.initialized "java/lang/Math", Cond.code Lib.Math.min.name Lib.Math.min.code 2 (some .int), Cond.methodLink RX3 166 yX3_leftOver, Cond.static yX3_leftOver, Cond.code yX3_leftOver cX3_leftOver 3 (some .int), Cond.static yX3_cut, Cond.code yX3_cut cX3_cut 2 (some .int), Cond.methodLink RX3 176 yX2_become, Cond.instanceMethod yX2_become, Cond.selects RX2 yX2_become yX2_become, Cond.code yX2_become cX2_become 4 none, Cond.fieldLink RX2 15 "SlotStar$Root" "turns" "I", Cond.fieldLink RX2 51 "SlotStar$Root" "degree" "I"]
def wsL_law_r4 : List Cond := [Cond.methodLink RX2 19 yJ7_fill_53178, Cond.static yJ7_fill_53178, Cond.initialized RJ7, Cond.code yJ7_fill_53178 cJ7_fill_53178 4 none, Cond.static yX3_put, Cond.code yX3_put cX3_put 3 none, Cond.methodLink RX3 44 yX3_isWithin, Cond.static yX3_isWithin, Cond.code yX3_isWithin cX3_isWithin 3 (some .boolean), Cond.methodLink RX2 36 yX2_moebius, Cond.static yX2_moebius, Cond.code yX2_moebius cX2_moebius 4 (some .int), Cond.methodLink RX2 40 yX2_multiplyByOneLess, Cond.instanceMethod yX2_multiplyByOneLess, Cond.selects RX2 yX2_multiplyByOneLess yX2_multiplyByOneLess, Cond.code yX2_multiplyByOneLess cX2_multiplyByOneLess 3 none, Cond.static yX3_at, Cond.code yX3_at cX3_at 2 (some .int), Cond.methodLink RX2 44 yX2_divideByOneLess, Cond.instanceMethod yX2_divideByOneLess, Cond.selects RX2 yX2_divideByOneLess yX2_divideByOneLess, Cond.code yX2_divideByOneLess cX2_divideByOneLess 3 none, Cond.methodLink RX2 47 yX2_highestPower, Cond.instanceMethod yX2_highestPower]
def wsL_law_r5 : List Cond := [Cond.selects RX2 yX2_highestPower yX2_highestPower, Cond.code yX2_highestPower cX2_highestPower 2 (some .int), Cond.methodLink RL 12 yX4_init, Cond.instanceMethod yX4_init, Cond.code yX4_init cX4_init 1 none, Cond.methodLink RX4 1 objectInit, Cond.fieldLink RX4 7 "SlotStarModel" "slots" "I", Cond.fieldLink RX4 13 "SlotStarModel" "poles" "I", Cond.fieldLink RX4 16 "SlotStarModel" "phases" "I", Cond.fieldLink RX4 19 "SlotStarModel" "reach" "I", Cond.fieldLink RX4 22 "SlotStarModel" "own" "[I", Cond.fieldLink RX4 26 "SlotStarModel" "degree" "[I", Cond.fieldLink RX4 29 "SlotStarModel" "work" "[I", Cond.fieldLink RX4 32 "SlotStarModel" "sum" "[I", Cond.fieldLink RX4 35 "SlotStarModel" "forth" "[I", Cond.fieldLink RX4 38 "SlotStarModel" "back" "[I", Cond.fieldLink RX4 41 "SlotStarModel" "image" "[I", Cond.arrayClass .boolean, Cond.fieldLink RX4 44 "SlotStarModel" "isKept" "[Z", Cond.methodLink RL 13 yX3_machine, Cond.instanceMethod yX3_machine, Cond.selects RX3 yX3_machine yX3_machine, Cond.code yX3_machine cX3_machine 4 (some .int), Cond.methodLink RX3 48 yX3_poleWidth]
def wsL_law_r6 : List Cond := [Cond.static yX3_poleWidth, Cond.code yX3_poleWidth cX3_poleWidth 2 (some .int), Cond.methodLink RX3 195 Lib.Math.max.name, Cond.static Lib.Math.max.name, Cond.code Lib.Math.max.name Lib.Math.max.code 2 (some .int), Cond.methodLink RX3 112 yX3_cut, Cond.methodLink RL 17 yX4_machine, Cond.instanceMethod yX4_machine, Cond.selects RX4 yX4_machine yX4_machine, Cond.code yX4_machine cX4_machine 4 (some .int), Cond.methodLink RX4 59 yX4_in, Cond.static yX4_in, Cond.code yX4_in cX4_in 3 (some .boolean), Cond.methodLink RX4 66 yX4_pitch, Cond.instanceMethod yX4_pitch, Cond.selects RX4 yX4_pitch yX4_pitch, Cond.code yX4_pitch cX4_pitch 1 (some .int), Cond.methodLink RX4 63 yX4_greater, Cond.static yX4_greater, Cond.code yX4_greater cX4_greater 2 (some .int), Cond.methodLink RX4 56 yX4_star, Cond.instanceMethod yX4_star, Cond.selects RX4 yX4_star yX4_star, Cond.code yX4_star cX4_star 1 (some .int)]
def wsL_law_r7 : List Cond := [Cond.methodLink RX4 52 yX4_copies, Cond.instanceMethod yX4_copies, Cond.selects RX4 yX4_copies yX4_copies, Cond.code yX4_copies cX4_copies 1 (some .int), Cond.methodLink RX4 48 yX4_common, Cond.static yX4_common, Cond.code yX4_common cX4_common 5 (some .int), Cond.methodLink RL 18 yX3_width, Cond.instanceMethod yX3_width, Cond.selects RX3 yX3_width yX3_width, Cond.code yX3_width cX3_width 3 (some .int), Cond.fieldLink RX3 56 "SlotStar$Machine" "slots" "I", Cond.fieldLink RX3 59 "SlotStar$Machine" "width" "I", Cond.methodLink RL 22 yX4_width, Cond.instanceMethod yX4_width, Cond.selects RX4 yX4_width yX4_width, Cond.code yX4_width cX4_width 3 (some .int), Cond.methodLink RL 23 yX3_lacking, Cond.instanceMethod yX3_lacking, Cond.selects RX3 yX3_lacking yX3_lacking, Cond.code yX3_lacking cX3_lacking 1 (some .int), Cond.methodLink RX3 62 yX1_lackingDivisor, Cond.instanceMethod yX1_lackingDivisor, Cond.selects RX1 yX1_lackingDivisor yX1_lackingDivisor]
def wsL_law_r8 : List Cond := [Cond.code yX1_lackingDivisor cX1_lackingDivisor 1 (some .int), Cond.methodLink RL 27 yX4_lacking, Cond.instanceMethod yX4_lacking, Cond.selects RX4 yX4_lacking yX4_lacking, Cond.code yX4_lacking cX4_lacking 1 (some .int), Cond.methodLink RL 28 yX3_slot, Cond.instanceMethod yX3_slot, Cond.selects RX3 yX3_slot yX3_slot, Cond.code yX3_slot cX3_slot 3 (some .int), Cond.methodLink RX3 66 yX3_isSlot, Cond.instanceMethod yX3_isSlot, Cond.selects RX3 yX3_isSlot yX3_isSlot, Cond.code yX3_isSlot cX3_isSlot 2 (some .boolean), Cond.methodLink RX3 70 yX1_isBalanced, Cond.instanceMethod yX1_isBalanced, Cond.selects RX1 yX1_isBalanced yX1_isBalanced, Cond.code yX1_isBalanced cX1_isBalanced 1 (some .boolean), Cond.methodLink RX1 37 yX1_lackingDivisor, Cond.methodLink RX3 74 yX1_turnOf, Cond.instanceMethod yX1_turnOf, Cond.selects RX1 yX1_turnOf yX1_turnOf, Cond.code yX1_turnOf cX1_turnOf 2 (some .int), Cond.methodLink RX3 78 yX1_copyOf, Cond.instanceMethod yX1_copyOf]
def wsL_law_r9 : List Cond := [Cond.selects RX1 yX1_copyOf yX1_copyOf, Cond.code yX1_copyOf cX1_copyOf 2 (some .int), Cond.methodLink RX3 81 yX1_zoneOf, Cond.instanceMethod yX1_zoneOf, Cond.selects RX1 yX1_zoneOf yX1_zoneOf, Cond.code yX1_zoneOf cX1_zoneOf 2 (some .int), Cond.methodLink RX1 44 yX1_turnOf, Cond.methodLink RX3 84 yX1_phaseOf, Cond.instanceMethod yX1_phaseOf, Cond.selects RX1 yX1_phaseOf yX1_phaseOf, Cond.code yX1_phaseOf cX1_phaseOf 3 (some .int), Cond.methodLink RX1 48 yX1_zoneOf, Cond.methodLink RX3 87 yX1_isForward, Cond.instanceMethod yX1_isForward, Cond.selects RX1 yX1_isForward yX1_isForward, Cond.code yX1_isForward cX1_isForward 2 (some .boolean), Cond.methodLink RX3 90 yX1_endOf, Cond.instanceMethod yX1_endOf, Cond.selects RX1 yX1_endOf yX1_endOf, Cond.code yX1_endOf cX1_endOf 3 (some .int), Cond.methodLink RX3 93 yX1_coilEndingIn, Cond.instanceMethod yX1_coilEndingIn, Cond.selects RX1 yX1_coilEndingIn yX1_coilEndingIn, Cond.code yX1_coilEndingIn cX1_coilEndingIn 2 (some .int)]
def wsL_law_r10 : List Cond := [Cond.methodLink RL 32 yX4_slot, Cond.instanceMethod yX4_slot, Cond.selects RX4 yX4_slot yX4_slot, Cond.code yX4_slot cX4_slot 3 (some .int), Cond.methodLink RX4 76 yX4_isSlot, Cond.instanceMethod yX4_isSlot, Cond.selects RX4 yX4_isSlot yX4_isSlot, Cond.code yX4_isSlot cX4_isSlot 2 (some .boolean), Cond.methodLink RX4 80 yX4_isBalanced, Cond.instanceMethod yX4_isBalanced, Cond.selects RX4 yX4_isBalanced yX4_isBalanced, Cond.code yX4_isBalanced cX4_isBalanced 1 (some .boolean), Cond.methodLink RX4 69 yX4_turn, Cond.instanceMethod yX4_turn, Cond.selects RX4 yX4_turn yX4_turn, Cond.code yX4_turn cX4_turn 2 (some .int), Cond.methodLink RX4 73 yX4_zone, Cond.instanceMethod yX4_zone, Cond.selects RX4 yX4_zone yX4_zone, Cond.code yX4_zone cX4_zone 2 (some .int), Cond.methodLink RX4 84 yX4_phaseOf, Cond.instanceMethod yX4_phaseOf, Cond.selects RX4 yX4_phaseOf yX4_phaseOf, Cond.code yX4_phaseOf cX4_phaseOf 3 (some .int)]
def wsL_law_r11 : List Cond := [Cond.methodLink RX4 87 yX4_isForward, Cond.instanceMethod yX4_isForward, Cond.selects RX4 yX4_isForward yX4_isForward, Cond.code yX4_isForward cX4_isForward 2 (some .boolean), Cond.methodLink RX4 90 yX4_begins, Cond.instanceMethod yX4_begins, Cond.selects RX4 yX4_begins yX4_begins, Cond.code yX4_begins cX4_begins 2 (some .int), Cond.methodLink RL 33 yX3_phase, Cond.instanceMethod yX3_phase, Cond.selects RX3 yX3_phase yX3_phase, Cond.code yX3_phase cX3_phase 3 (some .int), Cond.methodLink RX3 96 yX3_isPhase, Cond.instanceMethod yX3_isPhase, Cond.selects RX3 yX3_isPhase yX3_isPhase, Cond.code yX3_isPhase cX3_isPhase 2 (some .boolean), Cond.fieldLink RX3 106 "SlotStar$Machine" "phases" "I", Cond.methodLink RX3 99 yX1_countSides, Cond.instanceMethod yX1_countSides, Cond.selects RX1 yX1_countSides yX1_countSides, Cond.code yX1_countSides cX1_countSides 5 (some .int), Cond.methodLink RX1 51 yX1_phaseOf, Cond.methodLink RX1 54 yX1_isForward, Cond.methodLink RL 36 yX4_phase]
def wsL_law_r12 : List Cond := [Cond.instanceMethod yX4_phase, Cond.selects RX4 yX4_phase yX4_phase, Cond.code yX4_phase cX4_phase 5 (some .int), Cond.methodLink RX4 93 yX4_isPhase, Cond.instanceMethod yX4_isPhase, Cond.selects RX4 yX4_isPhase yX4_isPhase, Cond.code yX4_isPhase cX4_isPhase 2 (some .boolean), Cond.methodLink RL 37 yX3_layer, Cond.instanceMethod yX3_layer, Cond.selects RX3 yX3_layer yX3_layer, Cond.code yX3_layer cX3_layer 6 (some .int), Cond.methodLink RL 40 yX4_layer, Cond.instanceMethod yX4_layer, Cond.selects RX4 yX4_layer yX4_layer, Cond.code yX4_layer cX4_layer 4 (some .int), Cond.methodLink RL 41 yX3_each, Cond.instanceMethod yX3_each, Cond.selects RX3 yX3_each yX3_each, Cond.code yX3_each cX3_each 4 (some .int), Cond.fieldLink RX3 103 "SlotStar$Machine" "pairs" "I", Cond.methodLink RX3 109 yX3_commonDivisor, Cond.methodLink RL 44 yX4_each, Cond.instanceMethod yX4_each, Cond.selects RX4 yX4_each yX4_each]
def wsL_law_r13 : List Cond := [Cond.code yX4_each cX4_each 4 (some .int), Cond.methodLink RL 45 yX3_own, Cond.instanceMethod yX3_own, Cond.selects RX3 yX3_own yX3_own, Cond.code yX3_own cX3_own 2 (some .int), Cond.fieldLink RX3 115 "SlotStar$Root" "degree" "I", Cond.fieldLink RX3 118 "SlotStar$Root" "numbers" "[I", Cond.methodLink RX3 121 yX3_at, Cond.methodLink RL 48 yX4_own, Cond.instanceMethod yX4_own, Cond.selects RX4 yX4_own yX4_own, Cond.code yX4_own cX4_own 3 (some .int), Cond.methodLink RX4 103 yX4_layOwn, Cond.instanceMethod yX4_layOwn, Cond.selects RX4 yX4_layOwn yX4_layOwn, Cond.code yX4_layOwn cX4_layOwn 3 none, Cond.methodLink RX4 96 yX4_layDivisor, Cond.instanceMethod yX4_layDivisor, Cond.selects RX4 yX4_layDivisor yX4_layDivisor, Cond.code yX4_layDivisor cX4_layDivisor 4 none, Cond.methodLink RX4 100 yX4_divide, Cond.instanceMethod yX4_divide, Cond.selects RX4 yX4_divide yX4_divide, Cond.code yX4_divide cX4_divide 7 (some .int)]
def wsL_law_r14 : List Cond := [Cond.methodLink RL 49 yX3_sum, Cond.instanceMethod yX3_sum, Cond.selects RX3 yX3_sum yX3_sum, Cond.code yX3_sum cX3_sum 4 (some .int), Cond.constant RX3 125 (-100001), Cond.constant RX3 129 (-100002), Cond.constant RX3 130 (-100003), Cond.methodLink RX3 126 yX3_isWave, Cond.static yX3_isWave, Cond.code yX3_isWave cX3_isWave 1 (some .boolean), Cond.methodLink RX3 131 yX3_addUp, Cond.instanceMethod yX3_addUp, Cond.selects RX3 yX3_addUp yX3_addUp, Cond.code yX3_addUp cX3_addUp 7 none, Cond.methodLink RX3 179 yJ7_fill_53178, Cond.methodLink RX3 185 yX3_addPower, Cond.instanceMethod yX3_addPower, Cond.selects RX3 yX3_addPower yX3_addPower, Cond.code yX3_addPower cX3_addPower 5 none, Cond.methodLink RX3 169 yX3_put, Cond.methodLink RX3 188 yX2_reduce, Cond.instanceMethod yX2_reduce, Cond.selects RX2 yX2_reduce yX2_reduce, Cond.code yX2_reduce cX2_reduce 6 none]
def wsL_law_r15 : List Cond := [Cond.methodLink RL 52 yX4_sum, Cond.instanceMethod yX4_sum, Cond.selects RX4 yX4_sum yX4_sum, Cond.code yX4_sum cX4_sum 4 (some .int), Cond.constant RX4 109 (-100001), Cond.constant RX4 110 (-100002), Cond.constant RX4 111 (-100003), Cond.methodLink RX4 112 yX4_laySum, Cond.instanceMethod yX4_laySum, Cond.selects RX4 yX4_laySum yX4_laySum, Cond.code yX4_laySum cX4_laySum 8 none, Cond.methodLink RX4 106 yX4_leaveOver, Cond.instanceMethod yX4_leaveOver, Cond.selects RX4 yX4_leaveOver yX4_leaveOver, Cond.code yX4_leaveOver cX4_leaveOver 7 none, Cond.methodLink RL 53 yX3_vanishes, Cond.instanceMethod yX3_vanishes, Cond.selects RX3 yX3_vanishes yX3_vanishes, Cond.code yX3_vanishes cX3_vanishes 2 (some .int), Cond.methodLink RX3 135 yX3_isNothing, Cond.instanceMethod yX3_isNothing, Cond.selects RX3 yX3_isNothing yX3_isNothing, Cond.code yX3_isNothing cX3_isNothing 3 (some .boolean), Cond.methodLink RX3 191 yX2_isZero]
def wsL_law_r16 : List Cond := [Cond.instanceMethod yX2_isZero, Cond.selects RX2 yX2_isZero yX2_isZero, Cond.code yX2_isZero cX2_isZero 3 (some .boolean), Cond.methodLink RL 56 yX4_vanishes, Cond.instanceMethod yX4_vanishes, Cond.selects RX4 yX4_vanishes yX4_vanishes, Cond.code yX4_vanishes cX4_vanishes 2 (some .int), Cond.methodLink RX4 116 yX4_isNone, Cond.instanceMethod yX4_isNone, Cond.selects RX4 yX4_isNone yX4_isNone, Cond.code yX4_isNone cX4_isNone 5 (some .boolean), Cond.methodLink RL 57 yX3_choose, Cond.instanceMethod yX3_choose, Cond.selects RX3 yX3_choose yX3_choose, Cond.code yX3_choose cX3_choose 3 (some .int), Cond.methodLink RL 60 yX4_choose, Cond.instanceMethod yX4_choose, Cond.selects RX4 yX4_choose yX4_choose, Cond.code yX4_choose cX4_choose 3 (some .int), Cond.methodLink RL 61 yX3_turned, Cond.instanceMethod yX3_turned, Cond.selects RX3 yX3_turned yX3_turned, Cond.code yX3_turned cX3_turned 5 (some .int), Cond.methodLink RX3 139 yX2_areSame]
def wsL_law_r17 : List Cond := [Cond.instanceMethod yX2_areSame, Cond.selects RX2 yX2_areSame yX2_areSame, Cond.code yX2_areSame cX2_areSame 4 (some .boolean), Cond.methodLink RX3 143 yX2_multiplyByX, Cond.instanceMethod yX2_multiplyByX, Cond.selects RX2 yX2_multiplyByX yX2_multiplyByX, Cond.code yX2_multiplyByX cX2_multiplyByX 4 none, Cond.methodLink RL 64 yX4_turned, Cond.instanceMethod yX4_turned, Cond.selects RX4 yX4_turned yX4_turned, Cond.code yX4_turned cX4_turned 8 (some .int), Cond.methodLink RL 65 yX3_joined, Cond.instanceMethod yX3_joined, Cond.selects RX3 yX3_joined yX3_joined, Cond.code yX3_joined cX3_joined 3 (some .int), Cond.fieldLink RX3 151 "SlotStar$Joint" "ways" "I", Cond.fieldLink RX3 154 "SlotStar$Joint" "shift" "I", Cond.fieldLink RX3 157 "SlotStar$Joint" "forwards" "I", Cond.methodLink RX3 147 yX0_join, Cond.instanceMethod yX0_join, Cond.selects RX0 yX0_join yX0_join, Cond.code yX0_join cX0_join 5 (some .boolean), Cond.fieldLink RX0 22 "SlotStar$Joint" "forwards" "I", Cond.fieldLink RX0 26 "SlotStar$Joint" "backs" "I"]
def wsL_law_r18 : List Cond := [Cond.fieldLink RX0 29 "SlotStar$Joint" "shift" "I", Cond.fieldLink RX0 36 "SlotStar$Joint" "ways" "I", Cond.methodLink RX0 18 yX0_collect, Cond.instanceMethod yX0_collect, Cond.selects RX0 yX0_collect yX0_collect, Cond.code yX0_collect cX0_collect 4 none, Cond.fieldLink RX0 39 "SlotStar$Machine" "slots" "I", Cond.methodLink RX0 44 yX1_phaseOf, Cond.methodLink RX0 48 yX1_isForward, Cond.methodLink RX0 32 yX0_waysOf, Cond.instanceMethod yX0_waysOf, Cond.selects RX0 yX0_waysOf yX0_waysOf, Cond.code yX0_waysOf cX0_waysOf 5 (some .int), Cond.methodLink RX0 60 yX0_backOf, Cond.instanceMethod yX0_backOf, Cond.selects RX0 yX0_backOf yX0_backOf, Cond.code yX0_backOf cX0_backOf 3 (some .int), Cond.methodLink RX0 64 yX1_wayBetween, Cond.instanceMethod yX1_wayBetween, Cond.selects RX1 yX1_wayBetween yX1_wayBetween, Cond.code yX1_wayBetween cX1_wayBetween 4 (some .int), Cond.methodLink RX1 58 Lib.Math.abs.name, Cond.static Lib.Math.abs.name, Cond.code Lib.Math.abs.name Lib.Math.abs.code 1 (some .int)]
def wsL_law_r19 : List Cond := [Cond.methodLink RX1 63 Lib.Math.min.name, Cond.methodLink RL 68 yX4_joined, Cond.instanceMethod yX4_joined, Cond.selects RX4 yX4_joined yX4_joined, Cond.code yX4_joined cX4_joined 3 (some .int), Cond.fieldLink RX4 126 "SlotStarModel" "least" "I", Cond.fieldLink RX4 129 "SlotStarModel" "shift" "I", Cond.fieldLink RX4 120 "SlotStarModel" "forths" "I", Cond.methodLink RX4 135 yX4_join, Cond.instanceMethod yX4_join, Cond.selects RX4 yX4_join yX4_join, Cond.code yX4_join cX4_join 5 (some .boolean), Cond.fieldLink RX4 123 "SlotStarModel" "backs" "I", Cond.methodLink RX4 132 yX4_wayOf, Cond.instanceMethod yX4_wayOf, Cond.selects RX4 yX4_wayOf yX4_wayOf, Cond.code yX4_wayOf cX4_wayOf 4 (some .int), Cond.methodLink RL 69 yX3_partner, Cond.instanceMethod yX3_partner, Cond.selects RX3 yX3_partner yX3_partner, Cond.code yX3_partner cX3_partner 2 (some .int), Cond.methodLink RX3 160 yX0_otherOf, Cond.instanceMethod yX0_otherOf, Cond.selects RX0 yX0_otherOf yX0_otherOf]
def wsL_law_r20 : List Cond := [Cond.code yX0_otherOf cX0_otherOf 6 (some .int), Cond.methodLink RL 72 yX4_partner, Cond.instanceMethod yX4_partner, Cond.selects RX4 yX4_partner yX4_partner, Cond.code yX4_partner cX4_partner 5 (some .int), Cond.methodLink RL 73 yX3_path, Cond.instanceMethod yX3_path, Cond.selects RX3 yX3_path yX3_path, Cond.code yX3_path cX3_path 3 (some .int), Cond.fieldLink RX3 163 "SlotStar$Machine" "copies" "I", Cond.methodLink RL 76 yX4_path, Cond.instanceMethod yX4_path, Cond.selects RX4 yX4_path yX4_path, Cond.code yX4_path cX4_path 3 (some .int), Cond.methodLink RL 77 yX3_image, Cond.instanceMethod yX3_image, Cond.selects RX3 yX3_image yX3_image, Cond.code yX3_image cX3_image 3 (some .int), Cond.methodLink RL 80 yX4_image, Cond.instanceMethod yX4_image, Cond.selects RX4 yX4_image yX4_image, Cond.code yX4_image cX4_image 2 (some .int), Cond.methodLink RL 81 yX3_restore, Cond.instanceMethod yX3_restore]
def wsL_law_r21 : List Cond := [Cond.selects RX3 yX3_restore yX3_restore, Cond.code yX3_restore cX3_restore 3 (some .int), Cond.methodLink RL 84 yX4_restore, Cond.instanceMethod yX4_restore, Cond.selects RX4 yX4_restore yX4_restore, Cond.code yX4_restore cX4_restore 2 (some .int), Cond.methodLink RL 85 yX3_told, Cond.instanceMethod yX3_told, Cond.selects RX3 yX3_told yX3_told, Cond.code yX3_told cX3_told 2 (some .int), Cond.methodLink RL 88 yX4_told, Cond.instanceMethod yX4_told, Cond.selects RX4 yX4_told yX4_told, Cond.code yX4_told cX4_told 2 (some .int)]
def wsL_law : List Cond := (wsL_law_r1 ++ (wsL_law_r2 ++ (wsL_law_r3 ++ (wsL_law_r4 ++ (wsL_law_r5 ++ (wsL_law_r6 ++ (wsL_law_r7 ++ (wsL_law_r8 ++ (wsL_law_r9 ++ (wsL_law_r10 ++ (wsL_law_r11 ++ (wsL_law_r12 ++ (wsL_law_r13 ++ (wsL_law_r14 ++ (wsL_law_r15 ++ (wsL_law_r16 ++ (wsL_law_r17 ++ (wsL_law_r18 ++ (wsL_law_r19 ++ (wsL_law_r20 ++ wsL_law_r21)))))))))))))))))))) ++ wsX30 ++ wsX40 ++ wsX10 ++ wsX20 ++ wsX00 ++ ([] : List Cond)
end
section
theorem dX0_init_0 : decode cX0_init 0 = .ok (.aload_n 0, 1) := by decide +kernel
theorem dX0_init_1 : decode cX0_init 1 = .ok (.invokespecial 3, 3) := by decide +kernel
theorem dX0_init_4 : decode cX0_init 4 = .ok (.aload_n 0, 1) := by decide +kernel
theorem dX0_init_5 : decode cX0_init 5 = .ok (.bipush 48, 2) := by decide +kernel
theorem dX0_init_7 : decode cX0_init 7 = .ok (.newarray .int, 2) := by decide +kernel
theorem dX0_init_9 : decode cX0_init 9 = .ok (.putfield 9, 3) := by decide +kernel
theorem dX0_init_12 : decode cX0_init 12 = .ok (.aload_n 0, 1) := by decide +kernel
theorem dX0_init_13 : decode cX0_init 13 = .ok (.bipush 48, 2) := by decide +kernel
theorem dX0_init_15 : decode cX0_init 15 = .ok (.newarray .int, 2) := by decide +kernel
theorem dX0_init_17 : decode cX0_init 17 = .ok (.putfield 15, 3) := by decide +kernel
theorem dX0_init_20 : decode cX0_init 20 = .ok (.return_, 1) := by decide +kernel
set_option maxRecDepth 20000 in
theorem ggX0_join_X0_collect : GoodIn wsX0_join wsX0_collect := goodIn_r _ [9, 1, 2, 10, 11, 12, 13, 14, 15, 16, 17, 18, 19, 20, 21, 22, 23, 24, 25, 26, 27, 28, 29, 30, 31, 32, 33, 34, 35, 36, 37, 38, 39, 40, 41, 42, 43, 44, 66, 67, 68, 69, 70, 71, 72, 73, 74, 75, 76, 77] (by decide +kernel) (by decide +kernel)
set_option maxRecDepth 20000 in
theorem gX0_join_X0_collect : GoodIn wsX0_join (wsV RX0 18 RX0 yX0_collect wsX0_collect) := goodIn_app (goodIn_of _ (by decide +kernel)) ggX0_join_X0_collect
set_option maxRecDepth 20000 in
theorem ggX0_join_X0_waysOf : GoodIn wsX0_join wsX0_waysOf := goodIn_r _ [48, 1, 11, 49, 32, 50, 42, 43, 44, 51, 52, 53, 8, 54, 12, 31, 33, 55, 56, 57, 16, 58, 59, 60, 61, 62, 29, 63, 64, 65, 66, 67, 68, 69, 70, 71, 72, 73, 74, 75, 76, 77] (by decide +kernel) (by decide +kernel)
set_option maxRecDepth 20000 in
theorem gX0_join_X0_waysOf : GoodIn wsX0_join (wsV RX0 32 RX0 yX0_waysOf wsX0_waysOf) := goodIn_app (goodIn_of _ (by decide +kernel)) ggX0_join_X0_waysOf
theorem dX0_join_0 : decode cX0_join 0 = .ok (.aload_n 0, 1) := by decide +kernel
theorem dX0_join_1 : decode cX0_join 1 = .ok (.aload_n 1, 1) := by decide +kernel
theorem dX0_join_2 : decode cX0_join 2 = .ok (.iload_n 2, 1) := by decide +kernel
theorem dX0_join_3 : decode cX0_join 3 = .ok (.invokevirtual 18, 3) := by decide +kernel
theorem dX0_join_6 : decode cX0_join 6 = .ok (.aload_n 0, 1) := by decide +kernel
theorem dX0_join_7 : decode cX0_join 7 = .ok (.getfield 22, 3) := by decide +kernel
theorem dX0_join_10 : decode cX0_join 10 = .ok (.aload_n 0, 1) := by decide +kernel
theorem dX0_join_11 : decode cX0_join 11 = .ok (.getfield 26, 3) := by decide +kernel
theorem dX0_join_14 : decode cX0_join 14 = .ok (.if_icmp .eq 5, 3) := by decide +kernel
theorem dX0_join_17 : decode cX0_join 17 = .ok (.iconst 0, 1) := by decide +kernel
theorem dX0_join_18 : decode cX0_join 18 = .ok (.ireturn, 1) := by decide +kernel
theorem dX0_join_19 : decode cX0_join 19 = .ok (.aload_n 0, 1) := by decide +kernel
theorem dX0_join_20 : decode cX0_join 20 = .ok (.iconst 0, 1) := by decide +kernel
theorem dX0_join_21 : decode cX0_join 21 = .ok (.putfield 29, 3) := by decide +kernel
theorem dX0_join_24 : decode cX0_join 24 = .ok (.aload_n 0, 1) := by decide +kernel
theorem dX0_join_25 : decode cX0_join 25 = .ok (.aload_n 0, 1) := by decide +kernel
theorem dX0_join_26 : decode cX0_join 26 = .ok (.aload_n 1, 1) := by decide +kernel
theorem dX0_join_27 : decode cX0_join 27 = .ok (.iconst 0, 1) := by decide +kernel
theorem dX0_join_28 : decode cX0_join 28 = .ok (.invokevirtual 32, 3) := by decide +kernel
theorem dX0_join_31 : decode cX0_join 31 = .ok (.putfield 36, 3) := by decide +kernel
theorem dX0_join_34 : decode cX0_join 34 = .ok (.iconst 1, 1) := by decide +kernel
theorem dX0_join_35 : decode cX0_join 35 = .ok (.istore_n 3, 1) := by decide +kernel
theorem dX0_join_36 : decode cX0_join 36 = .ok (.iload_n 3, 1) := by decide +kernel
theorem dX0_join_37 : decode cX0_join 37 = .ok (.aload_n 0, 1) := by decide +kernel
theorem dX0_join_38 : decode cX0_join 38 = .ok (.getfield 22, 3) := by decide +kernel
theorem dX0_join_41 : decode cX0_join 41 = .ok (.if_icmp .ge 37, 3) := by decide +kernel
theorem dX0_join_44 : decode cX0_join 44 = .ok (.aload_n 0, 1) := by decide +kernel
theorem dX0_join_45 : decode cX0_join 45 = .ok (.aload_n 1, 1) := by decide +kernel
theorem dX0_join_46 : decode cX0_join 46 = .ok (.iload_n 3, 1) := by decide +kernel
theorem dX0_join_47 : decode cX0_join 47 = .ok (.invokevirtual 32, 3) := by decide +kernel
theorem dX0_join_50 : decode cX0_join 50 = .ok (.istore 4, 2) := by decide +kernel
theorem dX0_join_52 : decode cX0_join 52 = .ok (.iload 4, 2) := by decide +kernel
theorem dX0_join_54 : decode cX0_join 54 = .ok (.aload_n 0, 1) := by decide +kernel
theorem dX0_join_55 : decode cX0_join 55 = .ok (.getfield 36, 3) := by decide +kernel
theorem dX0_join_58 : decode cX0_join 58 = .ok (.if_icmp .ge 14, 3) := by decide +kernel
theorem dX0_join_61 : decode cX0_join 61 = .ok (.aload_n 0, 1) := by decide +kernel
theorem dX0_join_62 : decode cX0_join 62 = .ok (.iload_n 3, 1) := by decide +kernel
theorem dX0_join_63 : decode cX0_join 63 = .ok (.putfield 29, 3) := by decide +kernel
theorem dX0_join_66 : decode cX0_join 66 = .ok (.aload_n 0, 1) := by decide +kernel
theorem dX0_join_67 : decode cX0_join 67 = .ok (.iload 4, 2) := by decide +kernel
theorem dX0_join_69 : decode cX0_join 69 = .ok (.putfield 36, 3) := by decide +kernel
theorem dX0_join_72 : decode cX0_join 72 = .ok (.iinc 3 1, 3) := by decide +kernel
theorem dX0_join_75 : decode cX0_join 75 = .ok (.goto (-39), 3) := by decide +kernel
theorem dX0_join_78 : decode cX0_join 78 = .ok (.iconst 1, 1) := by decide +kernel
theorem dX0_join_79 : decode cX0_join 79 = .ok (.ireturn, 1) := by decide +kernel
set_option maxRecDepth 20000 in
theorem ggX0_collect_X1_phaseOf : GoodIn wsX0_collect wsX1_phaseOf := goodIn_r _ [10, 11, 12, 13, 14, 9, 15, 16, 17, 18, 19, 20, 21, 22, 23, 24, 25, 26, 27, 28, 44, 45, 46, 47, 48, 49] (by decide +kernel) (by decide +kernel)
set_option maxRecDepth 20000 in
theorem gX0_collect_X1_phaseOf : GoodIn wsX0_collect (wsV RX0 44 RX1 yX1_phaseOf wsX1_phaseOf) := goodIn_app (goodIn_of _ (by decide +kernel)) ggX0_collect_X1_phaseOf
set_option maxRecDepth 20000 in
theorem ggX0_collect_X1_isForward : GoodIn wsX0_collect wsX1_isForward := goodIn_r _ [32, 12, 13, 14, 9, 15, 11, 16, 17, 18, 19, 20, 21, 22, 23, 24, 25, 26, 27, 28, 44, 45, 46, 47, 48, 49] (by decide +kernel) (by decide +kernel)
set_option maxRecDepth 20000 in
theorem gX0_collect_X1_isForward : GoodIn wsX0_collect (wsV RX0 48 RX1 yX1_isForward wsX1_isForward) := goodIn_app (goodIn_of _ (by decide +kernel)) ggX0_collect_X1_isForward
set_option maxRecDepth 20000 in
theorem ggX0_collect_X3_put : GoodIn wsX0_collect wsX3_put := goodIn_r _ [34, 35, 36, 25, 37] (by decide +kernel) (by decide +kernel)
set_option maxRecDepth 20000 in
theorem gX0_collect_X3_put_n52 : GoodIn wsX0_collect (wsX3_put) := ggX0_collect_X3_put
theorem dX0_collect_0 : decode cX0_collect 0 = .ok (.aload_n 0, 1) := by decide +kernel
theorem dX0_collect_1 : decode cX0_collect 1 = .ok (.iconst 0, 1) := by decide +kernel
theorem dX0_collect_2 : decode cX0_collect 2 = .ok (.putfield 22, 3) := by decide +kernel
theorem dX0_collect_5 : decode cX0_collect 5 = .ok (.aload_n 0, 1) := by decide +kernel
theorem dX0_collect_6 : decode cX0_collect 6 = .ok (.iconst 0, 1) := by decide +kernel
theorem dX0_collect_7 : decode cX0_collect 7 = .ok (.putfield 26, 3) := by decide +kernel
theorem dX0_collect_10 : decode cX0_collect 10 = .ok (.iconst 0, 1) := by decide +kernel
theorem dX0_collect_11 : decode cX0_collect 11 = .ok (.istore_n 3, 1) := by decide +kernel
theorem dX0_collect_12 : decode cX0_collect 12 = .ok (.iload_n 3, 1) := by decide +kernel
theorem dX0_collect_13 : decode cX0_collect 13 = .ok (.aload_n 1, 1) := by decide +kernel
theorem dX0_collect_14 : decode cX0_collect 14 = .ok (.getfield 39, 3) := by decide +kernel
theorem dX0_collect_17 : decode cX0_collect 17 = .ok (.if_icmp .ge 73, 3) := by decide +kernel
theorem dX0_collect_20 : decode cX0_collect 20 = .ok (.aload_n 1, 1) := by decide +kernel
theorem dX0_collect_21 : decode cX0_collect 21 = .ok (.iload_n 3, 1) := by decide +kernel
theorem dX0_collect_22 : decode cX0_collect 22 = .ok (.invokevirtual 44, 3) := by decide +kernel
theorem dX0_collect_25 : decode cX0_collect 25 = .ok (.iload_n 2, 1) := by decide +kernel
theorem dX0_collect_26 : decode cX0_collect 26 = .ok (.if_icmp .ne 58, 3) := by decide +kernel
theorem dX0_collect_29 : decode cX0_collect 29 = .ok (.aload_n 1, 1) := by decide +kernel
theorem dX0_collect_30 : decode cX0_collect 30 = .ok (.iload_n 3, 1) := by decide +kernel
theorem dX0_collect_31 : decode cX0_collect 31 = .ok (.invokevirtual 48, 3) := by decide +kernel
theorem dX0_collect_34 : decode cX0_collect 34 = .ok (.ifCond .eq 28, 3) := by decide +kernel
theorem dX0_collect_37 : decode cX0_collect 37 = .ok (.aload_n 0, 1) := by decide +kernel
theorem dX0_collect_38 : decode cX0_collect 38 = .ok (.getfield 9, 3) := by decide +kernel
theorem dX0_collect_41 : decode cX0_collect 41 = .ok (.aload_n 0, 1) := by decide +kernel
theorem dX0_collect_42 : decode cX0_collect 42 = .ok (.getfield 22, 3) := by decide +kernel
theorem dX0_collect_45 : decode cX0_collect 45 = .ok (.iload_n 3, 1) := by decide +kernel
theorem dX0_collect_46 : decode cX0_collect 46 = .ok (.invokestatic 52, 3) := by decide +kernel
theorem dX0_collect_49 : decode cX0_collect 49 = .ok (.aload_n 0, 1) := by decide +kernel
theorem dX0_collect_50 : decode cX0_collect 50 = .ok (.dup, 1) := by decide +kernel
theorem dX0_collect_51 : decode cX0_collect 51 = .ok (.getfield 22, 3) := by decide +kernel
theorem dX0_collect_54 : decode cX0_collect 54 = .ok (.iconst 1, 1) := by decide +kernel
theorem dX0_collect_55 : decode cX0_collect 55 = .ok (.iadd, 1) := by decide +kernel
theorem dX0_collect_56 : decode cX0_collect 56 = .ok (.putfield 22, 3) := by decide +kernel
theorem dX0_collect_59 : decode cX0_collect 59 = .ok (.goto 25, 3) := by decide +kernel
theorem dX0_collect_62 : decode cX0_collect 62 = .ok (.aload_n 0, 1) := by decide +kernel
theorem dX0_collect_63 : decode cX0_collect 63 = .ok (.getfield 15, 3) := by decide +kernel
theorem dX0_collect_66 : decode cX0_collect 66 = .ok (.aload_n 0, 1) := by decide +kernel
theorem dX0_collect_67 : decode cX0_collect 67 = .ok (.getfield 26, 3) := by decide +kernel
theorem dX0_collect_70 : decode cX0_collect 70 = .ok (.iload_n 3, 1) := by decide +kernel
theorem dX0_collect_71 : decode cX0_collect 71 = .ok (.invokestatic 52, 3) := by decide +kernel
theorem dX0_collect_74 : decode cX0_collect 74 = .ok (.aload_n 0, 1) := by decide +kernel
theorem dX0_collect_75 : decode cX0_collect 75 = .ok (.dup, 1) := by decide +kernel
theorem dX0_collect_76 : decode cX0_collect 76 = .ok (.getfield 26, 3) := by decide +kernel
theorem dX0_collect_79 : decode cX0_collect 79 = .ok (.iconst 1, 1) := by decide +kernel
theorem dX0_collect_80 : decode cX0_collect 80 = .ok (.iadd, 1) := by decide +kernel
theorem dX0_collect_81 : decode cX0_collect 81 = .ok (.putfield 26, 3) := by decide +kernel
theorem dX0_collect_84 : decode cX0_collect 84 = .ok (.iinc 3 1, 3) := by decide +kernel
theorem dX0_collect_87 : decode cX0_collect 87 = .ok (.goto (-75), 3) := by decide +kernel
theorem dX0_collect_90 : decode cX0_collect 90 = .ok (.return_, 1) := by decide +kernel
set_option maxRecDepth 20000 in
theorem ggX0_waysOf_X3_at : GoodIn wsX0_waysOf wsX3_at := goodIn_r _ [5, 6, 7, 4, 8] (by decide +kernel) (by decide +kernel)
set_option maxRecDepth 20000 in
theorem gX0_waysOf_X3_at_n56 : GoodIn wsX0_waysOf (wsX3_at) := ggX0_waysOf_X3_at
set_option maxRecDepth 20000 in
theorem ggX0_waysOf_X0_backOf : GoodIn wsX0_waysOf wsX0_backOf := goodIn_r _ [13, 14, 1, 15, 4, 16, 3, 5, 6, 7, 8, 30, 31, 32, 33, 34, 35] (by decide +kernel) (by decide +kernel)
set_option maxRecDepth 20000 in
theorem gX0_waysOf_X0_backOf : GoodIn wsX0_waysOf (wsV RX0 60 RX0 yX0_backOf wsX0_backOf) := goodIn_app (goodIn_of _ (by decide +kernel)) ggX0_waysOf_X0_backOf
set_option maxRecDepth 20000 in
theorem ggX0_waysOf_X1_wayBetween : GoodIn wsX0_waysOf wsX1_wayBetween := goodIn_r _ [21, 22, 23, 24, 25, 26, 27, 28, 29, 36, 37, 38, 39, 40, 41] (by decide +kernel) (by decide +kernel)
set_option maxRecDepth 20000 in
theorem gX0_waysOf_X1_wayBetween : GoodIn wsX0_waysOf (wsV RX0 64 RX1 yX1_wayBetween wsX1_wayBetween) := goodIn_app (goodIn_of _ (by decide +kernel)) ggX0_waysOf_X1_wayBetween
theorem dX0_waysOf_0 : decode cX0_waysOf 0 = .ok (.iconst 0, 1) := by decide +kernel
theorem dX0_waysOf_1 : decode cX0_waysOf 1 = .ok (.istore_n 3, 1) := by decide +kernel
theorem dX0_waysOf_2 : decode cX0_waysOf 2 = .ok (.iconst 0, 1) := by decide +kernel
theorem dX0_waysOf_3 : decode cX0_waysOf 3 = .ok (.istore 4, 2) := by decide +kernel
theorem dX0_waysOf_5 : decode cX0_waysOf 5 = .ok (.iload 4, 2) := by decide +kernel
theorem dX0_waysOf_7 : decode cX0_waysOf 7 = .ok (.aload_n 0, 1) := by decide +kernel
theorem dX0_waysOf_8 : decode cX0_waysOf 8 = .ok (.getfield 22, 3) := by decide +kernel
theorem dX0_waysOf_11 : decode cX0_waysOf 11 = .ok (.if_icmp .ge 32, 3) := by decide +kernel
theorem dX0_waysOf_14 : decode cX0_waysOf 14 = .ok (.iload_n 3, 1) := by decide +kernel
theorem dX0_waysOf_15 : decode cX0_waysOf 15 = .ok (.aload_n 1, 1) := by decide +kernel
theorem dX0_waysOf_16 : decode cX0_waysOf 16 = .ok (.aload_n 0, 1) := by decide +kernel
theorem dX0_waysOf_17 : decode cX0_waysOf 17 = .ok (.getfield 9, 3) := by decide +kernel
theorem dX0_waysOf_20 : decode cX0_waysOf 20 = .ok (.iload 4, 2) := by decide +kernel
theorem dX0_waysOf_22 : decode cX0_waysOf 22 = .ok (.invokestatic 56, 3) := by decide +kernel
theorem dX0_waysOf_25 : decode cX0_waysOf 25 = .ok (.aload_n 0, 1) := by decide +kernel
theorem dX0_waysOf_26 : decode cX0_waysOf 26 = .ok (.iload 4, 2) := by decide +kernel
theorem dX0_waysOf_28 : decode cX0_waysOf 28 = .ok (.iload_n 2, 1) := by decide +kernel
theorem dX0_waysOf_29 : decode cX0_waysOf 29 = .ok (.invokevirtual 60, 3) := by decide +kernel
theorem dX0_waysOf_32 : decode cX0_waysOf 32 = .ok (.invokevirtual 64, 3) := by decide +kernel
theorem dX0_waysOf_35 : decode cX0_waysOf 35 = .ok (.iadd, 1) := by decide +kernel
theorem dX0_waysOf_36 : decode cX0_waysOf 36 = .ok (.istore_n 3, 1) := by decide +kernel
theorem dX0_waysOf_37 : decode cX0_waysOf 37 = .ok (.iinc 4 1, 3) := by decide +kernel
theorem dX0_waysOf_40 : decode cX0_waysOf 40 = .ok (.goto (-35), 3) := by decide +kernel
theorem dX0_waysOf_43 : decode cX0_waysOf 43 = .ok (.iload_n 3, 1) := by decide +kernel
theorem dX0_waysOf_44 : decode cX0_waysOf 44 = .ok (.ireturn, 1) := by decide +kernel
set_option maxRecDepth 20000 in
theorem ggX0_backOf_X3_leftOver : GoodIn wsX0_backOf wsX3_leftOver := goodIn_r _ [5] (by decide +kernel) (by decide +kernel)
set_option maxRecDepth 20000 in
theorem gX0_backOf_X3_leftOver_n67 : GoodIn wsX0_backOf (wsX3_leftOver) := ggX0_backOf_X3_leftOver
set_option maxRecDepth 20000 in
theorem ggX0_backOf_X3_at : GoodIn wsX0_backOf wsX3_at := goodIn_r _ [7, 8, 9, 4, 10] (by decide +kernel) (by decide +kernel)
set_option maxRecDepth 20000 in
theorem gX0_backOf_X3_at_n56 : GoodIn wsX0_backOf (wsX3_at) := ggX0_backOf_X3_at
theorem dX0_backOf_0 : decode cX0_backOf 0 = .ok (.aload_n 0, 1) := by decide +kernel
theorem dX0_backOf_1 : decode cX0_backOf 1 = .ok (.getfield 15, 3) := by decide +kernel
theorem dX0_backOf_4 : decode cX0_backOf 4 = .ok (.iload_n 1, 1) := by decide +kernel
theorem dX0_backOf_5 : decode cX0_backOf 5 = .ok (.iload_n 2, 1) := by decide +kernel
theorem dX0_backOf_6 : decode cX0_backOf 6 = .ok (.iadd, 1) := by decide +kernel
theorem dX0_backOf_7 : decode cX0_backOf 7 = .ok (.aload_n 0, 1) := by decide +kernel
theorem dX0_backOf_8 : decode cX0_backOf 8 = .ok (.getfield 22, 3) := by decide +kernel
theorem dX0_backOf_11 : decode cX0_backOf 11 = .ok (.invokestatic 67, 3) := by decide +kernel
theorem dX0_backOf_14 : decode cX0_backOf 14 = .ok (.invokestatic 56, 3) := by decide +kernel
theorem dX0_backOf_17 : decode cX0_backOf 17 = .ok (.ireturn, 1) := by decide +kernel
set_option maxRecDepth 20000 in
theorem ggX0_otherOf_X3_at : GoodIn wsX0_otherOf wsX3_at := goodIn_r _ [6, 7, 8, 5, 9] (by decide +kernel) (by decide +kernel)
set_option maxRecDepth 20000 in
theorem gX0_otherOf_X3_at_n56 : GoodIn wsX0_otherOf (wsX3_at) := ggX0_otherOf_X3_at
set_option maxRecDepth 20000 in
theorem ggX0_otherOf_X0_backOf : GoodIn wsX0_otherOf wsX0_backOf := goodIn_r _ [14, 15, 1, 16, 5, 17, 4, 6, 7, 8, 9, 18, 19, 20, 21, 22, 23] (by decide +kernel) (by decide +kernel)
set_option maxRecDepth 20000 in
theorem gX0_otherOf_X0_backOf : GoodIn wsX0_otherOf (wsV RX0 60 RX0 yX0_backOf wsX0_backOf) := goodIn_app (goodIn_of _ (by decide +kernel)) ggX0_otherOf_X0_backOf
theorem dX0_otherOf_0 : decode cX0_otherOf 0 = .ok (.iconst 0, 1) := by decide +kernel
theorem dX0_otherOf_1 : decode cX0_otherOf 1 = .ok (.istore_n 3, 1) := by decide +kernel
theorem dX0_otherOf_2 : decode cX0_otherOf 2 = .ok (.iload_n 3, 1) := by decide +kernel
theorem dX0_otherOf_3 : decode cX0_otherOf 3 = .ok (.aload_n 0, 1) := by decide +kernel
theorem dX0_otherOf_4 : decode cX0_otherOf 4 = .ok (.getfield 22, 3) := by decide +kernel
theorem dX0_otherOf_7 : decode cX0_otherOf 7 = .ok (.if_icmp .ge 57, 3) := by decide +kernel
theorem dX0_otherOf_10 : decode cX0_otherOf 10 = .ok (.aload_n 0, 1) := by decide +kernel
theorem dX0_otherOf_11 : decode cX0_otherOf 11 = .ok (.getfield 9, 3) := by decide +kernel
theorem dX0_otherOf_14 : decode cX0_otherOf 14 = .ok (.iload_n 3, 1) := by decide +kernel
theorem dX0_otherOf_15 : decode cX0_otherOf 15 = .ok (.invokestatic 56, 3) := by decide +kernel
theorem dX0_otherOf_18 : decode cX0_otherOf 18 = .ok (.istore 4, 2) := by decide +kernel
theorem dX0_otherOf_20 : decode cX0_otherOf 20 = .ok (.aload_n 0, 1) := by decide +kernel
theorem dX0_otherOf_21 : decode cX0_otherOf 21 = .ok (.iload_n 3, 1) := by decide +kernel
theorem dX0_otherOf_22 : decode cX0_otherOf 22 = .ok (.aload_n 0, 1) := by decide +kernel
theorem dX0_otherOf_23 : decode cX0_otherOf 23 = .ok (.getfield 29, 3) := by decide +kernel
theorem dX0_otherOf_26 : decode cX0_otherOf 26 = .ok (.invokevirtual 60, 3) := by decide +kernel
theorem dX0_otherOf_29 : decode cX0_otherOf 29 = .ok (.istore 5, 2) := by decide +kernel
theorem dX0_otherOf_31 : decode cX0_otherOf 31 = .ok (.iload_n 1, 1) := by decide +kernel
theorem dX0_otherOf_32 : decode cX0_otherOf 32 = .ok (.iload_n 2, 1) := by decide +kernel
theorem dX0_otherOf_33 : decode cX0_otherOf 33 = .ok (.ifCond .eq 8, 3) := by decide +kernel
theorem dX0_otherOf_36 : decode cX0_otherOf 36 = .ok (.iload 4, 2) := by decide +kernel
theorem dX0_otherOf_38 : decode cX0_otherOf 38 = .ok (.goto 5, 3) := by decide +kernel
theorem dX0_otherOf_41 : decode cX0_otherOf 41 = .ok (.iload 5, 2) := by decide +kernel
theorem dX0_otherOf_43 : decode cX0_otherOf 43 = .ok (.if_icmp .ne 15, 3) := by decide +kernel
theorem dX0_otherOf_46 : decode cX0_otherOf 46 = .ok (.iload_n 2, 1) := by decide +kernel
theorem dX0_otherOf_47 : decode cX0_otherOf 47 = .ok (.ifCond .eq 8, 3) := by decide +kernel
theorem dX0_otherOf_50 : decode cX0_otherOf 50 = .ok (.iload 5, 2) := by decide +kernel
theorem dX0_otherOf_52 : decode cX0_otherOf 52 = .ok (.goto 5, 3) := by decide +kernel
theorem dX0_otherOf_55 : decode cX0_otherOf 55 = .ok (.iload 4, 2) := by decide +kernel
theorem dX0_otherOf_57 : decode cX0_otherOf 57 = .ok (.ireturn, 1) := by decide +kernel
theorem dX0_otherOf_58 : decode cX0_otherOf 58 = .ok (.iinc 3 1, 3) := by decide +kernel
theorem dX0_otherOf_61 : decode cX0_otherOf 61 = .ok (.goto (-59), 3) := by decide +kernel
theorem dX0_otherOf_64 : decode cX0_otherOf 64 = .ok (.bipush (-5), 2) := by decide +kernel
theorem dX0_otherOf_66 : decode cX0_otherOf 66 = .ok (.ireturn, 1) := by decide +kernel
theorem dX1_init_0 : decode cX1_init 0 = .ok (.aload_n 0, 1) := by decide +kernel
theorem dX1_init_1 : decode cX1_init 1 = .ok (.invokespecial 1, 3) := by decide +kernel
theorem dX1_init_4 : decode cX1_init 4 = .ok (.return_, 1) := by decide +kernel
set_option maxRecDepth 20000 in
theorem ggX1_become_X3_commonDivisor : GoodIn wsX1_become wsX3_commonDivisor := goodIn_r _ [9, 10, 11, 12, 13, 14, 15, 8, 16] (by decide +kernel) (by decide +kernel)
set_option maxRecDepth 20000 in
theorem gX1_become_X3_commonDivisor_n22 : GoodIn wsX1_become (wsX3_commonDivisor) := ggX1_become_X3_commonDivisor
set_option maxRecDepth 20000 in
theorem ggX1_become_X3_cut : GoodIn wsX1_become wsX3_cut := goodIn_r _ [18] (by decide +kernel) (by decide +kernel)
set_option maxRecDepth 20000 in
theorem gX1_become_X3_cut_n31 : GoodIn wsX1_become (wsX3_cut) := ggX1_become_X3_cut
theorem dX1_become_0 : decode cX1_become 0 = .ok (.aload_n 0, 1) := by decide +kernel
theorem dX1_become_1 : decode cX1_become 1 = .ok (.iload_n 1, 1) := by decide +kernel
theorem dX1_become_2 : decode cX1_become 2 = .ok (.putfield 7, 3) := by decide +kernel
theorem dX1_become_5 : decode cX1_become 5 = .ok (.aload_n 0, 1) := by decide +kernel
theorem dX1_become_6 : decode cX1_become 6 = .ok (.iload_n 2, 1) := by decide +kernel
theorem dX1_become_7 : decode cX1_become 7 = .ok (.putfield 13, 3) := by decide +kernel
theorem dX1_become_10 : decode cX1_become 10 = .ok (.aload_n 0, 1) := by decide +kernel
theorem dX1_become_11 : decode cX1_become 11 = .ok (.iload_n 3, 1) := by decide +kernel
theorem dX1_become_12 : decode cX1_become 12 = .ok (.putfield 16, 3) := by decide +kernel
theorem dX1_become_15 : decode cX1_become 15 = .ok (.aload_n 0, 1) := by decide +kernel
theorem dX1_become_16 : decode cX1_become 16 = .ok (.iload 4, 2) := by decide +kernel
theorem dX1_become_18 : decode cX1_become 18 = .ok (.putfield 19, 3) := by decide +kernel
theorem dX1_become_21 : decode cX1_become 21 = .ok (.aload_n 0, 1) := by decide +kernel
theorem dX1_become_22 : decode cX1_become 22 = .ok (.iload_n 1, 1) := by decide +kernel
theorem dX1_become_23 : decode cX1_become 23 = .ok (.iload_n 2, 1) := by decide +kernel
theorem dX1_become_24 : decode cX1_become 24 = .ok (.invokestatic 22, 3) := by decide +kernel
theorem dX1_become_27 : decode cX1_become 27 = .ok (.putfield 28, 3) := by decide +kernel
theorem dX1_become_30 : decode cX1_become 30 = .ok (.aload_n 0, 1) := by decide +kernel
theorem dX1_become_31 : decode cX1_become 31 = .ok (.iload_n 1, 1) := by decide +kernel
theorem dX1_become_32 : decode cX1_become 32 = .ok (.aload_n 0, 1) := by decide +kernel
theorem dX1_become_33 : decode cX1_become 33 = .ok (.getfield 28, 3) := by decide +kernel
theorem dX1_become_36 : decode cX1_become 36 = .ok (.invokestatic 31, 3) := by decide +kernel
theorem dX1_become_39 : decode cX1_become 39 = .ok (.putfield 34, 3) := by decide +kernel
theorem dX1_become_42 : decode cX1_become 42 = .ok (.return_, 1) := by decide +kernel
set_option maxRecDepth 20000 in
theorem ggX1_lackingDivisor_X3_commonDivisor : GoodIn wsX1_lackingDivisor wsX3_commonDivisor := goodIn_r _ [5, 6, 7, 8, 9, 10, 11, 4, 12] (by decide +kernel) (by decide +kernel)
set_option maxRecDepth 20000 in
theorem gX1_lackingDivisor_X3_commonDivisor_n22 : GoodIn wsX1_lackingDivisor (wsX3_commonDivisor) := ggX1_lackingDivisor_X3_commonDivisor
set_option maxRecDepth 20000 in
theorem ggX1_lackingDivisor_X3_cut : GoodIn wsX1_lackingDivisor wsX3_cut := goodIn_r _ [14] (by decide +kernel) (by decide +kernel)
set_option maxRecDepth 20000 in
theorem gX1_lackingDivisor_X3_cut_n31 : GoodIn wsX1_lackingDivisor (wsX3_cut) := ggX1_lackingDivisor_X3_cut
theorem dX1_lackingDivisor_0 : decode cX1_lackingDivisor 0 = .ok (.aload_n 0, 1) := by decide +kernel
theorem dX1_lackingDivisor_1 : decode cX1_lackingDivisor 1 = .ok (.getfield 16, 3) := by decide +kernel
theorem dX1_lackingDivisor_4 : decode cX1_lackingDivisor 4 = .ok (.aload_n 0, 1) := by decide +kernel
theorem dX1_lackingDivisor_5 : decode cX1_lackingDivisor 5 = .ok (.getfield 34, 3) := by decide +kernel
theorem dX1_lackingDivisor_8 : decode cX1_lackingDivisor 8 = .ok (.aload_n 0, 1) := by decide +kernel
theorem dX1_lackingDivisor_9 : decode cX1_lackingDivisor 9 = .ok (.getfield 16, 3) := by decide +kernel
theorem dX1_lackingDivisor_12 : decode cX1_lackingDivisor 12 = .ok (.invokestatic 22, 3) := by decide +kernel
theorem dX1_lackingDivisor_15 : decode cX1_lackingDivisor 15 = .ok (.invokestatic 31, 3) := by decide +kernel
theorem dX1_lackingDivisor_18 : decode cX1_lackingDivisor 18 = .ok (.ireturn, 1) := by decide +kernel
set_option maxRecDepth 20000 in
theorem ggX1_isBalanced_X1_lackingDivisor : GoodIn wsX1_isBalanced wsX1_lackingDivisor := goodIn_r _ [5, 6, 7, 8, 9, 10, 11, 12, 13, 14, 15, 16, 17, 18, 19, 20, 21, 22, 23, 24, 25] (by decide +kernel) (by decide +kernel)
set_option maxRecDepth 20000 in
theorem gX1_isBalanced_X1_lackingDivisor : GoodIn wsX1_isBalanced (wsV RX1 37 RX1 yX1_lackingDivisor wsX1_lackingDivisor) := goodIn_app (goodIn_of _ (by decide +kernel)) ggX1_isBalanced_X1_lackingDivisor
theorem dX1_isBalanced_0 : decode cX1_isBalanced 0 = .ok (.aload_n 0, 1) := by decide +kernel
theorem dX1_isBalanced_1 : decode cX1_isBalanced 1 = .ok (.invokevirtual 37, 3) := by decide +kernel
theorem dX1_isBalanced_4 : decode cX1_isBalanced 4 = .ok (.iconst 1, 1) := by decide +kernel
theorem dX1_isBalanced_5 : decode cX1_isBalanced 5 = .ok (.if_icmp .ne 7, 3) := by decide +kernel
theorem dX1_isBalanced_8 : decode cX1_isBalanced 8 = .ok (.iconst 1, 1) := by decide +kernel
theorem dX1_isBalanced_9 : decode cX1_isBalanced 9 = .ok (.goto 4, 3) := by decide +kernel
theorem dX1_isBalanced_12 : decode cX1_isBalanced 12 = .ok (.iconst 0, 1) := by decide +kernel
theorem dX1_isBalanced_13 : decode cX1_isBalanced 13 = .ok (.ireturn, 1) := by decide +kernel
set_option maxRecDepth 20000 in
theorem ggX1_turnOf_X3_leftOver : GoodIn wsX1_turnOf wsX3_leftOver := goodIn_r _ [6] (by decide +kernel) (by decide +kernel)
set_option maxRecDepth 20000 in
theorem gX1_turnOf_X3_leftOver_n41 : GoodIn wsX1_turnOf (wsX3_leftOver) := ggX1_turnOf_X3_leftOver
set_option maxRecDepth 20000 in
theorem ggX1_turnOf_X3_cut : GoodIn wsX1_turnOf wsX3_cut := goodIn_r _ [8] (by decide +kernel) (by decide +kernel)
set_option maxRecDepth 20000 in
theorem gX1_turnOf_X3_cut_n31 : GoodIn wsX1_turnOf (wsX3_cut) := ggX1_turnOf_X3_cut
theorem dX1_turnOf_0 : decode cX1_turnOf 0 = .ok (.iload_n 1, 1) := by decide +kernel
theorem dX1_turnOf_1 : decode cX1_turnOf 1 = .ok (.aload_n 0, 1) := by decide +kernel
theorem dX1_turnOf_2 : decode cX1_turnOf 2 = .ok (.getfield 13, 3) := by decide +kernel
theorem dX1_turnOf_5 : decode cX1_turnOf 5 = .ok (.imul, 1) := by decide +kernel
theorem dX1_turnOf_6 : decode cX1_turnOf 6 = .ok (.aload_n 0, 1) := by decide +kernel
theorem dX1_turnOf_7 : decode cX1_turnOf 7 = .ok (.getfield 7, 3) := by decide +kernel
theorem dX1_turnOf_10 : decode cX1_turnOf 10 = .ok (.invokestatic 41, 3) := by decide +kernel
theorem dX1_turnOf_13 : decode cX1_turnOf 13 = .ok (.aload_n 0, 1) := by decide +kernel
theorem dX1_turnOf_14 : decode cX1_turnOf 14 = .ok (.getfield 28, 3) := by decide +kernel
theorem dX1_turnOf_17 : decode cX1_turnOf 17 = .ok (.invokestatic 31, 3) := by decide +kernel
theorem dX1_turnOf_20 : decode cX1_turnOf 20 = .ok (.ireturn, 1) := by decide +kernel
set_option maxRecDepth 20000 in
theorem ggX1_copyOf_X3_cut : GoodIn wsX1_copyOf wsX3_cut := goodIn_r _ [4] (by decide +kernel) (by decide +kernel)
set_option maxRecDepth 20000 in
theorem gX1_copyOf_X3_cut_n31 : GoodIn wsX1_copyOf (wsX3_cut) := ggX1_copyOf_X3_cut
theorem dX1_copyOf_0 : decode cX1_copyOf 0 = .ok (.iload_n 1, 1) := by decide +kernel
theorem dX1_copyOf_1 : decode cX1_copyOf 1 = .ok (.aload_n 0, 1) := by decide +kernel
theorem dX1_copyOf_2 : decode cX1_copyOf 2 = .ok (.getfield 34, 3) := by decide +kernel
theorem dX1_copyOf_5 : decode cX1_copyOf 5 = .ok (.invokestatic 31, 3) := by decide +kernel
theorem dX1_copyOf_8 : decode cX1_copyOf 8 = .ok (.ireturn, 1) := by decide +kernel
set_option maxRecDepth 20000 in
theorem ggX1_zoneOf_X1_turnOf : GoodIn wsX1_zoneOf wsX1_turnOf := goodIn_r _ [7, 8, 9, 10, 11, 12, 13, 14, 15, 16, 17, 18, 19, 20, 21] (by decide +kernel) (by decide +kernel)
set_option maxRecDepth 20000 in
theorem gX1_zoneOf_X1_turnOf : GoodIn wsX1_zoneOf (wsV RX1 44 RX1 yX1_turnOf wsX1_turnOf) := goodIn_app (goodIn_of _ (by decide +kernel)) ggX1_zoneOf_X1_turnOf
set_option maxRecDepth 20000 in
theorem ggX1_zoneOf_X3_cut : GoodIn wsX1_zoneOf wsX3_cut := goodIn_r _ [15] (by decide +kernel) (by decide +kernel)
set_option maxRecDepth 20000 in
theorem gX1_zoneOf_X3_cut_n31 : GoodIn wsX1_zoneOf (wsX3_cut) := ggX1_zoneOf_X3_cut
theorem dX1_zoneOf_0 : decode cX1_zoneOf 0 = .ok (.iconst 2, 1) := by decide +kernel
theorem dX1_zoneOf_1 : decode cX1_zoneOf 1 = .ok (.aload_n 0, 1) := by decide +kernel
theorem dX1_zoneOf_2 : decode cX1_zoneOf 2 = .ok (.getfield 16, 3) := by decide +kernel
theorem dX1_zoneOf_5 : decode cX1_zoneOf 5 = .ok (.imul, 1) := by decide +kernel
theorem dX1_zoneOf_6 : decode cX1_zoneOf 6 = .ok (.aload_n 0, 1) := by decide +kernel
theorem dX1_zoneOf_7 : decode cX1_zoneOf 7 = .ok (.iload_n 1, 1) := by decide +kernel
theorem dX1_zoneOf_8 : decode cX1_zoneOf 8 = .ok (.invokevirtual 44, 3) := by decide +kernel
theorem dX1_zoneOf_11 : decode cX1_zoneOf 11 = .ok (.imul, 1) := by decide +kernel
theorem dX1_zoneOf_12 : decode cX1_zoneOf 12 = .ok (.aload_n 0, 1) := by decide +kernel
theorem dX1_zoneOf_13 : decode cX1_zoneOf 13 = .ok (.getfield 34, 3) := by decide +kernel
theorem dX1_zoneOf_16 : decode cX1_zoneOf 16 = .ok (.invokestatic 31, 3) := by decide +kernel
theorem dX1_zoneOf_19 : decode cX1_zoneOf 19 = .ok (.ireturn, 1) := by decide +kernel
set_option maxRecDepth 20000 in
theorem ggX1_isForward_X1_zoneOf : GoodIn wsX1_isForward wsX1_zoneOf := goodIn_r _ [5, 6, 7, 8, 9, 10, 4, 11, 12, 13, 14, 15, 16, 17, 18, 19, 20, 21, 22, 23, 24, 25] (by decide +kernel) (by decide +kernel)
set_option maxRecDepth 20000 in
theorem gX1_isForward_X1_zoneOf : GoodIn wsX1_isForward (wsV RX1 48 RX1 yX1_zoneOf wsX1_zoneOf) := goodIn_app (goodIn_of _ (by decide +kernel)) ggX1_isForward_X1_zoneOf
set_option maxRecDepth 20000 in
theorem ggX1_isForward_X3_leftOver : GoodIn wsX1_isForward wsX3_leftOver := goodIn_r _ [17] (by decide +kernel) (by decide +kernel)
set_option maxRecDepth 20000 in
theorem gX1_isForward_X3_leftOver_n41 : GoodIn wsX1_isForward (wsX3_leftOver) := ggX1_isForward_X3_leftOver
theorem dX1_isForward_0 : decode cX1_isForward 0 = .ok (.aload_n 0, 1) := by decide +kernel
theorem dX1_isForward_1 : decode cX1_isForward 1 = .ok (.iload_n 1, 1) := by decide +kernel
theorem dX1_isForward_2 : decode cX1_isForward 2 = .ok (.invokevirtual 48, 3) := by decide +kernel
theorem dX1_isForward_5 : decode cX1_isForward 5 = .ok (.iconst 2, 1) := by decide +kernel
theorem dX1_isForward_6 : decode cX1_isForward 6 = .ok (.invokestatic 41, 3) := by decide +kernel
theorem dX1_isForward_9 : decode cX1_isForward 9 = .ok (.ifCond .ne 7, 3) := by decide +kernel
theorem dX1_isForward_12 : decode cX1_isForward 12 = .ok (.iconst 1, 1) := by decide +kernel
theorem dX1_isForward_13 : decode cX1_isForward 13 = .ok (.goto 4, 3) := by decide +kernel
theorem dX1_isForward_16 : decode cX1_isForward 16 = .ok (.iconst 0, 1) := by decide +kernel
theorem dX1_isForward_17 : decode cX1_isForward 17 = .ok (.ireturn, 1) := by decide +kernel
set_option maxRecDepth 20000 in
theorem ggX1_phaseOf_X1_zoneOf : GoodIn wsX1_phaseOf wsX1_zoneOf := goodIn_r _ [6, 1, 7, 8, 9, 10, 5, 11, 12, 13, 14, 15, 16, 17, 18, 19, 20, 21, 22, 23, 24, 25] (by decide +kernel) (by decide +kernel)
set_option maxRecDepth 20000 in
theorem gX1_phaseOf_X1_zoneOf : GoodIn wsX1_phaseOf (wsV RX1 48 RX1 yX1_zoneOf wsX1_zoneOf) := goodIn_app (goodIn_of _ (by decide +kernel)) ggX1_phaseOf_X1_zoneOf
set_option maxRecDepth 20000 in
theorem ggX1_phaseOf_X3_leftOver : GoodIn wsX1_phaseOf wsX3_leftOver := goodIn_r _ [17] (by decide +kernel) (by decide +kernel)
set_option maxRecDepth 20000 in
theorem gX1_phaseOf_X3_leftOver_n41 : GoodIn wsX1_phaseOf (wsX3_leftOver) := ggX1_phaseOf_X3_leftOver
set_option maxRecDepth 20000 in
theorem ggX1_phaseOf_X3_cut : GoodIn wsX1_phaseOf wsX3_cut := goodIn_r _ [19] (by decide +kernel) (by decide +kernel)
set_option maxRecDepth 20000 in
theorem gX1_phaseOf_X3_cut_n31 : GoodIn wsX1_phaseOf (wsX3_cut) := ggX1_phaseOf_X3_cut
theorem dX1_phaseOf_0 : decode cX1_phaseOf 0 = .ok (.aload_n 0, 1) := by decide +kernel
theorem dX1_phaseOf_1 : decode cX1_phaseOf 1 = .ok (.iload_n 1, 1) := by decide +kernel
theorem dX1_phaseOf_2 : decode cX1_phaseOf 2 = .ok (.invokevirtual 48, 3) := by decide +kernel
theorem dX1_phaseOf_5 : decode cX1_phaseOf 5 = .ok (.istore_n 2, 1) := by decide +kernel
theorem dX1_phaseOf_6 : decode cX1_phaseOf 6 = .ok (.iload_n 2, 1) := by decide +kernel
theorem dX1_phaseOf_7 : decode cX1_phaseOf 7 = .ok (.iconst 2, 1) := by decide +kernel
theorem dX1_phaseOf_8 : decode cX1_phaseOf 8 = .ok (.invokestatic 41, 3) := by decide +kernel
theorem dX1_phaseOf_11 : decode cX1_phaseOf 11 = .ok (.ifCond .ne 11, 3) := by decide +kernel
theorem dX1_phaseOf_14 : decode cX1_phaseOf 14 = .ok (.iload_n 2, 1) := by decide +kernel
theorem dX1_phaseOf_15 : decode cX1_phaseOf 15 = .ok (.iconst 2, 1) := by decide +kernel
theorem dX1_phaseOf_16 : decode cX1_phaseOf 16 = .ok (.invokestatic 31, 3) := by decide +kernel
theorem dX1_phaseOf_19 : decode cX1_phaseOf 19 = .ok (.goto 20, 3) := by decide +kernel
theorem dX1_phaseOf_22 : decode cX1_phaseOf 22 = .ok (.iload_n 2, 1) := by decide +kernel
theorem dX1_phaseOf_23 : decode cX1_phaseOf 23 = .ok (.aload_n 0, 1) := by decide +kernel
theorem dX1_phaseOf_24 : decode cX1_phaseOf 24 = .ok (.getfield 16, 3) := by decide +kernel
theorem dX1_phaseOf_27 : decode cX1_phaseOf 27 = .ok (.iadd, 1) := by decide +kernel
theorem dX1_phaseOf_28 : decode cX1_phaseOf 28 = .ok (.iconst 2, 1) := by decide +kernel
theorem dX1_phaseOf_29 : decode cX1_phaseOf 29 = .ok (.invokestatic 31, 3) := by decide +kernel
theorem dX1_phaseOf_32 : decode cX1_phaseOf 32 = .ok (.aload_n 0, 1) := by decide +kernel
theorem dX1_phaseOf_33 : decode cX1_phaseOf 33 = .ok (.getfield 16, 3) := by decide +kernel
theorem dX1_phaseOf_36 : decode cX1_phaseOf 36 = .ok (.invokestatic 41, 3) := by decide +kernel
theorem dX1_phaseOf_39 : decode cX1_phaseOf 39 = .ok (.ireturn, 1) := by decide +kernel
set_option maxRecDepth 20000 in
theorem ggX1_endOf_X3_leftOver : GoodIn wsX1_endOf wsX3_leftOver := goodIn_r _ [4] (by decide +kernel) (by decide +kernel)
set_option maxRecDepth 20000 in
theorem gX1_endOf_X3_leftOver_n41 : GoodIn wsX1_endOf (wsX3_leftOver) := ggX1_endOf_X3_leftOver
theorem dX1_endOf_0 : decode cX1_endOf 0 = .ok (.iload_n 1, 1) := by decide +kernel
theorem dX1_endOf_1 : decode cX1_endOf 1 = .ok (.iload_n 2, 1) := by decide +kernel
theorem dX1_endOf_2 : decode cX1_endOf 2 = .ok (.iadd, 1) := by decide +kernel
theorem dX1_endOf_3 : decode cX1_endOf 3 = .ok (.aload_n 0, 1) := by decide +kernel
theorem dX1_endOf_4 : decode cX1_endOf 4 = .ok (.getfield 7, 3) := by decide +kernel
theorem dX1_endOf_7 : decode cX1_endOf 7 = .ok (.invokestatic 41, 3) := by decide +kernel
theorem dX1_endOf_10 : decode cX1_endOf 10 = .ok (.ireturn, 1) := by decide +kernel
set_option maxRecDepth 20000 in
theorem ggX1_coilEndingIn_X3_leftOver : GoodIn wsX1_coilEndingIn wsX3_leftOver := goodIn_r _ [5] (by decide +kernel) (by decide +kernel)
set_option maxRecDepth 20000 in
theorem gX1_coilEndingIn_X3_leftOver_n41 : GoodIn wsX1_coilEndingIn (wsX3_leftOver) := ggX1_coilEndingIn_X3_leftOver
theorem dX1_coilEndingIn_0 : decode cX1_coilEndingIn 0 = .ok (.iload_n 1, 1) := by decide +kernel
theorem dX1_coilEndingIn_1 : decode cX1_coilEndingIn 1 = .ok (.aload_n 0, 1) := by decide +kernel
theorem dX1_coilEndingIn_2 : decode cX1_coilEndingIn 2 = .ok (.getfield 19, 3) := by decide +kernel
theorem dX1_coilEndingIn_5 : decode cX1_coilEndingIn 5 = .ok (.isub, 1) := by decide +kernel
theorem dX1_coilEndingIn_6 : decode cX1_coilEndingIn 6 = .ok (.aload_n 0, 1) := by decide +kernel
theorem dX1_coilEndingIn_7 : decode cX1_coilEndingIn 7 = .ok (.getfield 7, 3) := by decide +kernel
theorem dX1_coilEndingIn_10 : decode cX1_coilEndingIn 10 = .ok (.invokestatic 41, 3) := by decide +kernel
theorem dX1_coilEndingIn_13 : decode cX1_coilEndingIn 13 = .ok (.ireturn, 1) := by decide +kernel
set_option maxRecDepth 20000 in
theorem ggX1_countSides_X1_phaseOf : GoodIn wsX1_countSides wsX1_phaseOf := goodIn_r _ [6, 7, 8, 9, 10, 5, 11, 12, 13, 14, 15, 16, 17, 1, 18, 19, 20, 21, 22, 23, 28, 29, 30, 31, 32, 33] (by decide +kernel) (by decide +kernel)
set_option maxRecDepth 20000 in
theorem gX1_countSides_X1_phaseOf : GoodIn wsX1_countSides (wsV RX1 51 RX1 yX1_phaseOf wsX1_phaseOf) := goodIn_app (goodIn_of _ (by decide +kernel)) ggX1_countSides_X1_phaseOf
set_option maxRecDepth 20000 in
theorem ggX1_countSides_X1_isForward : GoodIn wsX1_countSides wsX1_isForward := goodIn_r _ [27, 8, 9, 10, 5, 11, 7, 12, 13, 14, 15, 16, 17, 1, 18, 19, 20, 21, 22, 23, 28, 29, 30, 31, 32, 33] (by decide +kernel) (by decide +kernel)
set_option maxRecDepth 20000 in
theorem gX1_countSides_X1_isForward : GoodIn wsX1_countSides (wsV RX1 54 RX1 yX1_isForward wsX1_isForward) := goodIn_app (goodIn_of _ (by decide +kernel)) ggX1_countSides_X1_isForward
theorem dX1_countSides_0 : decode cX1_countSides 0 = .ok (.iconst 0, 1) := by decide +kernel
theorem dX1_countSides_1 : decode cX1_countSides 1 = .ok (.istore_n 3, 1) := by decide +kernel
theorem dX1_countSides_2 : decode cX1_countSides 2 = .ok (.iconst 0, 1) := by decide +kernel
theorem dX1_countSides_3 : decode cX1_countSides 3 = .ok (.istore 4, 2) := by decide +kernel
theorem dX1_countSides_5 : decode cX1_countSides 5 = .ok (.iload 4, 2) := by decide +kernel
theorem dX1_countSides_7 : decode cX1_countSides 7 = .ok (.aload_n 0, 1) := by decide +kernel
theorem dX1_countSides_8 : decode cX1_countSides 8 = .ok (.getfield 7, 3) := by decide +kernel
theorem dX1_countSides_11 : decode cX1_countSides 11 = .ok (.if_icmp .ge 32, 3) := by decide +kernel
theorem dX1_countSides_14 : decode cX1_countSides 14 = .ok (.aload_n 0, 1) := by decide +kernel
theorem dX1_countSides_15 : decode cX1_countSides 15 = .ok (.iload 4, 2) := by decide +kernel
theorem dX1_countSides_17 : decode cX1_countSides 17 = .ok (.invokevirtual 51, 3) := by decide +kernel
theorem dX1_countSides_20 : decode cX1_countSides 20 = .ok (.iload_n 1, 1) := by decide +kernel
theorem dX1_countSides_21 : decode cX1_countSides 21 = .ok (.if_icmp .ne 16, 3) := by decide +kernel
theorem dX1_countSides_24 : decode cX1_countSides 24 = .ok (.aload_n 0, 1) := by decide +kernel
theorem dX1_countSides_25 : decode cX1_countSides 25 = .ok (.iload 4, 2) := by decide +kernel
theorem dX1_countSides_27 : decode cX1_countSides 27 = .ok (.invokevirtual 54, 3) := by decide +kernel
theorem dX1_countSides_30 : decode cX1_countSides 30 = .ok (.iload_n 2, 1) := by decide +kernel
theorem dX1_countSides_31 : decode cX1_countSides 31 = .ok (.if_icmp .ne 6, 3) := by decide +kernel
theorem dX1_countSides_34 : decode cX1_countSides 34 = .ok (.iinc 3 1, 3) := by decide +kernel
theorem dX1_countSides_37 : decode cX1_countSides 37 = .ok (.iinc 4 1, 3) := by decide +kernel
theorem dX1_countSides_40 : decode cX1_countSides 40 = .ok (.goto (-35), 3) := by decide +kernel
theorem dX1_countSides_43 : decode cX1_countSides 43 = .ok (.iload_n 3, 1) := by decide +kernel
theorem dX1_countSides_44 : decode cX1_countSides 44 = .ok (.ireturn, 1) := by decide +kernel
theorem dX1_wayBetween_0 : decode cX1_wayBetween 0 = .ok (.iload_n 1, 1) := by decide +kernel
theorem dX1_wayBetween_1 : decode cX1_wayBetween 1 = .ok (.iload_n 2, 1) := by decide +kernel
theorem dX1_wayBetween_2 : decode cX1_wayBetween 2 = .ok (.isub, 1) := by decide +kernel
theorem dX1_wayBetween_3 : decode cX1_wayBetween 3 = .ok (.invokestatic 58, 3) := by decide +kernel
theorem dX1_wayBetween_6 : decode cX1_wayBetween 6 = .ok (.istore_n 3, 1) := by decide +kernel
theorem dX1_wayBetween_7 : decode cX1_wayBetween 7 = .ok (.iload_n 3, 1) := by decide +kernel
theorem dX1_wayBetween_8 : decode cX1_wayBetween 8 = .ok (.aload_n 0, 1) := by decide +kernel
theorem dX1_wayBetween_9 : decode cX1_wayBetween 9 = .ok (.getfield 7, 3) := by decide +kernel
theorem dX1_wayBetween_12 : decode cX1_wayBetween 12 = .ok (.iload_n 3, 1) := by decide +kernel
theorem dX1_wayBetween_13 : decode cX1_wayBetween 13 = .ok (.isub, 1) := by decide +kernel
theorem dX1_wayBetween_14 : decode cX1_wayBetween 14 = .ok (.invokestatic 63, 3) := by decide +kernel
theorem dX1_wayBetween_17 : decode cX1_wayBetween 17 = .ok (.ireturn, 1) := by decide +kernel
theorem dX2_init_0 : decode cX2_init 0 = .ok (.aload_n 0, 1) := by decide +kernel
theorem dX2_init_1 : decode cX2_init 1 = .ok (.invokespecial 3, 3) := by decide +kernel
theorem dX2_init_4 : decode cX2_init 4 = .ok (.aload_n 0, 1) := by decide +kernel
theorem dX2_init_5 : decode cX2_init 5 = .ok (.bipush 49, 2) := by decide +kernel
theorem dX2_init_7 : decode cX2_init 7 = .ok (.newarray .int, 2) := by decide +kernel
theorem dX2_init_9 : decode cX2_init 9 = .ok (.putfield 9, 3) := by decide +kernel
theorem dX2_init_12 : decode cX2_init 12 = .ok (.return_, 1) := by decide +kernel
set_option maxRecDepth 20000 in
theorem ggX2_become_J7_fill_53178 : GoodIn wsX2_become wsJ7_fill_53178 := goodIn_r _ [7] (by decide +kernel) (by decide +kernel)
set_option maxRecDepth 20000 in
theorem gX2_become_J7_fill_53178 : GoodIn wsX2_become (va_wsS RX2 19 yJ7_fill_53178 wsJ7_fill_53178) := goodIn_app (goodIn_of _ (by decide +kernel)) ggX2_become_J7_fill_53178
set_option maxRecDepth 20000 in
theorem ggX2_become_X3_put : GoodIn wsX2_become wsX3_put := goodIn_r _ [10, 11, 12, 9, 13] (by decide +kernel) (by decide +kernel)
set_option maxRecDepth 20000 in
theorem gX2_become_X3_put_n25 : GoodIn wsX2_become (wsX3_put) := ggX2_become_X3_put
set_option maxRecDepth 20000 in
theorem ggX2_become_X3_leftOver : GoodIn wsX2_become wsX3_leftOver := goodIn_r _ [15] (by decide +kernel) (by decide +kernel)
set_option maxRecDepth 20000 in
theorem gX2_become_X3_leftOver_n29 : GoodIn wsX2_become (wsX3_leftOver) := ggX2_become_X3_leftOver
set_option maxRecDepth 20000 in
theorem ggX2_become_X3_cut : GoodIn wsX2_become wsX3_cut := goodIn_r _ [17] (by decide +kernel) (by decide +kernel)
set_option maxRecDepth 20000 in
theorem gX2_become_X3_cut_n33 : GoodIn wsX2_become (wsX3_cut) := ggX2_become_X3_cut
set_option maxRecDepth 20000 in
theorem ggX2_become_X2_moebius : GoodIn wsX2_become wsX2_moebius := goodIn_r _ [21, 14, 9, 15, 16, 17] (by decide +kernel) (by decide +kernel)
set_option maxRecDepth 20000 in
theorem gX2_become_X2_moebius : GoodIn wsX2_become (va_wsS RX2 36 yX2_moebius wsX2_moebius) := goodIn_app (goodIn_of _ (by decide +kernel)) ggX2_become_X2_moebius
set_option maxRecDepth 20000 in
theorem ggX2_become_X2_multiplyByOneLess : GoodIn wsX2_become wsX2_multiplyByOneLess := goodIn_r _ [25, 1, 2, 26, 9, 27, 11, 12, 13, 8, 10, 36, 37, 38] (by decide +kernel) (by decide +kernel)
set_option maxRecDepth 20000 in
theorem gX2_become_X2_multiplyByOneLess : GoodIn wsX2_become (wsV RX2 40 RX2 yX2_multiplyByOneLess wsX2_multiplyByOneLess) := goodIn_app (goodIn_of _ (by decide +kernel)) ggX2_become_X2_multiplyByOneLess
set_option maxRecDepth 20000 in
theorem ggX2_become_X2_divideByOneLess : GoodIn wsX2_become wsX2_divideByOneLess := goodIn_r _ [31, 1, 2, 26, 9, 27, 11, 12, 13, 8, 10, 36, 37, 38] (by decide +kernel) (by decide +kernel)
set_option maxRecDepth 20000 in
theorem gX2_become_X2_divideByOneLess : GoodIn wsX2_become (wsV RX2 44 RX2 yX2_divideByOneLess wsX2_divideByOneLess) := goodIn_app (goodIn_of _ (by decide +kernel)) ggX2_become_X2_divideByOneLess
set_option maxRecDepth 20000 in
theorem ggX2_become_X2_highestPower : GoodIn wsX2_become wsX2_highestPower := goodIn_r _ [35, 1, 2, 26, 9, 27, 11, 12, 13, 36, 37, 38] (by decide +kernel) (by decide +kernel)
set_option maxRecDepth 20000 in
theorem gX2_become_X2_highestPower : GoodIn wsX2_become (wsV RX2 47 RX2 yX2_highestPower wsX2_highestPower) := goodIn_app (goodIn_of _ (by decide +kernel)) ggX2_become_X2_highestPower
theorem dX2_become_0 : decode cX2_become 0 = .ok (.aload_n 0, 1) := by decide +kernel
theorem dX2_become_1 : decode cX2_become 1 = .ok (.iload_n 1, 1) := by decide +kernel
theorem dX2_become_2 : decode cX2_become 2 = .ok (.putfield 15, 3) := by decide +kernel
theorem dX2_become_5 : decode cX2_become 5 = .ok (.aload_n 0, 1) := by decide +kernel
theorem dX2_become_6 : decode cX2_become 6 = .ok (.getfield 9, 3) := by decide +kernel
theorem dX2_become_9 : decode cX2_become 9 = .ok (.iconst 0, 1) := by decide +kernel
theorem dX2_become_10 : decode cX2_become 10 = .ok (.invokestatic 19, 3) := by decide +kernel
theorem dX2_become_13 : decode cX2_become 13 = .ok (.aload_n 0, 1) := by decide +kernel
theorem dX2_become_14 : decode cX2_become 14 = .ok (.getfield 9, 3) := by decide +kernel
theorem dX2_become_17 : decode cX2_become 17 = .ok (.iconst 0, 1) := by decide +kernel
theorem dX2_become_18 : decode cX2_become 18 = .ok (.iload_n 1, 1) := by decide +kernel
theorem dX2_become_19 : decode cX2_become 19 = .ok (.iconst 1, 1) := by decide +kernel
theorem dX2_become_20 : decode cX2_become 20 = .ok (.if_icmp .ne 7, 3) := by decide +kernel
theorem dX2_become_23 : decode cX2_become 23 = .ok (.iconst (-1), 1) := by decide +kernel
theorem dX2_become_24 : decode cX2_become 24 = .ok (.goto 4, 3) := by decide +kernel
theorem dX2_become_27 : decode cX2_become 27 = .ok (.iconst 1, 1) := by decide +kernel
theorem dX2_become_28 : decode cX2_become 28 = .ok (.invokestatic 25, 3) := by decide +kernel
theorem dX2_become_31 : decode cX2_become 31 = .ok (.iconst 1, 1) := by decide +kernel
theorem dX2_become_32 : decode cX2_become 32 = .ok (.istore_n 2, 1) := by decide +kernel
theorem dX2_become_33 : decode cX2_become 33 = .ok (.iload_n 2, 1) := by decide +kernel
theorem dX2_become_34 : decode cX2_become 34 = .ok (.iload_n 1, 1) := by decide +kernel
theorem dX2_become_35 : decode cX2_become 35 = .ok (.if_icmp .gt 47, 3) := by decide +kernel
theorem dX2_become_38 : decode cX2_become 38 = .ok (.iload_n 1, 1) := by decide +kernel
theorem dX2_become_39 : decode cX2_become 39 = .ok (.iload_n 2, 1) := by decide +kernel
theorem dX2_become_40 : decode cX2_become 40 = .ok (.invokestatic 29, 3) := by decide +kernel
theorem dX2_become_43 : decode cX2_become 43 = .ok (.ifCond .ne 33, 3) := by decide +kernel
theorem dX2_become_46 : decode cX2_become 46 = .ok (.iload_n 1, 1) := by decide +kernel
theorem dX2_become_47 : decode cX2_become 47 = .ok (.iload_n 2, 1) := by decide +kernel
theorem dX2_become_48 : decode cX2_become 48 = .ok (.invokestatic 33, 3) := by decide +kernel
theorem dX2_become_51 : decode cX2_become 51 = .ok (.invokestatic 36, 3) := by decide +kernel
theorem dX2_become_54 : decode cX2_become 54 = .ok (.istore_n 3, 1) := by decide +kernel
theorem dX2_become_55 : decode cX2_become 55 = .ok (.iload_n 3, 1) := by decide +kernel
theorem dX2_become_56 : decode cX2_become 56 = .ok (.ifCond .le 11, 3) := by decide +kernel
theorem dX2_become_59 : decode cX2_become 59 = .ok (.aload_n 0, 1) := by decide +kernel
theorem dX2_become_60 : decode cX2_become 60 = .ok (.iload_n 2, 1) := by decide +kernel
theorem dX2_become_61 : decode cX2_become 61 = .ok (.invokevirtual 40, 3) := by decide +kernel
theorem dX2_become_64 : decode cX2_become 64 = .ok (.goto 12, 3) := by decide +kernel
theorem dX2_become_67 : decode cX2_become 67 = .ok (.iload_n 3, 1) := by decide +kernel
theorem dX2_become_68 : decode cX2_become 68 = .ok (.ifCond .ge 8, 3) := by decide +kernel
theorem dX2_become_71 : decode cX2_become 71 = .ok (.aload_n 0, 1) := by decide +kernel
theorem dX2_become_72 : decode cX2_become 72 = .ok (.iload_n 2, 1) := by decide +kernel
theorem dX2_become_73 : decode cX2_become 73 = .ok (.invokevirtual 44, 3) := by decide +kernel
theorem dX2_become_76 : decode cX2_become 76 = .ok (.iinc 2 1, 3) := by decide +kernel
theorem dX2_become_79 : decode cX2_become 79 = .ok (.goto (-46), 3) := by decide +kernel
theorem dX2_become_82 : decode cX2_become 82 = .ok (.aload_n 0, 1) := by decide +kernel
theorem dX2_become_83 : decode cX2_become 83 = .ok (.aload_n 0, 1) := by decide +kernel
theorem dX2_become_84 : decode cX2_become 84 = .ok (.invokevirtual 47, 3) := by decide +kernel
theorem dX2_become_87 : decode cX2_become 87 = .ok (.putfield 51, 3) := by decide +kernel
theorem dX2_become_90 : decode cX2_become 90 = .ok (.return_, 1) := by decide +kernel
set_option maxRecDepth 20000 in
theorem ggX2_moebius_X3_leftOver : GoodIn wsX2_moebius wsX3_leftOver := goodIn_r _ [3] (by decide +kernel) (by decide +kernel)
set_option maxRecDepth 20000 in
theorem gX2_moebius_X3_leftOver_n29 : GoodIn wsX2_moebius (wsX3_leftOver) := ggX2_moebius_X3_leftOver
set_option maxRecDepth 20000 in
theorem ggX2_moebius_X3_cut : GoodIn wsX2_moebius wsX3_cut := goodIn_r _ [5] (by decide +kernel) (by decide +kernel)
set_option maxRecDepth 20000 in
theorem gX2_moebius_X3_cut_n33 : GoodIn wsX2_moebius (wsX3_cut) := ggX2_moebius_X3_cut
theorem dX2_moebius_0 : decode cX2_moebius 0 = .ok (.iload_n 0, 1) := by decide +kernel
theorem dX2_moebius_1 : decode cX2_moebius 1 = .ok (.istore_n 1, 1) := by decide +kernel
theorem dX2_moebius_2 : decode cX2_moebius 2 = .ok (.iconst 1, 1) := by decide +kernel
theorem dX2_moebius_3 : decode cX2_moebius 3 = .ok (.istore_n 2, 1) := by decide +kernel
theorem dX2_moebius_4 : decode cX2_moebius 4 = .ok (.iconst 2, 1) := by decide +kernel
theorem dX2_moebius_5 : decode cX2_moebius 5 = .ok (.istore_n 3, 1) := by decide +kernel
theorem dX2_moebius_6 : decode cX2_moebius 6 = .ok (.iload_n 3, 1) := by decide +kernel
theorem dX2_moebius_7 : decode cX2_moebius 7 = .ok (.bipush 48, 2) := by decide +kernel
theorem dX2_moebius_9 : decode cX2_moebius 9 = .ok (.if_icmp .gt 36, 3) := by decide +kernel
theorem dX2_moebius_12 : decode cX2_moebius 12 = .ok (.iload_n 1, 1) := by decide +kernel
theorem dX2_moebius_13 : decode cX2_moebius 13 = .ok (.iload_n 3, 1) := by decide +kernel
theorem dX2_moebius_14 : decode cX2_moebius 14 = .ok (.invokestatic 29, 3) := by decide +kernel
theorem dX2_moebius_17 : decode cX2_moebius 17 = .ok (.ifCond .ne 22, 3) := by decide +kernel
theorem dX2_moebius_20 : decode cX2_moebius 20 = .ok (.iload_n 1, 1) := by decide +kernel
theorem dX2_moebius_21 : decode cX2_moebius 21 = .ok (.iload_n 3, 1) := by decide +kernel
theorem dX2_moebius_22 : decode cX2_moebius 22 = .ok (.invokestatic 33, 3) := by decide +kernel
theorem dX2_moebius_25 : decode cX2_moebius 25 = .ok (.istore_n 1, 1) := by decide +kernel
theorem dX2_moebius_26 : decode cX2_moebius 26 = .ok (.iload_n 2, 1) := by decide +kernel
theorem dX2_moebius_27 : decode cX2_moebius 27 = .ok (.ineg, 1) := by decide +kernel
theorem dX2_moebius_28 : decode cX2_moebius 28 = .ok (.istore_n 2, 1) := by decide +kernel
theorem dX2_moebius_29 : decode cX2_moebius 29 = .ok (.iload_n 1, 1) := by decide +kernel
theorem dX2_moebius_30 : decode cX2_moebius 30 = .ok (.iload_n 3, 1) := by decide +kernel
theorem dX2_moebius_31 : decode cX2_moebius 31 = .ok (.invokestatic 29, 3) := by decide +kernel
theorem dX2_moebius_34 : decode cX2_moebius 34 = .ok (.ifCond .ne 5, 3) := by decide +kernel
theorem dX2_moebius_37 : decode cX2_moebius 37 = .ok (.iconst 0, 1) := by decide +kernel
theorem dX2_moebius_38 : decode cX2_moebius 38 = .ok (.ireturn, 1) := by decide +kernel
theorem dX2_moebius_39 : decode cX2_moebius 39 = .ok (.iinc 3 1, 3) := by decide +kernel
theorem dX2_moebius_42 : decode cX2_moebius 42 = .ok (.goto (-36), 3) := by decide +kernel
theorem dX2_moebius_45 : decode cX2_moebius 45 = .ok (.iload_n 2, 1) := by decide +kernel
theorem dX2_moebius_46 : decode cX2_moebius 46 = .ok (.ireturn, 1) := by decide +kernel
set_option maxRecDepth 20000 in
theorem ggX2_multiplyByOneLess_X3_at : GoodIn wsX2_multiplyByOneLess wsX3_at := goodIn_r _ [5, 6, 7, 4, 8] (by decide +kernel) (by decide +kernel)
set_option maxRecDepth 20000 in
theorem gX2_multiplyByOneLess_X3_at_n54 : GoodIn wsX2_multiplyByOneLess (wsX3_at) := ggX2_multiplyByOneLess_X3_at
set_option maxRecDepth 20000 in
theorem ggX2_multiplyByOneLess_X3_put : GoodIn wsX2_multiplyByOneLess wsX3_put := goodIn_r _ [10, 6, 7, 4, 8] (by decide +kernel) (by decide +kernel)
set_option maxRecDepth 20000 in
theorem gX2_multiplyByOneLess_X3_put_n25 : GoodIn wsX2_multiplyByOneLess (wsX3_put) := ggX2_multiplyByOneLess_X3_put
theorem dX2_multiplyByOneLess_0 : decode cX2_multiplyByOneLess 0 = .ok (.aload_n 0, 1) := by decide +kernel
theorem dX2_multiplyByOneLess_1 : decode cX2_multiplyByOneLess 1 = .ok (.getfield 15, 3) := by decide +kernel
theorem dX2_multiplyByOneLess_4 : decode cX2_multiplyByOneLess 4 = .ok (.istore_n 2, 1) := by decide +kernel
theorem dX2_multiplyByOneLess_5 : decode cX2_multiplyByOneLess 5 = .ok (.iload_n 2, 1) := by decide +kernel
theorem dX2_multiplyByOneLess_6 : decode cX2_multiplyByOneLess 6 = .ok (.iload_n 1, 1) := by decide +kernel
theorem dX2_multiplyByOneLess_7 : decode cX2_multiplyByOneLess 7 = .ok (.if_icmp .lt 36, 3) := by decide +kernel
theorem dX2_multiplyByOneLess_10 : decode cX2_multiplyByOneLess 10 = .ok (.aload_n 0, 1) := by decide +kernel
theorem dX2_multiplyByOneLess_11 : decode cX2_multiplyByOneLess 11 = .ok (.getfield 9, 3) := by decide +kernel
theorem dX2_multiplyByOneLess_14 : decode cX2_multiplyByOneLess 14 = .ok (.iload_n 2, 1) := by decide +kernel
theorem dX2_multiplyByOneLess_15 : decode cX2_multiplyByOneLess 15 = .ok (.aload_n 0, 1) := by decide +kernel
theorem dX2_multiplyByOneLess_16 : decode cX2_multiplyByOneLess 16 = .ok (.getfield 9, 3) := by decide +kernel
theorem dX2_multiplyByOneLess_19 : decode cX2_multiplyByOneLess 19 = .ok (.iload_n 2, 1) := by decide +kernel
theorem dX2_multiplyByOneLess_20 : decode cX2_multiplyByOneLess 20 = .ok (.invokestatic 54, 3) := by decide +kernel
theorem dX2_multiplyByOneLess_23 : decode cX2_multiplyByOneLess 23 = .ok (.aload_n 0, 1) := by decide +kernel
theorem dX2_multiplyByOneLess_24 : decode cX2_multiplyByOneLess 24 = .ok (.getfield 9, 3) := by decide +kernel
theorem dX2_multiplyByOneLess_27 : decode cX2_multiplyByOneLess 27 = .ok (.iload_n 2, 1) := by decide +kernel
theorem dX2_multiplyByOneLess_28 : decode cX2_multiplyByOneLess 28 = .ok (.iload_n 1, 1) := by decide +kernel
theorem dX2_multiplyByOneLess_29 : decode cX2_multiplyByOneLess 29 = .ok (.isub, 1) := by decide +kernel
theorem dX2_multiplyByOneLess_30 : decode cX2_multiplyByOneLess 30 = .ok (.invokestatic 54, 3) := by decide +kernel
theorem dX2_multiplyByOneLess_33 : decode cX2_multiplyByOneLess 33 = .ok (.isub, 1) := by decide +kernel
theorem dX2_multiplyByOneLess_34 : decode cX2_multiplyByOneLess 34 = .ok (.invokestatic 25, 3) := by decide +kernel
theorem dX2_multiplyByOneLess_37 : decode cX2_multiplyByOneLess 37 = .ok (.iinc 2 (-1), 3) := by decide +kernel
theorem dX2_multiplyByOneLess_40 : decode cX2_multiplyByOneLess 40 = .ok (.goto (-35), 3) := by decide +kernel
theorem dX2_multiplyByOneLess_43 : decode cX2_multiplyByOneLess 43 = .ok (.return_, 1) := by decide +kernel
set_option maxRecDepth 20000 in
theorem ggX2_divideByOneLess_X3_at : GoodIn wsX2_divideByOneLess wsX3_at := goodIn_r _ [5, 6, 7, 4, 8] (by decide +kernel) (by decide +kernel)
set_option maxRecDepth 20000 in
theorem gX2_divideByOneLess_X3_at_n54 : GoodIn wsX2_divideByOneLess (wsX3_at) := ggX2_divideByOneLess_X3_at
set_option maxRecDepth 20000 in
theorem ggX2_divideByOneLess_X3_put : GoodIn wsX2_divideByOneLess wsX3_put := goodIn_r _ [10, 6, 7, 4, 8] (by decide +kernel) (by decide +kernel)
set_option maxRecDepth 20000 in
theorem gX2_divideByOneLess_X3_put_n25 : GoodIn wsX2_divideByOneLess (wsX3_put) := ggX2_divideByOneLess_X3_put
theorem dX2_divideByOneLess_0 : decode cX2_divideByOneLess 0 = .ok (.iload_n 1, 1) := by decide +kernel
theorem dX2_divideByOneLess_1 : decode cX2_divideByOneLess 1 = .ok (.istore_n 2, 1) := by decide +kernel
theorem dX2_divideByOneLess_2 : decode cX2_divideByOneLess 2 = .ok (.iload_n 2, 1) := by decide +kernel
theorem dX2_divideByOneLess_3 : decode cX2_divideByOneLess 3 = .ok (.aload_n 0, 1) := by decide +kernel
theorem dX2_divideByOneLess_4 : decode cX2_divideByOneLess 4 = .ok (.getfield 15, 3) := by decide +kernel
theorem dX2_divideByOneLess_7 : decode cX2_divideByOneLess 7 = .ok (.if_icmp .gt 36, 3) := by decide +kernel
theorem dX2_divideByOneLess_10 : decode cX2_divideByOneLess 10 = .ok (.aload_n 0, 1) := by decide +kernel
theorem dX2_divideByOneLess_11 : decode cX2_divideByOneLess 11 = .ok (.getfield 9, 3) := by decide +kernel
theorem dX2_divideByOneLess_14 : decode cX2_divideByOneLess 14 = .ok (.iload_n 2, 1) := by decide +kernel
theorem dX2_divideByOneLess_15 : decode cX2_divideByOneLess 15 = .ok (.aload_n 0, 1) := by decide +kernel
theorem dX2_divideByOneLess_16 : decode cX2_divideByOneLess 16 = .ok (.getfield 9, 3) := by decide +kernel
theorem dX2_divideByOneLess_19 : decode cX2_divideByOneLess 19 = .ok (.iload_n 2, 1) := by decide +kernel
theorem dX2_divideByOneLess_20 : decode cX2_divideByOneLess 20 = .ok (.invokestatic 54, 3) := by decide +kernel
theorem dX2_divideByOneLess_23 : decode cX2_divideByOneLess 23 = .ok (.aload_n 0, 1) := by decide +kernel
theorem dX2_divideByOneLess_24 : decode cX2_divideByOneLess 24 = .ok (.getfield 9, 3) := by decide +kernel
theorem dX2_divideByOneLess_27 : decode cX2_divideByOneLess 27 = .ok (.iload_n 2, 1) := by decide +kernel
theorem dX2_divideByOneLess_28 : decode cX2_divideByOneLess 28 = .ok (.iload_n 1, 1) := by decide +kernel
theorem dX2_divideByOneLess_29 : decode cX2_divideByOneLess 29 = .ok (.isub, 1) := by decide +kernel
theorem dX2_divideByOneLess_30 : decode cX2_divideByOneLess 30 = .ok (.invokestatic 54, 3) := by decide +kernel
theorem dX2_divideByOneLess_33 : decode cX2_divideByOneLess 33 = .ok (.iadd, 1) := by decide +kernel
theorem dX2_divideByOneLess_34 : decode cX2_divideByOneLess 34 = .ok (.invokestatic 25, 3) := by decide +kernel
theorem dX2_divideByOneLess_37 : decode cX2_divideByOneLess 37 = .ok (.iinc 2 1, 3) := by decide +kernel
theorem dX2_divideByOneLess_40 : decode cX2_divideByOneLess 40 = .ok (.goto (-38), 3) := by decide +kernel
theorem dX2_divideByOneLess_43 : decode cX2_divideByOneLess 43 = .ok (.return_, 1) := by decide +kernel
set_option maxRecDepth 20000 in
theorem ggX2_highestPower_X3_at : GoodIn wsX2_highestPower wsX3_at := goodIn_r _ [5, 6, 7, 4, 8] (by decide +kernel) (by decide +kernel)
set_option maxRecDepth 20000 in
theorem gX2_highestPower_X3_at_n54 : GoodIn wsX2_highestPower (wsX3_at) := ggX2_highestPower_X3_at
theorem dX2_highestPower_0 : decode cX2_highestPower 0 = .ok (.aload_n 0, 1) := by decide +kernel
theorem dX2_highestPower_1 : decode cX2_highestPower 1 = .ok (.getfield 15, 3) := by decide +kernel
theorem dX2_highestPower_4 : decode cX2_highestPower 4 = .ok (.istore_n 1, 1) := by decide +kernel
theorem dX2_highestPower_5 : decode cX2_highestPower 5 = .ok (.iload_n 1, 1) := by decide +kernel
theorem dX2_highestPower_6 : decode cX2_highestPower 6 = .ok (.ifCond .le 22, 3) := by decide +kernel
theorem dX2_highestPower_9 : decode cX2_highestPower 9 = .ok (.aload_n 0, 1) := by decide +kernel
theorem dX2_highestPower_10 : decode cX2_highestPower 10 = .ok (.getfield 9, 3) := by decide +kernel
theorem dX2_highestPower_13 : decode cX2_highestPower 13 = .ok (.iload_n 1, 1) := by decide +kernel
theorem dX2_highestPower_14 : decode cX2_highestPower 14 = .ok (.invokestatic 54, 3) := by decide +kernel
theorem dX2_highestPower_17 : decode cX2_highestPower 17 = .ok (.ifCond .eq 5, 3) := by decide +kernel
theorem dX2_highestPower_20 : decode cX2_highestPower 20 = .ok (.iload_n 1, 1) := by decide +kernel
theorem dX2_highestPower_21 : decode cX2_highestPower 21 = .ok (.ireturn, 1) := by decide +kernel
theorem dX2_highestPower_22 : decode cX2_highestPower 22 = .ok (.iinc 1 (-1), 3) := by decide +kernel
theorem dX2_highestPower_25 : decode cX2_highestPower 25 = .ok (.goto (-20), 3) := by decide +kernel
theorem dX2_highestPower_28 : decode cX2_highestPower 28 = .ok (.iconst 0, 1) := by decide +kernel
theorem dX2_highestPower_29 : decode cX2_highestPower 29 = .ok (.ireturn, 1) := by decide +kernel
set_option maxRecDepth 20000 in
theorem ggX2_reduce_X3_at : GoodIn wsX2_reduce wsX3_at := goodIn_r _ [6, 7, 8, 5, 9] (by decide +kernel) (by decide +kernel)
set_option maxRecDepth 20000 in
theorem gX2_reduce_X3_at_n54 : GoodIn wsX2_reduce (wsX3_at) := ggX2_reduce_X3_at
set_option maxRecDepth 20000 in
theorem ggX2_reduce_X3_put : GoodIn wsX2_reduce wsX3_put := goodIn_r _ [11, 7, 8, 5, 9] (by decide +kernel) (by decide +kernel)
set_option maxRecDepth 20000 in
theorem gX2_reduce_X3_put_n25 : GoodIn wsX2_reduce (wsX3_put) := ggX2_reduce_X3_put
theorem dX2_reduce_0 : decode cX2_reduce 0 = .ok (.aload_n 0, 1) := by decide +kernel
theorem dX2_reduce_1 : decode cX2_reduce 1 = .ok (.getfield 15, 3) := by decide +kernel
theorem dX2_reduce_4 : decode cX2_reduce 4 = .ok (.iconst 1, 1) := by decide +kernel
theorem dX2_reduce_5 : decode cX2_reduce 5 = .ok (.isub, 1) := by decide +kernel
theorem dX2_reduce_6 : decode cX2_reduce 6 = .ok (.istore_n 2, 1) := by decide +kernel
theorem dX2_reduce_7 : decode cX2_reduce 7 = .ok (.iload_n 2, 1) := by decide +kernel
theorem dX2_reduce_8 : decode cX2_reduce 8 = .ok (.aload_n 0, 1) := by decide +kernel
theorem dX2_reduce_9 : decode cX2_reduce 9 = .ok (.getfield 51, 3) := by decide +kernel
theorem dX2_reduce_12 : decode cX2_reduce 12 = .ok (.if_icmp .lt 68, 3) := by decide +kernel
theorem dX2_reduce_15 : decode cX2_reduce 15 = .ok (.aload_n 1, 1) := by decide +kernel
theorem dX2_reduce_16 : decode cX2_reduce 16 = .ok (.iload_n 2, 1) := by decide +kernel
theorem dX2_reduce_17 : decode cX2_reduce 17 = .ok (.invokestatic 54, 3) := by decide +kernel
theorem dX2_reduce_20 : decode cX2_reduce 20 = .ok (.istore_n 3, 1) := by decide +kernel
theorem dX2_reduce_21 : decode cX2_reduce 21 = .ok (.iconst 0, 1) := by decide +kernel
theorem dX2_reduce_22 : decode cX2_reduce 22 = .ok (.istore 4, 2) := by decide +kernel
theorem dX2_reduce_24 : decode cX2_reduce 24 = .ok (.iload 4, 2) := by decide +kernel
theorem dX2_reduce_26 : decode cX2_reduce 26 = .ok (.aload_n 0, 1) := by decide +kernel
theorem dX2_reduce_27 : decode cX2_reduce 27 = .ok (.getfield 51, 3) := by decide +kernel
theorem dX2_reduce_30 : decode cX2_reduce 30 = .ok (.if_icmp .gt 44, 3) := by decide +kernel
theorem dX2_reduce_33 : decode cX2_reduce 33 = .ok (.iload_n 2, 1) := by decide +kernel
theorem dX2_reduce_34 : decode cX2_reduce 34 = .ok (.aload_n 0, 1) := by decide +kernel
theorem dX2_reduce_35 : decode cX2_reduce 35 = .ok (.getfield 51, 3) := by decide +kernel
theorem dX2_reduce_38 : decode cX2_reduce 38 = .ok (.isub, 1) := by decide +kernel
theorem dX2_reduce_39 : decode cX2_reduce 39 = .ok (.iload 4, 2) := by decide +kernel
theorem dX2_reduce_41 : decode cX2_reduce 41 = .ok (.iadd, 1) := by decide +kernel
theorem dX2_reduce_42 : decode cX2_reduce 42 = .ok (.istore 5, 2) := by decide +kernel
theorem dX2_reduce_44 : decode cX2_reduce 44 = .ok (.aload_n 1, 1) := by decide +kernel
theorem dX2_reduce_45 : decode cX2_reduce 45 = .ok (.iload 5, 2) := by decide +kernel
theorem dX2_reduce_47 : decode cX2_reduce 47 = .ok (.aload_n 1, 1) := by decide +kernel
theorem dX2_reduce_48 : decode cX2_reduce 48 = .ok (.iload 5, 2) := by decide +kernel
theorem dX2_reduce_50 : decode cX2_reduce 50 = .ok (.invokestatic 54, 3) := by decide +kernel
theorem dX2_reduce_53 : decode cX2_reduce 53 = .ok (.iload_n 3, 1) := by decide +kernel
theorem dX2_reduce_54 : decode cX2_reduce 54 = .ok (.aload_n 0, 1) := by decide +kernel
theorem dX2_reduce_55 : decode cX2_reduce 55 = .ok (.getfield 9, 3) := by decide +kernel
theorem dX2_reduce_58 : decode cX2_reduce 58 = .ok (.iload 4, 2) := by decide +kernel
theorem dX2_reduce_60 : decode cX2_reduce 60 = .ok (.invokestatic 54, 3) := by decide +kernel
theorem dX2_reduce_63 : decode cX2_reduce 63 = .ok (.imul, 1) := by decide +kernel
theorem dX2_reduce_64 : decode cX2_reduce 64 = .ok (.isub, 1) := by decide +kernel
theorem dX2_reduce_65 : decode cX2_reduce 65 = .ok (.invokestatic 25, 3) := by decide +kernel
theorem dX2_reduce_68 : decode cX2_reduce 68 = .ok (.iinc 4 1, 3) := by decide +kernel
theorem dX2_reduce_71 : decode cX2_reduce 71 = .ok (.goto (-47), 3) := by decide +kernel
theorem dX2_reduce_74 : decode cX2_reduce 74 = .ok (.iinc 2 (-1), 3) := by decide +kernel
theorem dX2_reduce_77 : decode cX2_reduce 77 = .ok (.goto (-70), 3) := by decide +kernel
theorem dX2_reduce_80 : decode cX2_reduce 80 = .ok (.return_, 1) := by decide +kernel
set_option maxRecDepth 20000 in
theorem ggX2_multiplyByX_X3_at : GoodIn wsX2_multiplyByX wsX3_at := goodIn_r _ [5, 6, 7, 4, 8] (by decide +kernel) (by decide +kernel)
set_option maxRecDepth 20000 in
theorem gX2_multiplyByX_X3_at_n54 : GoodIn wsX2_multiplyByX (wsX3_at) := ggX2_multiplyByX_X3_at
set_option maxRecDepth 20000 in
theorem ggX2_multiplyByX_X3_put : GoodIn wsX2_multiplyByX wsX3_put := goodIn_r _ [10, 6, 7, 4, 8] (by decide +kernel) (by decide +kernel)
set_option maxRecDepth 20000 in
theorem gX2_multiplyByX_X3_put_n25 : GoodIn wsX2_multiplyByX (wsX3_put) := ggX2_multiplyByX_X3_put
theorem dX2_multiplyByX_0 : decode cX2_multiplyByX 0 = .ok (.aload_n 1, 1) := by decide +kernel
theorem dX2_multiplyByX_1 : decode cX2_multiplyByX 1 = .ok (.aload_n 0, 1) := by decide +kernel
theorem dX2_multiplyByX_2 : decode cX2_multiplyByX 2 = .ok (.getfield 51, 3) := by decide +kernel
theorem dX2_multiplyByX_5 : decode cX2_multiplyByX 5 = .ok (.iconst 1, 1) := by decide +kernel
theorem dX2_multiplyByX_6 : decode cX2_multiplyByX 6 = .ok (.isub, 1) := by decide +kernel
theorem dX2_multiplyByX_7 : decode cX2_multiplyByX 7 = .ok (.invokestatic 54, 3) := by decide +kernel
theorem dX2_multiplyByX_10 : decode cX2_multiplyByX 10 = .ok (.istore_n 2, 1) := by decide +kernel
theorem dX2_multiplyByX_11 : decode cX2_multiplyByX 11 = .ok (.aload_n 0, 1) := by decide +kernel
theorem dX2_multiplyByX_12 : decode cX2_multiplyByX 12 = .ok (.getfield 51, 3) := by decide +kernel
theorem dX2_multiplyByX_15 : decode cX2_multiplyByX 15 = .ok (.iconst 1, 1) := by decide +kernel
theorem dX2_multiplyByX_16 : decode cX2_multiplyByX 16 = .ok (.isub, 1) := by decide +kernel
theorem dX2_multiplyByX_17 : decode cX2_multiplyByX 17 = .ok (.istore_n 3, 1) := by decide +kernel
theorem dX2_multiplyByX_18 : decode cX2_multiplyByX 18 = .ok (.iload_n 3, 1) := by decide +kernel
theorem dX2_multiplyByX_19 : decode cX2_multiplyByX 19 = .ok (.ifCond .le 32, 3) := by decide +kernel
theorem dX2_multiplyByX_22 : decode cX2_multiplyByX 22 = .ok (.aload_n 1, 1) := by decide +kernel
theorem dX2_multiplyByX_23 : decode cX2_multiplyByX 23 = .ok (.iload_n 3, 1) := by decide +kernel
theorem dX2_multiplyByX_24 : decode cX2_multiplyByX 24 = .ok (.aload_n 1, 1) := by decide +kernel
theorem dX2_multiplyByX_25 : decode cX2_multiplyByX 25 = .ok (.iload_n 3, 1) := by decide +kernel
theorem dX2_multiplyByX_26 : decode cX2_multiplyByX 26 = .ok (.iconst 1, 1) := by decide +kernel
theorem dX2_multiplyByX_27 : decode cX2_multiplyByX 27 = .ok (.isub, 1) := by decide +kernel
theorem dX2_multiplyByX_28 : decode cX2_multiplyByX 28 = .ok (.invokestatic 54, 3) := by decide +kernel
theorem dX2_multiplyByX_31 : decode cX2_multiplyByX 31 = .ok (.iload_n 2, 1) := by decide +kernel
theorem dX2_multiplyByX_32 : decode cX2_multiplyByX 32 = .ok (.aload_n 0, 1) := by decide +kernel
theorem dX2_multiplyByX_33 : decode cX2_multiplyByX 33 = .ok (.getfield 9, 3) := by decide +kernel
theorem dX2_multiplyByX_36 : decode cX2_multiplyByX 36 = .ok (.iload_n 3, 1) := by decide +kernel
theorem dX2_multiplyByX_37 : decode cX2_multiplyByX 37 = .ok (.invokestatic 54, 3) := by decide +kernel
theorem dX2_multiplyByX_40 : decode cX2_multiplyByX 40 = .ok (.imul, 1) := by decide +kernel
theorem dX2_multiplyByX_41 : decode cX2_multiplyByX 41 = .ok (.isub, 1) := by decide +kernel
theorem dX2_multiplyByX_42 : decode cX2_multiplyByX 42 = .ok (.invokestatic 25, 3) := by decide +kernel
theorem dX2_multiplyByX_45 : decode cX2_multiplyByX 45 = .ok (.iinc 3 (-1), 3) := by decide +kernel
theorem dX2_multiplyByX_48 : decode cX2_multiplyByX 48 = .ok (.goto (-30), 3) := by decide +kernel
theorem dX2_multiplyByX_51 : decode cX2_multiplyByX 51 = .ok (.aload_n 1, 1) := by decide +kernel
theorem dX2_multiplyByX_52 : decode cX2_multiplyByX 52 = .ok (.iconst 0, 1) := by decide +kernel
theorem dX2_multiplyByX_53 : decode cX2_multiplyByX 53 = .ok (.iload_n 2, 1) := by decide +kernel
theorem dX2_multiplyByX_54 : decode cX2_multiplyByX 54 = .ok (.ineg, 1) := by decide +kernel
theorem dX2_multiplyByX_55 : decode cX2_multiplyByX 55 = .ok (.aload_n 0, 1) := by decide +kernel
theorem dX2_multiplyByX_56 : decode cX2_multiplyByX 56 = .ok (.getfield 9, 3) := by decide +kernel
theorem dX2_multiplyByX_59 : decode cX2_multiplyByX 59 = .ok (.iconst 0, 1) := by decide +kernel
theorem dX2_multiplyByX_60 : decode cX2_multiplyByX 60 = .ok (.invokestatic 54, 3) := by decide +kernel
theorem dX2_multiplyByX_63 : decode cX2_multiplyByX 63 = .ok (.imul, 1) := by decide +kernel
theorem dX2_multiplyByX_64 : decode cX2_multiplyByX 64 = .ok (.invokestatic 25, 3) := by decide +kernel
theorem dX2_multiplyByX_67 : decode cX2_multiplyByX 67 = .ok (.return_, 1) := by decide +kernel
set_option maxRecDepth 20000 in
theorem ggX2_isZero_X3_at : GoodIn wsX2_isZero wsX3_at := goodIn_r _ [4, 5, 6, 3, 7] (by decide +kernel) (by decide +kernel)
set_option maxRecDepth 20000 in
theorem gX2_isZero_X3_at_n54 : GoodIn wsX2_isZero (wsX3_at) := ggX2_isZero_X3_at
theorem dX2_isZero_0 : decode cX2_isZero 0 = .ok (.iconst 0, 1) := by decide +kernel
theorem dX2_isZero_1 : decode cX2_isZero 1 = .ok (.istore_n 2, 1) := by decide +kernel
theorem dX2_isZero_2 : decode cX2_isZero 2 = .ok (.iload_n 2, 1) := by decide +kernel
theorem dX2_isZero_3 : decode cX2_isZero 3 = .ok (.aload_n 0, 1) := by decide +kernel
theorem dX2_isZero_4 : decode cX2_isZero 4 = .ok (.getfield 51, 3) := by decide +kernel
theorem dX2_isZero_7 : decode cX2_isZero 7 = .ok (.if_icmp .ge 19, 3) := by decide +kernel
theorem dX2_isZero_10 : decode cX2_isZero 10 = .ok (.aload_n 1, 1) := by decide +kernel
theorem dX2_isZero_11 : decode cX2_isZero 11 = .ok (.iload_n 2, 1) := by decide +kernel
theorem dX2_isZero_12 : decode cX2_isZero 12 = .ok (.invokestatic 54, 3) := by decide +kernel
theorem dX2_isZero_15 : decode cX2_isZero 15 = .ok (.ifCond .eq 5, 3) := by decide +kernel
theorem dX2_isZero_18 : decode cX2_isZero 18 = .ok (.iconst 0, 1) := by decide +kernel
theorem dX2_isZero_19 : decode cX2_isZero 19 = .ok (.ireturn, 1) := by decide +kernel
theorem dX2_isZero_20 : decode cX2_isZero 20 = .ok (.iinc 2 1, 3) := by decide +kernel
theorem dX2_isZero_23 : decode cX2_isZero 23 = .ok (.goto (-21), 3) := by decide +kernel
theorem dX2_isZero_26 : decode cX2_isZero 26 = .ok (.iconst 1, 1) := by decide +kernel
theorem dX2_isZero_27 : decode cX2_isZero 27 = .ok (.ireturn, 1) := by decide +kernel
set_option maxRecDepth 20000 in
theorem ggX2_areSame_X3_at : GoodIn wsX2_areSame wsX3_at := goodIn_r _ [4, 5, 6, 3, 7] (by decide +kernel) (by decide +kernel)
set_option maxRecDepth 20000 in
theorem gX2_areSame_X3_at_n54 : GoodIn wsX2_areSame (wsX3_at) := ggX2_areSame_X3_at
theorem dX2_areSame_0 : decode cX2_areSame 0 = .ok (.iconst 0, 1) := by decide +kernel
theorem dX2_areSame_1 : decode cX2_areSame 1 = .ok (.istore_n 3, 1) := by decide +kernel
theorem dX2_areSame_2 : decode cX2_areSame 2 = .ok (.iload_n 3, 1) := by decide +kernel
theorem dX2_areSame_3 : decode cX2_areSame 3 = .ok (.aload_n 0, 1) := by decide +kernel
theorem dX2_areSame_4 : decode cX2_areSame 4 = .ok (.getfield 51, 3) := by decide +kernel
theorem dX2_areSame_7 : decode cX2_areSame 7 = .ok (.if_icmp .ge 24, 3) := by decide +kernel
theorem dX2_areSame_10 : decode cX2_areSame 10 = .ok (.aload_n 1, 1) := by decide +kernel
theorem dX2_areSame_11 : decode cX2_areSame 11 = .ok (.iload_n 3, 1) := by decide +kernel
theorem dX2_areSame_12 : decode cX2_areSame 12 = .ok (.invokestatic 54, 3) := by decide +kernel
theorem dX2_areSame_15 : decode cX2_areSame 15 = .ok (.aload_n 2, 1) := by decide +kernel
theorem dX2_areSame_16 : decode cX2_areSame 16 = .ok (.iload_n 3, 1) := by decide +kernel
theorem dX2_areSame_17 : decode cX2_areSame 17 = .ok (.invokestatic 54, 3) := by decide +kernel
theorem dX2_areSame_20 : decode cX2_areSame 20 = .ok (.if_icmp .eq 5, 3) := by decide +kernel
theorem dX2_areSame_23 : decode cX2_areSame 23 = .ok (.iconst 0, 1) := by decide +kernel
theorem dX2_areSame_24 : decode cX2_areSame 24 = .ok (.ireturn, 1) := by decide +kernel
theorem dX2_areSame_25 : decode cX2_areSame 25 = .ok (.iinc 3 1, 3) := by decide +kernel
theorem dX2_areSame_28 : decode cX2_areSame 28 = .ok (.goto (-26), 3) := by decide +kernel
theorem dX2_areSame_31 : decode cX2_areSame 31 = .ok (.iconst 1, 1) := by decide +kernel
theorem dX2_areSame_32 : decode cX2_areSame 32 = .ok (.ireturn, 1) := by decide +kernel
theorem dJ7_fill_53178_0 : decode cJ7_fill_53178 0 = .ok (.iconst 0, 1) := by decide +kernel
theorem dJ7_fill_53178_1 : decode cJ7_fill_53178 1 = .ok (.istore_n 2, 1) := by decide +kernel
theorem dJ7_fill_53178_2 : decode cJ7_fill_53178 2 = .ok (.aload_n 0, 1) := by decide +kernel
theorem dJ7_fill_53178_3 : decode cJ7_fill_53178 3 = .ok (.arraylength, 1) := by decide +kernel
theorem dJ7_fill_53178_4 : decode cJ7_fill_53178 4 = .ok (.istore_n 3, 1) := by decide +kernel
theorem dJ7_fill_53178_5 : decode cJ7_fill_53178 5 = .ok (.iload_n 2, 1) := by decide +kernel
theorem dJ7_fill_53178_6 : decode cJ7_fill_53178 6 = .ok (.iload_n 3, 1) := by decide +kernel
theorem dJ7_fill_53178_7 : decode cJ7_fill_53178 7 = .ok (.if_icmp .ge 13, 3) := by decide +kernel
theorem dJ7_fill_53178_10 : decode cJ7_fill_53178 10 = .ok (.aload_n 0, 1) := by decide +kernel
theorem dJ7_fill_53178_11 : decode cJ7_fill_53178 11 = .ok (.iload_n 2, 1) := by decide +kernel
theorem dJ7_fill_53178_12 : decode cJ7_fill_53178 12 = .ok (.iload_n 1, 1) := by decide +kernel
theorem dJ7_fill_53178_13 : decode cJ7_fill_53178 13 = .ok (.iastore, 1) := by decide +kernel
theorem dJ7_fill_53178_14 : decode cJ7_fill_53178 14 = .ok (.iinc 2 1, 3) := by decide +kernel
theorem dJ7_fill_53178_17 : decode cJ7_fill_53178 17 = .ok (.goto (-12), 3) := by decide +kernel
theorem dJ7_fill_53178_20 : decode cJ7_fill_53178 20 = .ok (.return_, 1) := by decide +kernel
end
section
set_option maxRecDepth 20000 in
theorem ggX3_init_X1_init : GoodIn wsX3_init wsX1_init := goodIn_r _ [21, 22, 2, 3] (by decide +kernel) (by decide +kernel)
set_option maxRecDepth 20000 in
theorem gX3_init_X1_init_n9 : GoodIn wsX3_init (wsX1_init) := ggX3_init_X1_init
set_option maxRecDepth 20000 in
theorem ggX3_init_X2_init : GoodIn wsX3_init wsX2_init := goodIn_r _ [24, 25, 2, 3, 16, 26, 103, 104, 105] (by decide +kernel) (by decide +kernel)
set_option maxRecDepth 20000 in
theorem gX3_init_X2_init_n18 : GoodIn wsX3_init (wsX2_init) := ggX3_init_X2_init
set_option maxRecDepth 20000 in
theorem ggX3_init_X0_init : GoodIn wsX3_init wsX0_init := goodIn_r _ [28, 29, 2, 3, 16, 30, 31, 106, 107, 108, 109, 110, 111] (by decide +kernel) (by decide +kernel)
set_option maxRecDepth 20000 in
theorem gX3_init_X0_init_n25 : GoodIn wsX3_init (wsX0_init) := ggX3_init_X0_init
set_option maxRecDepth 20000 in
theorem ggX3_init_X3_take : GoodIn wsX3_init wsX3_take := goodIn_r _ [36, 7, 11, 37, 38, 39, 40, 6, 41, 42, 43, 44, 45, 46, 47, 48, 35, 49, 50, 51, 52, 53, 54, 55, 56, 57, 58, 59, 60, 61, 10, 62, 63, 26, 64, 65, 66, 67, 68, 69, 70, 71, 72, 73, 74, 75, 76, 77, 78, 79, 80, 81, 82, 83, 84, 85, 86, 87, 88, 89, 90, 97, 98, 99, 100, 101, 102, 91, 92, 93, 94, 95, 96, 103, 104, 105] (by decide +kernel) (by decide +kernel)
set_option maxRecDepth 20000 in
theorem gX3_init_X3_take : GoodIn wsX3_init (wsV RX3 40 RX3 yX3_take wsX3_take) := goodIn_app (goodIn_of _ (by decide +kernel)) ggX3_init_X3_take
theorem dX3_init_0 : decode cX3_init 0 = .ok (.aload_n 0, 1) := by decide +kernel
theorem dX3_init_1 : decode cX3_init 1 = .ok (.invokespecial 1, 3) := by decide +kernel
theorem dX3_init_4 : decode cX3_init 4 = .ok (.aload_n 0, 1) := by decide +kernel
theorem dX3_init_5 : decode cX3_init 5 = .ok (.new 7, 3) := by decide +kernel
theorem dX3_init_8 : decode cX3_init 8 = .ok (.dup, 1) := by decide +kernel
theorem dX3_init_9 : decode cX3_init 9 = .ok (.invokespecial 9, 3) := by decide +kernel
theorem dX3_init_12 : decode cX3_init 12 = .ok (.putfield 10, 3) := by decide +kernel
theorem dX3_init_15 : decode cX3_init 15 = .ok (.aload_n 0, 1) := by decide +kernel
theorem dX3_init_16 : decode cX3_init 16 = .ok (.new 16, 3) := by decide +kernel
theorem dX3_init_19 : decode cX3_init 19 = .ok (.dup, 1) := by decide +kernel
theorem dX3_init_20 : decode cX3_init 20 = .ok (.invokespecial 18, 3) := by decide +kernel
theorem dX3_init_23 : decode cX3_init 23 = .ok (.putfield 19, 3) := by decide +kernel
theorem dX3_init_26 : decode cX3_init 26 = .ok (.aload_n 0, 1) := by decide +kernel
theorem dX3_init_27 : decode cX3_init 27 = .ok (.new 23, 3) := by decide +kernel
theorem dX3_init_30 : decode cX3_init 30 = .ok (.dup, 1) := by decide +kernel
theorem dX3_init_31 : decode cX3_init 31 = .ok (.invokespecial 25, 3) := by decide +kernel
theorem dX3_init_34 : decode cX3_init 34 = .ok (.putfield 26, 3) := by decide +kernel
theorem dX3_init_37 : decode cX3_init 37 = .ok (.aload_n 0, 1) := by decide +kernel
theorem dX3_init_38 : decode cX3_init 38 = .ok (.bipush 48, 2) := by decide +kernel
theorem dX3_init_40 : decode cX3_init 40 = .ok (.newarray .int, 2) := by decide +kernel
theorem dX3_init_42 : decode cX3_init 42 = .ok (.putfield 30, 3) := by decide +kernel
theorem dX3_init_45 : decode cX3_init 45 = .ok (.aload_n 0, 1) := by decide +kernel
theorem dX3_init_46 : decode cX3_init 46 = .ok (.bipush 48, 2) := by decide +kernel
theorem dX3_init_48 : decode cX3_init 48 = .ok (.newarray .int, 2) := by decide +kernel
theorem dX3_init_50 : decode cX3_init 50 = .ok (.putfield 34, 3) := by decide +kernel
theorem dX3_init_53 : decode cX3_init 53 = .ok (.aload_n 0, 1) := by decide +kernel
theorem dX3_init_54 : decode cX3_init 54 = .ok (.bipush 8, 2) := by decide +kernel
theorem dX3_init_56 : decode cX3_init 56 = .ok (.newarray .int, 2) := by decide +kernel
theorem dX3_init_58 : decode cX3_init 58 = .ok (.putfield 37, 3) := by decide +kernel
theorem dX3_init_61 : decode cX3_init 61 = .ok (.aload_n 0, 1) := by decide +kernel
theorem dX3_init_62 : decode cX3_init 62 = .ok (.bipush 12, 2) := by decide +kernel
theorem dX3_init_64 : decode cX3_init 64 = .ok (.iconst 1, 1) := by decide +kernel
theorem dX3_init_65 : decode cX3_init 65 = .ok (.iconst 3, 1) := by decide +kernel
theorem dX3_init_66 : decode cX3_init 66 = .ok (.iconst 5, 1) := by decide +kernel
theorem dX3_init_67 : decode cX3_init 67 = .ok (.invokevirtual 40, 3) := by decide +kernel
theorem dX3_init_70 : decode cX3_init 70 = .ok (.return_, 1) := by decide +kernel
set_option maxRecDepth 20000 in
theorem ggX3_machine_X3_isWithin : GoodIn wsX3_machine wsX3_isWithin := goodIn_r _ [6] (by decide +kernel) (by decide +kernel)
set_option maxRecDepth 20000 in
theorem gX3_machine_X3_isWithin : GoodIn wsX3_machine (va_wsS RX3 44 yX3_isWithin wsX3_isWithin) := goodIn_app (goodIn_of _ (by decide +kernel)) ggX3_machine_X3_isWithin
set_option maxRecDepth 20000 in
theorem ggX3_machine_X3_poleWidth : GoodIn wsX3_machine wsX3_poleWidth := goodIn_r _ [9, 10, 11, 12, 13, 14, 15, 5, 16] (by decide +kernel) (by decide +kernel)
set_option maxRecDepth 20000 in
theorem gX3_machine_X3_poleWidth : GoodIn wsX3_machine (va_wsS RX3 48 yX3_poleWidth wsX3_poleWidth) := goodIn_app (goodIn_of _ (by decide +kernel)) ggX3_machine_X3_poleWidth
set_option maxRecDepth 20000 in
theorem ggX3_machine_X3_take : GoodIn wsX3_machine wsX3_take := goodIn_r _ [20, 1, 21, 2, 22, 23, 24, 25, 26, 27, 28, 29, 30, 31, 32, 33, 5, 34, 35, 36, 12, 37, 38, 39, 40, 15, 16, 41, 42, 43, 44, 45, 46, 47, 48, 49, 50, 51, 52, 53, 54, 3, 4, 6, 55, 56, 57, 58, 59, 60, 61, 62, 63, 64, 65, 66, 67, 68, 69, 70, 71, 72, 73, 74, 75, 76, 77, 78, 79, 80, 81, 82, 83, 84, 85, 86] (by decide +kernel) (by decide +kernel)
set_option maxRecDepth 20000 in
theorem gX3_machine_X3_take : GoodIn wsX3_machine (wsV RX3 40 RX3 yX3_take wsX3_take) := goodIn_app (goodIn_of _ (by decide +kernel)) ggX3_machine_X3_take
theorem dX3_machine_0 : decode cX3_machine 0 = .ok (.iload_n 1, 1) := by decide +kernel
theorem dX3_machine_1 : decode cX3_machine 1 = .ok (.iconst 3, 1) := by decide +kernel
theorem dX3_machine_2 : decode cX3_machine 2 = .ok (.bipush 48, 2) := by decide +kernel
theorem dX3_machine_4 : decode cX3_machine 4 = .ok (.invokestatic 44, 3) := by decide +kernel
theorem dX3_machine_7 : decode cX3_machine 7 = .ok (.ifCond .eq 23, 3) := by decide +kernel
theorem dX3_machine_10 : decode cX3_machine 10 = .ok (.iload_n 2, 1) := by decide +kernel
theorem dX3_machine_11 : decode cX3_machine 11 = .ok (.iconst 1, 1) := by decide +kernel
theorem dX3_machine_12 : decode cX3_machine 12 = .ok (.bipush 10, 2) := by decide +kernel
theorem dX3_machine_14 : decode cX3_machine 14 = .ok (.invokestatic 44, 3) := by decide +kernel
theorem dX3_machine_17 : decode cX3_machine 17 = .ok (.ifCond .eq 13, 3) := by decide +kernel
theorem dX3_machine_20 : decode cX3_machine 20 = .ok (.iload_n 3, 1) := by decide +kernel
theorem dX3_machine_21 : decode cX3_machine 21 = .ok (.iconst 3, 1) := by decide +kernel
theorem dX3_machine_22 : decode cX3_machine 22 = .ok (.if_icmp .eq 11, 3) := by decide +kernel
theorem dX3_machine_25 : decode cX3_machine 25 = .ok (.iload_n 3, 1) := by decide +kernel
theorem dX3_machine_26 : decode cX3_machine 26 = .ok (.iconst 5, 1) := by decide +kernel
theorem dX3_machine_27 : decode cX3_machine 27 = .ok (.if_icmp .eq 6, 3) := by decide +kernel
theorem dX3_machine_30 : decode cX3_machine 30 = .ok (.bipush (-2), 2) := by decide +kernel
theorem dX3_machine_32 : decode cX3_machine 32 = .ok (.ireturn, 1) := by decide +kernel
theorem dX3_machine_33 : decode cX3_machine 33 = .ok (.aload_n 0, 1) := by decide +kernel
theorem dX3_machine_34 : decode cX3_machine 34 = .ok (.iload_n 1, 1) := by decide +kernel
theorem dX3_machine_35 : decode cX3_machine 35 = .ok (.iload_n 2, 1) := by decide +kernel
theorem dX3_machine_36 : decode cX3_machine 36 = .ok (.iload_n 3, 1) := by decide +kernel
theorem dX3_machine_37 : decode cX3_machine 37 = .ok (.iload_n 1, 1) := by decide +kernel
theorem dX3_machine_38 : decode cX3_machine 38 = .ok (.iload_n 2, 1) := by decide +kernel
theorem dX3_machine_39 : decode cX3_machine 39 = .ok (.invokestatic 48, 3) := by decide +kernel
theorem dX3_machine_42 : decode cX3_machine 42 = .ok (.invokevirtual 40, 3) := by decide +kernel
theorem dX3_machine_45 : decode cX3_machine 45 = .ok (.aload_n 0, 1) := by decide +kernel
theorem dX3_machine_46 : decode cX3_machine 46 = .ok (.getfield 10, 3) := by decide +kernel
theorem dX3_machine_49 : decode cX3_machine 49 = .ok (.getfield 52, 3) := by decide +kernel
theorem dX3_machine_52 : decode cX3_machine 52 = .ok (.ireturn, 1) := by decide +kernel
set_option maxRecDepth 20000 in
theorem ggX3_width_X3_isWithin : GoodIn wsX3_width wsX3_isWithin := goodIn_r _ [7] (by decide +kernel) (by decide +kernel)
set_option maxRecDepth 20000 in
theorem gX3_width_X3_isWithin : GoodIn wsX3_width (va_wsS RX3 44 yX3_isWithin wsX3_isWithin) := goodIn_app (goodIn_of _ (by decide +kernel)) ggX3_width_X3_isWithin
theorem dX3_width_0 : decode cX3_width 0 = .ok (.iload_n 1, 1) := by decide +kernel
theorem dX3_width_1 : decode cX3_width 1 = .ok (.iconst 1, 1) := by decide +kernel
theorem dX3_width_2 : decode cX3_width 2 = .ok (.aload_n 0, 1) := by decide +kernel
theorem dX3_width_3 : decode cX3_width 3 = .ok (.getfield 10, 3) := by decide +kernel
theorem dX3_width_6 : decode cX3_width 6 = .ok (.getfield 56, 3) := by decide +kernel
theorem dX3_width_9 : decode cX3_width 9 = .ok (.iconst 1, 1) := by decide +kernel
theorem dX3_width_10 : decode cX3_width 10 = .ok (.isub, 1) := by decide +kernel
theorem dX3_width_11 : decode cX3_width 11 = .ok (.invokestatic 44, 3) := by decide +kernel
theorem dX3_width_14 : decode cX3_width 14 = .ok (.ifCond .ne 6, 3) := by decide +kernel
theorem dX3_width_17 : decode cX3_width 17 = .ok (.bipush (-2), 2) := by decide +kernel
theorem dX3_width_19 : decode cX3_width 19 = .ok (.ireturn, 1) := by decide +kernel
theorem dX3_width_20 : decode cX3_width 20 = .ok (.aload_n 0, 1) := by decide +kernel
theorem dX3_width_21 : decode cX3_width 21 = .ok (.getfield 10, 3) := by decide +kernel
theorem dX3_width_24 : decode cX3_width 24 = .ok (.getfield 59, 3) := by decide +kernel
theorem dX3_width_27 : decode cX3_width 27 = .ok (.istore_n 2, 1) := by decide +kernel
theorem dX3_width_28 : decode cX3_width 28 = .ok (.aload_n 0, 1) := by decide +kernel
theorem dX3_width_29 : decode cX3_width 29 = .ok (.getfield 10, 3) := by decide +kernel
theorem dX3_width_32 : decode cX3_width 32 = .ok (.iload_n 1, 1) := by decide +kernel
theorem dX3_width_33 : decode cX3_width 33 = .ok (.putfield 59, 3) := by decide +kernel
theorem dX3_width_36 : decode cX3_width 36 = .ok (.iload_n 2, 1) := by decide +kernel
theorem dX3_width_37 : decode cX3_width 37 = .ok (.ireturn, 1) := by decide +kernel
set_option maxRecDepth 20000 in
theorem ggX3_lacking_X1_lackingDivisor : GoodIn wsX3_lacking wsX1_lackingDivisor := goodIn_r _ [6, 7, 8, 9, 10, 11, 12, 13, 14, 15, 16, 17, 18, 19, 20, 27, 28, 29, 30, 31, 32] (by decide +kernel) (by decide +kernel)
set_option maxRecDepth 20000 in
theorem gX3_lacking_X1_lackingDivisor : GoodIn wsX3_lacking (wsV RX3 62 RX1 yX1_lackingDivisor wsX1_lackingDivisor) := goodIn_app (goodIn_of _ (by decide +kernel)) ggX3_lacking_X1_lackingDivisor
theorem dX3_lacking_0 : decode cX3_lacking 0 = .ok (.aload_n 0, 1) := by decide +kernel
theorem dX3_lacking_1 : decode cX3_lacking 1 = .ok (.getfield 10, 3) := by decide +kernel
theorem dX3_lacking_4 : decode cX3_lacking 4 = .ok (.invokevirtual 62, 3) := by decide +kernel
theorem dX3_lacking_7 : decode cX3_lacking 7 = .ok (.ireturn, 1) := by decide +kernel
set_option maxRecDepth 20000 in
theorem ggX3_slot_X3_isSlot : GoodIn wsX3_slot wsX3_isSlot := goodIn_r _ [7, 1, 8, 9, 10, 6, 11, 68, 69, 70, 71, 72, 73, 74, 75, 76, 77, 78, 79] (by decide +kernel) (by decide +kernel)
set_option maxRecDepth 20000 in
theorem gX3_slot_X3_isSlot : GoodIn wsX3_slot (wsV RX3 66 RX3 yX3_isSlot wsX3_isSlot) := goodIn_app (goodIn_of _ (by decide +kernel)) ggX3_slot_X3_isSlot
set_option maxRecDepth 20000 in
theorem ggX3_slot_X3_isWithin : GoodIn wsX3_slot wsX3_isWithin := goodIn_r _ [11] (by decide +kernel) (by decide +kernel)
set_option maxRecDepth 20000 in
theorem gX3_slot_X3_isWithin : GoodIn wsX3_slot (va_wsS RX3 44 yX3_isWithin wsX3_isWithin) := goodIn_app (goodIn_of _ (by decide +kernel)) ggX3_slot_X3_isWithin
set_option maxRecDepth 20000 in
theorem ggX3_slot_X1_isBalanced : GoodIn wsX3_slot wsX1_isBalanced := goodIn_r _ [16, 17, 18, 19, 15, 20, 21, 22, 23, 6, 24, 25, 26, 27, 28, 29, 30, 31, 32, 33, 74, 75, 76, 77, 78, 79] (by decide +kernel) (by decide +kernel)
set_option maxRecDepth 20000 in
theorem gX3_slot_X1_isBalanced : GoodIn wsX3_slot (wsV RX3 70 RX1 yX1_isBalanced wsX1_isBalanced) := goodIn_app (goodIn_of _ (by decide +kernel)) ggX3_slot_X1_isBalanced
set_option maxRecDepth 20000 in
theorem ggX3_slot_X1_turnOf : GoodIn wsX3_slot wsX1_turnOf := goodIn_r _ [37, 38, 39, 40, 30, 6, 31, 32, 33, 74, 75, 76, 77, 78, 79] (by decide +kernel) (by decide +kernel)
set_option maxRecDepth 20000 in
theorem gX3_slot_X1_turnOf : GoodIn wsX3_slot (wsV RX3 74 RX1 yX1_turnOf wsX1_turnOf) := goodIn_app (goodIn_of _ (by decide +kernel)) ggX3_slot_X1_turnOf
set_option maxRecDepth 20000 in
theorem ggX3_slot_X1_copyOf : GoodIn wsX3_slot wsX1_copyOf := goodIn_r _ [44, 22, 32, 6, 33, 74, 75, 76, 77, 78, 79] (by decide +kernel) (by decide +kernel)
set_option maxRecDepth 20000 in
theorem gX3_slot_X1_copyOf : GoodIn wsX3_slot (wsV RX3 78 RX1 yX1_copyOf wsX1_copyOf) := goodIn_app (goodIn_of _ (by decide +kernel)) ggX3_slot_X1_copyOf
set_option maxRecDepth 20000 in
theorem ggX3_slot_X1_zoneOf : GoodIn wsX3_slot wsX1_zoneOf := goodIn_r _ [48, 21, 22, 49, 35, 36, 15, 37, 38, 39, 40, 30, 6, 31, 32, 33, 74, 75, 76, 77, 78, 79] (by decide +kernel) (by decide +kernel)
set_option maxRecDepth 20000 in
theorem gX3_slot_X1_zoneOf : GoodIn wsX3_slot (wsV RX3 81 RX1 yX1_zoneOf wsX1_zoneOf) := goodIn_app (goodIn_of _ (by decide +kernel)) ggX3_slot_X1_zoneOf
set_option maxRecDepth 20000 in
theorem ggX3_slot_X1_phaseOf : GoodIn wsX3_slot wsX1_phaseOf := goodIn_r _ [53, 21, 54, 46, 47, 15, 48, 22, 49, 35, 36, 37, 38, 39, 40, 30, 6, 31, 32, 33, 74, 75, 76, 77, 78, 79] (by decide +kernel) (by decide +kernel)
set_option maxRecDepth 20000 in
theorem gX3_slot_X1_phaseOf : GoodIn wsX3_slot (wsV RX3 84 RX1 yX1_phaseOf wsX1_phaseOf) := goodIn_app (goodIn_of _ (by decide +kernel)) ggX3_slot_X1_phaseOf
set_option maxRecDepth 20000 in
theorem ggX3_slot_X1_isForward : GoodIn wsX3_slot wsX1_isForward := goodIn_r _ [58, 54, 46, 47, 15, 48, 21, 22, 49, 35, 36, 37, 38, 39, 40, 30, 6, 31, 32, 33, 74, 75, 76, 77, 78, 79] (by decide +kernel) (by decide +kernel)
set_option maxRecDepth 20000 in
theorem gX3_slot_X1_isForward : GoodIn wsX3_slot (wsV RX3 87 RX1 yX1_isForward wsX1_isForward) := goodIn_app (goodIn_of _ (by decide +kernel)) ggX3_slot_X1_isForward
set_option maxRecDepth 20000 in
theorem ggX3_slot_X1_endOf : GoodIn wsX3_slot wsX1_endOf := goodIn_r _ [62, 39, 30, 6, 31, 74, 75, 76, 77, 78, 79] (by decide +kernel) (by decide +kernel)
set_option maxRecDepth 20000 in
theorem gX3_slot_X1_endOf : GoodIn wsX3_slot (wsV RX3 90 RX1 yX1_endOf wsX1_endOf) := goodIn_app (goodIn_of _ (by decide +kernel)) ggX3_slot_X1_endOf
set_option maxRecDepth 20000 in
theorem ggX3_slot_X1_coilEndingIn : GoodIn wsX3_slot wsX1_coilEndingIn := goodIn_r _ [66, 67, 39, 30, 6, 31, 74, 75, 76, 77, 78, 79] (by decide +kernel) (by decide +kernel)
set_option maxRecDepth 20000 in
theorem gX3_slot_X1_coilEndingIn : GoodIn wsX3_slot (wsV RX3 93 RX1 yX1_coilEndingIn wsX1_coilEndingIn) := goodIn_app (goodIn_of _ (by decide +kernel)) ggX3_slot_X1_coilEndingIn
theorem dX3_slot_0 : decode cX3_slot 0 = .ok (.aload_n 0, 1) := by decide +kernel
theorem dX3_slot_1 : decode cX3_slot 1 = .ok (.iload_n 1, 1) := by decide +kernel
theorem dX3_slot_2 : decode cX3_slot 2 = .ok (.invokevirtual 66, 3) := by decide +kernel
theorem dX3_slot_5 : decode cX3_slot 5 = .ok (.ifCond .ne 5, 3) := by decide +kernel
theorem dX3_slot_8 : decode cX3_slot 8 = .ok (.iconst (-1), 1) := by decide +kernel
theorem dX3_slot_9 : decode cX3_slot 9 = .ok (.ireturn, 1) := by decide +kernel
theorem dX3_slot_10 : decode cX3_slot 10 = .ok (.iload_n 2, 1) := by decide +kernel
theorem dX3_slot_11 : decode cX3_slot 11 = .ok (.iconst 0, 1) := by decide +kernel
theorem dX3_slot_12 : decode cX3_slot 12 = .ok (.bipush 6, 2) := by decide +kernel
theorem dX3_slot_14 : decode cX3_slot 14 = .ok (.invokestatic 44, 3) := by decide +kernel
theorem dX3_slot_17 : decode cX3_slot 17 = .ok (.ifCond .ne 6, 3) := by decide +kernel
theorem dX3_slot_20 : decode cX3_slot 20 = .ok (.bipush (-2), 2) := by decide +kernel
theorem dX3_slot_22 : decode cX3_slot 22 = .ok (.ireturn, 1) := by decide +kernel
theorem dX3_slot_23 : decode cX3_slot 23 = .ok (.iload_n 2, 1) := by decide +kernel
theorem dX3_slot_24 : decode cX3_slot 24 = .ok (.iconst 2, 1) := by decide +kernel
theorem dX3_slot_25 : decode cX3_slot 25 = .ok (.iconst 4, 1) := by decide +kernel
theorem dX3_slot_26 : decode cX3_slot 26 = .ok (.invokestatic 44, 3) := by decide +kernel
theorem dX3_slot_29 : decode cX3_slot 29 = .ok (.ifCond .eq 16, 3) := by decide +kernel
theorem dX3_slot_32 : decode cX3_slot 32 = .ok (.aload_n 0, 1) := by decide +kernel
theorem dX3_slot_33 : decode cX3_slot 33 = .ok (.getfield 10, 3) := by decide +kernel
theorem dX3_slot_36 : decode cX3_slot 36 = .ok (.invokevirtual 70, 3) := by decide +kernel
theorem dX3_slot_39 : decode cX3_slot 39 = .ok (.ifCond .ne 6, 3) := by decide +kernel
theorem dX3_slot_42 : decode cX3_slot 42 = .ok (.bipush (-3), 2) := by decide +kernel
theorem dX3_slot_44 : decode cX3_slot 44 = .ok (.ireturn, 1) := by decide +kernel
theorem dX3_slot_45 : decode cX3_slot 45 = .ok (.iload_n 2, 1) := by decide +kernel
theorem dX3_slot_46 : decode cX3_slot 46 = .ok (.tableswitch 107 0 5 #[38, 47, 56, 65, 74, 91], 38) := by decide +kernel
theorem dX3_slot_84 : decode cX3_slot 84 = .ok (.aload_n 0, 1) := by decide +kernel
theorem dX3_slot_85 : decode cX3_slot 85 = .ok (.getfield 10, 3) := by decide +kernel
theorem dX3_slot_88 : decode cX3_slot 88 = .ok (.iload_n 1, 1) := by decide +kernel
theorem dX3_slot_89 : decode cX3_slot 89 = .ok (.invokevirtual 74, 3) := by decide +kernel
theorem dX3_slot_92 : decode cX3_slot 92 = .ok (.ireturn, 1) := by decide +kernel
theorem dX3_slot_93 : decode cX3_slot 93 = .ok (.aload_n 0, 1) := by decide +kernel
theorem dX3_slot_94 : decode cX3_slot 94 = .ok (.getfield 10, 3) := by decide +kernel
theorem dX3_slot_97 : decode cX3_slot 97 = .ok (.iload_n 1, 1) := by decide +kernel
theorem dX3_slot_98 : decode cX3_slot 98 = .ok (.invokevirtual 78, 3) := by decide +kernel
theorem dX3_slot_101 : decode cX3_slot 101 = .ok (.ireturn, 1) := by decide +kernel
theorem dX3_slot_102 : decode cX3_slot 102 = .ok (.aload_n 0, 1) := by decide +kernel
theorem dX3_slot_103 : decode cX3_slot 103 = .ok (.getfield 10, 3) := by decide +kernel
theorem dX3_slot_106 : decode cX3_slot 106 = .ok (.iload_n 1, 1) := by decide +kernel
theorem dX3_slot_107 : decode cX3_slot 107 = .ok (.invokevirtual 81, 3) := by decide +kernel
theorem dX3_slot_110 : decode cX3_slot 110 = .ok (.ireturn, 1) := by decide +kernel
theorem dX3_slot_111 : decode cX3_slot 111 = .ok (.aload_n 0, 1) := by decide +kernel
theorem dX3_slot_112 : decode cX3_slot 112 = .ok (.getfield 10, 3) := by decide +kernel
theorem dX3_slot_115 : decode cX3_slot 115 = .ok (.iload_n 1, 1) := by decide +kernel
theorem dX3_slot_116 : decode cX3_slot 116 = .ok (.invokevirtual 84, 3) := by decide +kernel
theorem dX3_slot_119 : decode cX3_slot 119 = .ok (.ireturn, 1) := by decide +kernel
theorem dX3_slot_120 : decode cX3_slot 120 = .ok (.aload_n 0, 1) := by decide +kernel
theorem dX3_slot_121 : decode cX3_slot 121 = .ok (.getfield 10, 3) := by decide +kernel
theorem dX3_slot_124 : decode cX3_slot 124 = .ok (.iload_n 1, 1) := by decide +kernel
theorem dX3_slot_125 : decode cX3_slot 125 = .ok (.invokevirtual 87, 3) := by decide +kernel
theorem dX3_slot_128 : decode cX3_slot 128 = .ok (.ifCond .eq 7, 3) := by decide +kernel
theorem dX3_slot_131 : decode cX3_slot 131 = .ok (.iconst 1, 1) := by decide +kernel
theorem dX3_slot_132 : decode cX3_slot 132 = .ok (.goto 4, 3) := by decide +kernel
theorem dX3_slot_135 : decode cX3_slot 135 = .ok (.iconst 0, 1) := by decide +kernel
theorem dX3_slot_136 : decode cX3_slot 136 = .ok (.ireturn, 1) := by decide +kernel
theorem dX3_slot_137 : decode cX3_slot 137 = .ok (.aload_n 0, 1) := by decide +kernel
theorem dX3_slot_138 : decode cX3_slot 138 = .ok (.getfield 10, 3) := by decide +kernel
theorem dX3_slot_141 : decode cX3_slot 141 = .ok (.iload_n 1, 1) := by decide +kernel
theorem dX3_slot_142 : decode cX3_slot 142 = .ok (.aload_n 0, 1) := by decide +kernel
theorem dX3_slot_143 : decode cX3_slot 143 = .ok (.getfield 10, 3) := by decide +kernel
theorem dX3_slot_146 : decode cX3_slot 146 = .ok (.getfield 59, 3) := by decide +kernel
theorem dX3_slot_149 : decode cX3_slot 149 = .ok (.invokevirtual 90, 3) := by decide +kernel
theorem dX3_slot_152 : decode cX3_slot 152 = .ok (.ireturn, 1) := by decide +kernel
theorem dX3_slot_153 : decode cX3_slot 153 = .ok (.aload_n 0, 1) := by decide +kernel
theorem dX3_slot_154 : decode cX3_slot 154 = .ok (.getfield 10, 3) := by decide +kernel
theorem dX3_slot_157 : decode cX3_slot 157 = .ok (.iload_n 1, 1) := by decide +kernel
theorem dX3_slot_158 : decode cX3_slot 158 = .ok (.invokevirtual 93, 3) := by decide +kernel
theorem dX3_slot_161 : decode cX3_slot 161 = .ok (.ireturn, 1) := by decide +kernel
set_option maxRecDepth 20000 in
theorem ggX3_phase_X3_isPhase : GoodIn wsX3_phase wsX3_isPhase := goodIn_r _ [6, 1, 7, 8, 9, 5, 10, 56, 57, 58, 59, 60, 61, 62, 63, 64, 65, 66, 67] (by decide +kernel) (by decide +kernel)
set_option maxRecDepth 20000 in
theorem gX3_phase_X3_isPhase : GoodIn wsX3_phase (wsV RX3 96 RX3 yX3_isPhase wsX3_isPhase) := goodIn_app (goodIn_of _ (by decide +kernel)) ggX3_phase_X3_isPhase
set_option maxRecDepth 20000 in
theorem ggX3_phase_X3_isWithin : GoodIn wsX3_phase wsX3_isWithin := goodIn_r _ [10] (by decide +kernel) (by decide +kernel)
set_option maxRecDepth 20000 in
theorem gX3_phase_X3_isWithin : GoodIn wsX3_phase (va_wsS RX3 44 yX3_isWithin wsX3_isWithin) := goodIn_app (goodIn_of _ (by decide +kernel)) ggX3_phase_X3_isWithin
set_option maxRecDepth 20000 in
theorem ggX3_phase_X1_isBalanced : GoodIn wsX3_phase wsX1_isBalanced := goodIn_r _ [15, 16, 17, 18, 14, 19, 20, 21, 22, 5, 23, 24, 25, 26, 27, 28, 29, 30, 31, 32, 62, 63, 64, 65, 66, 67] (by decide +kernel) (by decide +kernel)
set_option maxRecDepth 20000 in
theorem gX3_phase_X1_isBalanced : GoodIn wsX3_phase (wsV RX3 70 RX1 yX1_isBalanced wsX1_isBalanced) := goodIn_app (goodIn_of _ (by decide +kernel)) ggX3_phase_X1_isBalanced
set_option maxRecDepth 20000 in
theorem ggX3_phase_X1_countSides : GoodIn wsX3_phase wsX1_countSides := goodIn_r _ [36, 37, 38, 39, 40, 14, 41, 20, 42, 43, 44, 45, 21, 46, 47, 48, 49, 50, 51, 29, 5, 30, 31, 32, 52, 53, 54, 55, 62, 63, 64, 65, 66, 67] (by decide +kernel) (by decide +kernel)
set_option maxRecDepth 20000 in
theorem gX3_phase_X1_countSides : GoodIn wsX3_phase (wsV RX3 99 RX1 yX1_countSides wsX1_countSides) := goodIn_app (goodIn_of _ (by decide +kernel)) ggX3_phase_X1_countSides
theorem dX3_phase_0 : decode cX3_phase 0 = .ok (.aload_n 0, 1) := by decide +kernel
theorem dX3_phase_1 : decode cX3_phase 1 = .ok (.iload_n 1, 1) := by decide +kernel
theorem dX3_phase_2 : decode cX3_phase 2 = .ok (.invokevirtual 96, 3) := by decide +kernel
theorem dX3_phase_5 : decode cX3_phase 5 = .ok (.ifCond .ne 5, 3) := by decide +kernel
theorem dX3_phase_8 : decode cX3_phase 8 = .ok (.iconst (-1), 1) := by decide +kernel
theorem dX3_phase_9 : decode cX3_phase 9 = .ok (.ireturn, 1) := by decide +kernel
theorem dX3_phase_10 : decode cX3_phase 10 = .ok (.iload_n 2, 1) := by decide +kernel
theorem dX3_phase_11 : decode cX3_phase 11 = .ok (.iconst 0, 1) := by decide +kernel
theorem dX3_phase_12 : decode cX3_phase 12 = .ok (.iconst 2, 1) := by decide +kernel
theorem dX3_phase_13 : decode cX3_phase 13 = .ok (.invokestatic 44, 3) := by decide +kernel
theorem dX3_phase_16 : decode cX3_phase 16 = .ok (.ifCond .ne 6, 3) := by decide +kernel
theorem dX3_phase_19 : decode cX3_phase 19 = .ok (.bipush (-2), 2) := by decide +kernel
theorem dX3_phase_21 : decode cX3_phase 21 = .ok (.ireturn, 1) := by decide +kernel
theorem dX3_phase_22 : decode cX3_phase 22 = .ok (.aload_n 0, 1) := by decide +kernel
theorem dX3_phase_23 : decode cX3_phase 23 = .ok (.getfield 10, 3) := by decide +kernel
theorem dX3_phase_26 : decode cX3_phase 26 = .ok (.invokevirtual 70, 3) := by decide +kernel
theorem dX3_phase_29 : decode cX3_phase 29 = .ok (.ifCond .ne 6, 3) := by decide +kernel
theorem dX3_phase_32 : decode cX3_phase 32 = .ok (.bipush (-3), 2) := by decide +kernel
theorem dX3_phase_34 : decode cX3_phase 34 = .ok (.ireturn, 1) := by decide +kernel
theorem dX3_phase_35 : decode cX3_phase 35 = .ok (.iload_n 2, 1) := by decide +kernel
theorem dX3_phase_36 : decode cX3_phase 36 = .ok (.lookupswitch 58 #[(0, 28), (1, 48)], 28) := by decide +kernel
theorem dX3_phase_64 : decode cX3_phase 64 = .ok (.aload_n 0, 1) := by decide +kernel
theorem dX3_phase_65 : decode cX3_phase 65 = .ok (.getfield 10, 3) := by decide +kernel
theorem dX3_phase_68 : decode cX3_phase 68 = .ok (.iload_n 1, 1) := by decide +kernel
theorem dX3_phase_69 : decode cX3_phase 69 = .ok (.iconst 1, 1) := by decide +kernel
theorem dX3_phase_70 : decode cX3_phase 70 = .ok (.invokevirtual 99, 3) := by decide +kernel
theorem dX3_phase_73 : decode cX3_phase 73 = .ok (.aload_n 0, 1) := by decide +kernel
theorem dX3_phase_74 : decode cX3_phase 74 = .ok (.getfield 10, 3) := by decide +kernel
theorem dX3_phase_77 : decode cX3_phase 77 = .ok (.iload_n 1, 1) := by decide +kernel
theorem dX3_phase_78 : decode cX3_phase 78 = .ok (.iconst 0, 1) := by decide +kernel
theorem dX3_phase_79 : decode cX3_phase 79 = .ok (.invokevirtual 99, 3) := by decide +kernel
theorem dX3_phase_82 : decode cX3_phase 82 = .ok (.iadd, 1) := by decide +kernel
theorem dX3_phase_83 : decode cX3_phase 83 = .ok (.ireturn, 1) := by decide +kernel
theorem dX3_phase_84 : decode cX3_phase 84 = .ok (.aload_n 0, 1) := by decide +kernel
theorem dX3_phase_85 : decode cX3_phase 85 = .ok (.getfield 10, 3) := by decide +kernel
theorem dX3_phase_88 : decode cX3_phase 88 = .ok (.iload_n 1, 1) := by decide +kernel
theorem dX3_phase_89 : decode cX3_phase 89 = .ok (.iconst 1, 1) := by decide +kernel
theorem dX3_phase_90 : decode cX3_phase 90 = .ok (.invokevirtual 99, 3) := by decide +kernel
theorem dX3_phase_93 : decode cX3_phase 93 = .ok (.ireturn, 1) := by decide +kernel
theorem dX3_phase_94 : decode cX3_phase 94 = .ok (.aload_n 0, 1) := by decide +kernel
theorem dX3_phase_95 : decode cX3_phase 95 = .ok (.getfield 10, 3) := by decide +kernel
theorem dX3_phase_98 : decode cX3_phase 98 = .ok (.iload_n 1, 1) := by decide +kernel
theorem dX3_phase_99 : decode cX3_phase 99 = .ok (.iconst 0, 1) := by decide +kernel
theorem dX3_phase_100 : decode cX3_phase 100 = .ok (.invokevirtual 99, 3) := by decide +kernel
theorem dX3_phase_103 : decode cX3_phase 103 = .ok (.ireturn, 1) := by decide +kernel
set_option maxRecDepth 20000 in
theorem ggX3_layer_X3_isSlot : GoodIn wsX3_layer wsX3_isSlot := goodIn_r _ [6, 1, 7, 8, 9, 5, 10, 57, 58, 59, 60, 61, 62, 63, 64, 65, 66, 67, 68] (by decide +kernel) (by decide +kernel)
set_option maxRecDepth 20000 in
theorem gX3_layer_X3_isSlot : GoodIn wsX3_layer (wsV RX3 66 RX3 yX3_isSlot wsX3_isSlot) := goodIn_app (goodIn_of _ (by decide +kernel)) ggX3_layer_X3_isSlot
set_option maxRecDepth 20000 in
theorem ggX3_layer_X3_isWithin : GoodIn wsX3_layer wsX3_isWithin := goodIn_r _ [10] (by decide +kernel) (by decide +kernel)
set_option maxRecDepth 20000 in
theorem gX3_layer_X3_isWithin : GoodIn wsX3_layer (va_wsS RX3 44 yX3_isWithin wsX3_isWithin) := goodIn_app (goodIn_of _ (by decide +kernel)) ggX3_layer_X3_isWithin
set_option maxRecDepth 20000 in
theorem ggX3_layer_X1_isBalanced : GoodIn wsX3_layer wsX1_isBalanced := goodIn_r _ [15, 16, 17, 18, 14, 19, 20, 21, 22, 5, 23, 24, 25, 26, 27, 28, 29, 30, 31, 32, 63, 64, 65, 66, 67, 68] (by decide +kernel) (by decide +kernel)
set_option maxRecDepth 20000 in
theorem gX3_layer_X1_isBalanced : GoodIn wsX3_layer (wsV RX3 70 RX1 yX1_isBalanced wsX1_isBalanced) := goodIn_app (goodIn_of _ (by decide +kernel)) ggX3_layer_X1_isBalanced
set_option maxRecDepth 20000 in
theorem ggX3_layer_X1_coilEndingIn : GoodIn wsX3_layer wsX1_coilEndingIn := goodIn_r _ [36, 37, 38, 29, 5, 30, 63, 64, 65, 66, 67, 68] (by decide +kernel) (by decide +kernel)
set_option maxRecDepth 20000 in
theorem gX3_layer_X1_coilEndingIn : GoodIn wsX3_layer (wsV RX3 93 RX1 yX1_coilEndingIn wsX1_coilEndingIn) := goodIn_app (goodIn_of _ (by decide +kernel)) ggX3_layer_X1_coilEndingIn
set_option maxRecDepth 20000 in
theorem ggX3_layer_X1_isForward : GoodIn wsX3_layer wsX1_isForward := goodIn_r _ [42, 43, 44, 45, 14, 46, 20, 21, 47, 48, 49, 50, 51, 38, 52, 29, 5, 30, 31, 32, 63, 64, 65, 66, 67, 68] (by decide +kernel) (by decide +kernel)
set_option maxRecDepth 20000 in
theorem gX3_layer_X1_isForward : GoodIn wsX3_layer (wsV RX3 87 RX1 yX1_isForward wsX1_isForward) := goodIn_app (goodIn_of _ (by decide +kernel)) ggX3_layer_X1_isForward
set_option maxRecDepth 20000 in
theorem ggX3_layer_X1_phaseOf : GoodIn wsX3_layer wsX1_phaseOf := goodIn_r _ [56, 20, 43, 44, 45, 14, 46, 21, 47, 48, 49, 50, 51, 38, 52, 29, 5, 30, 31, 32, 63, 64, 65, 66, 67, 68] (by decide +kernel) (by decide +kernel)
set_option maxRecDepth 20000 in
theorem gX3_layer_X1_phaseOf : GoodIn wsX3_layer (wsV RX3 84 RX1 yX1_phaseOf wsX1_phaseOf) := goodIn_app (goodIn_of _ (by decide +kernel)) ggX3_layer_X1_phaseOf
theorem dX3_layer_0 : decode cX3_layer 0 = .ok (.aload_n 0, 1) := by decide +kernel
theorem dX3_layer_1 : decode cX3_layer 1 = .ok (.iload_n 1, 1) := by decide +kernel
theorem dX3_layer_2 : decode cX3_layer 2 = .ok (.invokevirtual 66, 3) := by decide +kernel
theorem dX3_layer_5 : decode cX3_layer 5 = .ok (.ifCond .ne 5, 3) := by decide +kernel
theorem dX3_layer_8 : decode cX3_layer 8 = .ok (.iconst (-1), 1) := by decide +kernel
theorem dX3_layer_9 : decode cX3_layer 9 = .ok (.ireturn, 1) := by decide +kernel
theorem dX3_layer_10 : decode cX3_layer 10 = .ok (.iload_n 2, 1) := by decide +kernel
theorem dX3_layer_11 : decode cX3_layer 11 = .ok (.iconst 0, 1) := by decide +kernel
theorem dX3_layer_12 : decode cX3_layer 12 = .ok (.iconst 1, 1) := by decide +kernel
theorem dX3_layer_13 : decode cX3_layer 13 = .ok (.invokestatic 44, 3) := by decide +kernel
theorem dX3_layer_16 : decode cX3_layer 16 = .ok (.ifCond .ne 6, 3) := by decide +kernel
theorem dX3_layer_19 : decode cX3_layer 19 = .ok (.bipush (-2), 2) := by decide +kernel
theorem dX3_layer_21 : decode cX3_layer 21 = .ok (.ireturn, 1) := by decide +kernel
theorem dX3_layer_22 : decode cX3_layer 22 = .ok (.aload_n 0, 1) := by decide +kernel
theorem dX3_layer_23 : decode cX3_layer 23 = .ok (.getfield 10, 3) := by decide +kernel
theorem dX3_layer_26 : decode cX3_layer 26 = .ok (.invokevirtual 70, 3) := by decide +kernel
theorem dX3_layer_29 : decode cX3_layer 29 = .ok (.ifCond .ne 6, 3) := by decide +kernel
theorem dX3_layer_32 : decode cX3_layer 32 = .ok (.bipush (-3), 2) := by decide +kernel
theorem dX3_layer_34 : decode cX3_layer 34 = .ok (.ireturn, 1) := by decide +kernel
theorem dX3_layer_35 : decode cX3_layer 35 = .ok (.iload_n 2, 1) := by decide +kernel
theorem dX3_layer_36 : decode cX3_layer 36 = .ok (.ifCond .ne 7, 3) := by decide +kernel
theorem dX3_layer_39 : decode cX3_layer 39 = .ok (.iconst 1, 1) := by decide +kernel
theorem dX3_layer_40 : decode cX3_layer 40 = .ok (.goto 4, 3) := by decide +kernel
theorem dX3_layer_43 : decode cX3_layer 43 = .ok (.iconst 0, 1) := by decide +kernel
theorem dX3_layer_44 : decode cX3_layer 44 = .ok (.istore_n 3, 1) := by decide +kernel
theorem dX3_layer_45 : decode cX3_layer 45 = .ok (.iload_n 3, 1) := by decide +kernel
theorem dX3_layer_46 : decode cX3_layer 46 = .ok (.ifCond .eq 7, 3) := by decide +kernel
theorem dX3_layer_49 : decode cX3_layer 49 = .ok (.iload_n 1, 1) := by decide +kernel
theorem dX3_layer_50 : decode cX3_layer 50 = .ok (.goto 11, 3) := by decide +kernel
theorem dX3_layer_53 : decode cX3_layer 53 = .ok (.aload_n 0, 1) := by decide +kernel
theorem dX3_layer_54 : decode cX3_layer 54 = .ok (.getfield 10, 3) := by decide +kernel
theorem dX3_layer_57 : decode cX3_layer 57 = .ok (.iload_n 1, 1) := by decide +kernel
theorem dX3_layer_58 : decode cX3_layer 58 = .ok (.invokevirtual 93, 3) := by decide +kernel
theorem dX3_layer_61 : decode cX3_layer 61 = .ok (.istore 4, 2) := by decide +kernel
theorem dX3_layer_63 : decode cX3_layer 63 = .ok (.aload_n 0, 1) := by decide +kernel
theorem dX3_layer_64 : decode cX3_layer 64 = .ok (.getfield 10, 3) := by decide +kernel
theorem dX3_layer_67 : decode cX3_layer 67 = .ok (.iload 4, 2) := by decide +kernel
theorem dX3_layer_69 : decode cX3_layer 69 = .ok (.invokevirtual 87, 3) := by decide +kernel
theorem dX3_layer_72 : decode cX3_layer 72 = .ok (.iload_n 3, 1) := by decide +kernel
theorem dX3_layer_73 : decode cX3_layer 73 = .ok (.if_icmp .ne 7, 3) := by decide +kernel
theorem dX3_layer_76 : decode cX3_layer 76 = .ok (.iconst 1, 1) := by decide +kernel
theorem dX3_layer_77 : decode cX3_layer 77 = .ok (.goto 4, 3) := by decide +kernel
theorem dX3_layer_80 : decode cX3_layer 80 = .ok (.iconst 0, 1) := by decide +kernel
theorem dX3_layer_81 : decode cX3_layer 81 = .ok (.istore 5, 2) := by decide +kernel
theorem dX3_layer_83 : decode cX3_layer 83 = .ok (.bipush 10, 2) := by decide +kernel
theorem dX3_layer_85 : decode cX3_layer 85 = .ok (.aload_n 0, 1) := by decide +kernel
theorem dX3_layer_86 : decode cX3_layer 86 = .ok (.getfield 10, 3) := by decide +kernel
theorem dX3_layer_89 : decode cX3_layer 89 = .ok (.iload 4, 2) := by decide +kernel
theorem dX3_layer_91 : decode cX3_layer 91 = .ok (.invokevirtual 84, 3) := by decide +kernel
theorem dX3_layer_94 : decode cX3_layer 94 = .ok (.imul, 1) := by decide +kernel
theorem dX3_layer_95 : decode cX3_layer 95 = .ok (.iload 5, 2) := by decide +kernel
theorem dX3_layer_97 : decode cX3_layer 97 = .ok (.ifCond .eq 7, 3) := by decide +kernel
theorem dX3_layer_100 : decode cX3_layer 100 = .ok (.iconst 1, 1) := by decide +kernel
theorem dX3_layer_101 : decode cX3_layer 101 = .ok (.goto 4, 3) := by decide +kernel
theorem dX3_layer_104 : decode cX3_layer 104 = .ok (.iconst 0, 1) := by decide +kernel
theorem dX3_layer_105 : decode cX3_layer 105 = .ok (.iadd, 1) := by decide +kernel
theorem dX3_layer_106 : decode cX3_layer 106 = .ok (.ireturn, 1) := by decide +kernel
set_option maxRecDepth 20000 in
theorem ggX3_each_X3_isWithin : GoodIn wsX3_each wsX3_isWithin := goodIn_r _ [8] (by decide +kernel) (by decide +kernel)
set_option maxRecDepth 20000 in
theorem gX3_each_X3_isWithin : GoodIn wsX3_each (va_wsS RX3 44 yX3_isWithin wsX3_isWithin) := goodIn_app (goodIn_of _ (by decide +kernel)) ggX3_each_X3_isWithin
set_option maxRecDepth 20000 in
theorem ggX3_each_X3_commonDivisor : GoodIn wsX3_each wsX3_commonDivisor := goodIn_r _ [11, 12, 13, 14, 15, 16, 17, 7, 18] (by decide +kernel) (by decide +kernel)
set_option maxRecDepth 20000 in
theorem gX3_each_X3_commonDivisor : GoodIn wsX3_each (va_wsS RX3 109 yX3_commonDivisor wsX3_commonDivisor) := goodIn_app (goodIn_of _ (by decide +kernel)) ggX3_each_X3_commonDivisor
set_option maxRecDepth 20000 in
theorem ggX3_each_X3_cut : GoodIn wsX3_each wsX3_cut := goodIn_r _ [21] (by decide +kernel) (by decide +kernel)
set_option maxRecDepth 20000 in
theorem gX3_each_X3_cut : GoodIn wsX3_each (va_wsS RX3 112 yX3_cut wsX3_cut) := goodIn_app (goodIn_of _ (by decide +kernel)) ggX3_each_X3_cut
theorem dX3_each_0 : decode cX3_each 0 = .ok (.iload_n 1, 1) := by decide +kernel
theorem dX3_each_1 : decode cX3_each 1 = .ok (.iconst 0, 1) := by decide +kernel
theorem dX3_each_2 : decode cX3_each 2 = .ok (.iconst 1, 1) := by decide +kernel
theorem dX3_each_3 : decode cX3_each 3 = .ok (.invokestatic 44, 3) := by decide +kernel
theorem dX3_each_6 : decode cX3_each 6 = .ok (.ifCond .ne 6, 3) := by decide +kernel
theorem dX3_each_9 : decode cX3_each 9 = .ok (.bipush (-2), 2) := by decide +kernel
theorem dX3_each_11 : decode cX3_each 11 = .ok (.ireturn, 1) := by decide +kernel
theorem dX3_each_12 : decode cX3_each 12 = .ok (.iconst 2, 1) := by decide +kernel
theorem dX3_each_13 : decode cX3_each 13 = .ok (.aload_n 0, 1) := by decide +kernel
theorem dX3_each_14 : decode cX3_each 14 = .ok (.getfield 10, 3) := by decide +kernel
theorem dX3_each_17 : decode cX3_each 17 = .ok (.getfield 103, 3) := by decide +kernel
theorem dX3_each_20 : decode cX3_each 20 = .ok (.imul, 1) := by decide +kernel
theorem dX3_each_21 : decode cX3_each 21 = .ok (.aload_n 0, 1) := by decide +kernel
theorem dX3_each_22 : decode cX3_each 22 = .ok (.getfield 10, 3) := by decide +kernel
theorem dX3_each_25 : decode cX3_each 25 = .ok (.getfield 106, 3) := by decide +kernel
theorem dX3_each_28 : decode cX3_each 28 = .ok (.imul, 1) := by decide +kernel
theorem dX3_each_29 : decode cX3_each 29 = .ok (.istore_n 2, 1) := by decide +kernel
theorem dX3_each_30 : decode cX3_each 30 = .ok (.aload_n 0, 1) := by decide +kernel
theorem dX3_each_31 : decode cX3_each 31 = .ok (.getfield 10, 3) := by decide +kernel
theorem dX3_each_34 : decode cX3_each 34 = .ok (.getfield 56, 3) := by decide +kernel
theorem dX3_each_37 : decode cX3_each 37 = .ok (.iload_n 2, 1) := by decide +kernel
theorem dX3_each_38 : decode cX3_each 38 = .ok (.invokestatic 109, 3) := by decide +kernel
theorem dX3_each_41 : decode cX3_each 41 = .ok (.istore_n 3, 1) := by decide +kernel
theorem dX3_each_42 : decode cX3_each 42 = .ok (.iload_n 1, 1) := by decide +kernel
theorem dX3_each_43 : decode cX3_each 43 = .ok (.ifCond .ne 17, 3) := by decide +kernel
theorem dX3_each_46 : decode cX3_each 46 = .ok (.aload_n 0, 1) := by decide +kernel
theorem dX3_each_47 : decode cX3_each 47 = .ok (.getfield 10, 3) := by decide +kernel
theorem dX3_each_50 : decode cX3_each 50 = .ok (.getfield 56, 3) := by decide +kernel
theorem dX3_each_53 : decode cX3_each 53 = .ok (.iload_n 3, 1) := by decide +kernel
theorem dX3_each_54 : decode cX3_each 54 = .ok (.invokestatic 112, 3) := by decide +kernel
theorem dX3_each_57 : decode cX3_each 57 = .ok (.goto 8, 3) := by decide +kernel
theorem dX3_each_60 : decode cX3_each 60 = .ok (.iload_n 2, 1) := by decide +kernel
theorem dX3_each_61 : decode cX3_each 61 = .ok (.iload_n 3, 1) := by decide +kernel
theorem dX3_each_62 : decode cX3_each 62 = .ok (.invokestatic 112, 3) := by decide +kernel
theorem dX3_each_65 : decode cX3_each 65 = .ok (.ireturn, 1) := by decide +kernel
set_option maxRecDepth 20000 in
theorem ggX3_own_X3_isWithin : GoodIn wsX3_own wsX3_isWithin := goodIn_r _ [7] (by decide +kernel) (by decide +kernel)
set_option maxRecDepth 20000 in
theorem gX3_own_X3_isWithin : GoodIn wsX3_own (va_wsS RX3 44 yX3_isWithin wsX3_isWithin) := goodIn_app (goodIn_of _ (by decide +kernel)) ggX3_own_X3_isWithin
set_option maxRecDepth 20000 in
theorem ggX3_own_X3_at : GoodIn wsX3_own wsX3_at := goodIn_r _ [10, 4, 5, 6, 7] (by decide +kernel) (by decide +kernel)
set_option maxRecDepth 20000 in
theorem gX3_own_X3_at : GoodIn wsX3_own (va_wsS RX3 121 yX3_at wsX3_at) := goodIn_app (goodIn_of _ (by decide +kernel)) ggX3_own_X3_at
theorem dX3_own_0 : decode cX3_own 0 = .ok (.iload_n 1, 1) := by decide +kernel
theorem dX3_own_1 : decode cX3_own 1 = .ok (.iconst (-1), 1) := by decide +kernel
theorem dX3_own_2 : decode cX3_own 2 = .ok (.if_icmp .ne 11, 3) := by decide +kernel
theorem dX3_own_5 : decode cX3_own 5 = .ok (.aload_n 0, 1) := by decide +kernel
theorem dX3_own_6 : decode cX3_own 6 = .ok (.getfield 19, 3) := by decide +kernel
theorem dX3_own_9 : decode cX3_own 9 = .ok (.getfield 115, 3) := by decide +kernel
theorem dX3_own_12 : decode cX3_own 12 = .ok (.ireturn, 1) := by decide +kernel
theorem dX3_own_13 : decode cX3_own 13 = .ok (.iload_n 1, 1) := by decide +kernel
theorem dX3_own_14 : decode cX3_own 14 = .ok (.iconst 0, 1) := by decide +kernel
theorem dX3_own_15 : decode cX3_own 15 = .ok (.aload_n 0, 1) := by decide +kernel
theorem dX3_own_16 : decode cX3_own 16 = .ok (.getfield 19, 3) := by decide +kernel
theorem dX3_own_19 : decode cX3_own 19 = .ok (.getfield 115, 3) := by decide +kernel
theorem dX3_own_22 : decode cX3_own 22 = .ok (.invokestatic 44, 3) := by decide +kernel
theorem dX3_own_25 : decode cX3_own 25 = .ok (.ifCond .ne 6, 3) := by decide +kernel
theorem dX3_own_28 : decode cX3_own 28 = .ok (.bipush (-6), 2) := by decide +kernel
theorem dX3_own_30 : decode cX3_own 30 = .ok (.ireturn, 1) := by decide +kernel
theorem dX3_own_31 : decode cX3_own 31 = .ok (.aload_n 0, 1) := by decide +kernel
theorem dX3_own_32 : decode cX3_own 32 = .ok (.getfield 19, 3) := by decide +kernel
theorem dX3_own_35 : decode cX3_own 35 = .ok (.getfield 118, 3) := by decide +kernel
theorem dX3_own_38 : decode cX3_own 38 = .ok (.iload_n 1, 1) := by decide +kernel
theorem dX3_own_39 : decode cX3_own 39 = .ok (.invokestatic 121, 3) := by decide +kernel
theorem dX3_own_42 : decode cX3_own 42 = .ok (.ireturn, 1) := by decide +kernel
set_option maxRecDepth 20000 in
theorem ggX3_sum_X3_isPhase : GoodIn wsX3_sum wsX3_isPhase := goodIn_r _ [13, 5, 14, 15, 16, 12, 17, 94, 95, 96, 97, 98, 99, 103, 104, 105, 106, 107, 108] (by decide +kernel) (by decide +kernel)
set_option maxRecDepth 20000 in
theorem gX3_sum_X3_isPhase : GoodIn wsX3_sum (wsV RX3 96 RX3 yX3_isPhase wsX3_isPhase) := goodIn_app (goodIn_of _ (by decide +kernel)) ggX3_sum_X3_isPhase
set_option maxRecDepth 20000 in
theorem ggX3_sum_X3_isWave : GoodIn wsX3_sum wsX3_isWave := goodIn_r _ [20, 15, 16, 12, 17] (by decide +kernel) (by decide +kernel)
set_option maxRecDepth 20000 in
theorem gX3_sum_X3_isWave : GoodIn wsX3_sum (va_wsS RX3 126 yX3_isWave wsX3_isWave) := goodIn_app (goodIn_of _ (by decide +kernel)) ggX3_sum_X3_isWave
set_option maxRecDepth 20000 in
theorem ggX3_sum_X3_isWithin : GoodIn wsX3_sum wsX3_isWithin := goodIn_r _ [17] (by decide +kernel) (by decide +kernel)
set_option maxRecDepth 20000 in
theorem gX3_sum_X3_isWithin : GoodIn wsX3_sum (va_wsS RX3 44 yX3_isWithin wsX3_isWithin) := goodIn_app (goodIn_of _ (by decide +kernel)) ggX3_sum_X3_isWithin
set_option maxRecDepth 20000 in
theorem ggX3_sum_X1_isBalanced : GoodIn wsX3_sum wsX1_isBalanced := goodIn_r _ [25, 26, 27, 28, 24, 29, 30, 31, 32, 12, 33, 34, 35, 36, 37, 38, 39, 40, 41, 42, 103, 104, 105, 106, 107, 108] (by decide +kernel) (by decide +kernel)
set_option maxRecDepth 20000 in
theorem gX3_sum_X1_isBalanced : GoodIn wsX3_sum (wsV RX3 70 RX1 yX1_isBalanced wsX1_isBalanced) := goodIn_app (goodIn_of _ (by decide +kernel)) ggX3_sum_X1_isBalanced
set_option maxRecDepth 20000 in
theorem ggX3_sum_X3_addUp : GoodIn wsX3_sum wsX3_addUp := goodIn_r _ [46, 5, 47, 2, 48, 49, 50, 51, 52, 53, 54, 24, 55, 30, 56, 57, 58, 59, 31, 60, 61, 62, 63, 64, 65, 66, 39, 12, 40, 41, 42, 67, 68, 69, 70, 71, 72, 73, 74, 75, 38, 76, 77, 78, 15, 16, 17, 79, 80, 81, 82, 83, 84, 85, 86, 87, 88, 89, 90, 91, 92, 93, 94, 95, 96, 97, 98, 99, 103, 104, 105, 106, 107, 108, 100, 101, 102] (by decide +kernel) (by decide +kernel)
set_option maxRecDepth 20000 in
theorem gX3_sum_X3_addUp : GoodIn wsX3_sum (wsV RX3 131 RX3 yX3_addUp wsX3_addUp) := goodIn_app (goodIn_of _ (by decide +kernel)) ggX3_sum_X3_addUp
set_option maxRecDepth 20000 in
theorem ggX3_sum_X3_at : GoodIn wsX3_sum wsX3_at := goodIn_r _ [78, 15, 16, 12, 17] (by decide +kernel) (by decide +kernel)
set_option maxRecDepth 20000 in
theorem gX3_sum_X3_at : GoodIn wsX3_sum (va_wsS RX3 121 yX3_at wsX3_at) := goodIn_app (goodIn_of _ (by decide +kernel)) ggX3_sum_X3_at
theorem dX3_sum_0 : decode cX3_sum 0 = .ok (.aload_n 0, 1) := by decide +kernel
theorem dX3_sum_1 : decode cX3_sum 1 = .ok (.iload_n 1, 1) := by decide +kernel
theorem dX3_sum_2 : decode cX3_sum 2 = .ok (.invokevirtual 96, 3) := by decide +kernel
theorem dX3_sum_5 : decode cX3_sum 5 = .ok (.ifCond .ne 6, 3) := by decide +kernel
theorem dX3_sum_8 : decode cX3_sum 8 = .ok (.ldc 125, 2) := by decide +kernel
theorem dX3_sum_10 : decode cX3_sum 10 = .ok (.ireturn, 1) := by decide +kernel
theorem dX3_sum_11 : decode cX3_sum 11 = .ok (.iload_n 2, 1) := by decide +kernel
theorem dX3_sum_12 : decode cX3_sum 12 = .ok (.invokestatic 126, 3) := by decide +kernel
theorem dX3_sum_15 : decode cX3_sum 15 = .ok (.ifCond .eq 20, 3) := by decide +kernel
theorem dX3_sum_18 : decode cX3_sum 18 = .ok (.iload_n 3, 1) := by decide +kernel
theorem dX3_sum_19 : decode cX3_sum 19 = .ok (.iconst 0, 1) := by decide +kernel
theorem dX3_sum_20 : decode cX3_sum 20 = .ok (.aload_n 0, 1) := by decide +kernel
theorem dX3_sum_21 : decode cX3_sum 21 = .ok (.getfield 19, 3) := by decide +kernel
theorem dX3_sum_24 : decode cX3_sum 24 = .ok (.getfield 115, 3) := by decide +kernel
theorem dX3_sum_27 : decode cX3_sum 27 = .ok (.iconst 1, 1) := by decide +kernel
theorem dX3_sum_28 : decode cX3_sum 28 = .ok (.isub, 1) := by decide +kernel
theorem dX3_sum_29 : decode cX3_sum 29 = .ok (.invokestatic 44, 3) := by decide +kernel
theorem dX3_sum_32 : decode cX3_sum 32 = .ok (.ifCond .ne 6, 3) := by decide +kernel
theorem dX3_sum_35 : decode cX3_sum 35 = .ok (.ldc 129, 2) := by decide +kernel
theorem dX3_sum_37 : decode cX3_sum 37 = .ok (.ireturn, 1) := by decide +kernel
theorem dX3_sum_38 : decode cX3_sum 38 = .ok (.aload_n 0, 1) := by decide +kernel
theorem dX3_sum_39 : decode cX3_sum 39 = .ok (.getfield 10, 3) := by decide +kernel
theorem dX3_sum_42 : decode cX3_sum 42 = .ok (.invokevirtual 70, 3) := by decide +kernel
theorem dX3_sum_45 : decode cX3_sum 45 = .ok (.ifCond .ne 6, 3) := by decide +kernel
theorem dX3_sum_48 : decode cX3_sum 48 = .ok (.ldc 130, 2) := by decide +kernel
theorem dX3_sum_50 : decode cX3_sum 50 = .ok (.ireturn, 1) := by decide +kernel
theorem dX3_sum_51 : decode cX3_sum 51 = .ok (.aload_n 0, 1) := by decide +kernel
theorem dX3_sum_52 : decode cX3_sum 52 = .ok (.aload_n 0, 1) := by decide +kernel
theorem dX3_sum_53 : decode cX3_sum 53 = .ok (.getfield 30, 3) := by decide +kernel
theorem dX3_sum_56 : decode cX3_sum 56 = .ok (.iload_n 1, 1) := by decide +kernel
theorem dX3_sum_57 : decode cX3_sum 57 = .ok (.iload_n 2, 1) := by decide +kernel
theorem dX3_sum_58 : decode cX3_sum 58 = .ok (.aload_n 0, 1) := by decide +kernel
theorem dX3_sum_59 : decode cX3_sum 59 = .ok (.getfield 10, 3) := by decide +kernel
theorem dX3_sum_62 : decode cX3_sum 62 = .ok (.getfield 59, 3) := by decide +kernel
theorem dX3_sum_65 : decode cX3_sum 65 = .ok (.invokevirtual 131, 3) := by decide +kernel
theorem dX3_sum_68 : decode cX3_sum 68 = .ok (.aload_n 0, 1) := by decide +kernel
theorem dX3_sum_69 : decode cX3_sum 69 = .ok (.getfield 30, 3) := by decide +kernel
theorem dX3_sum_72 : decode cX3_sum 72 = .ok (.iload_n 3, 1) := by decide +kernel
theorem dX3_sum_73 : decode cX3_sum 73 = .ok (.invokestatic 121, 3) := by decide +kernel
theorem dX3_sum_76 : decode cX3_sum 76 = .ok (.ireturn, 1) := by decide +kernel
set_option maxRecDepth 20000 in
theorem ggX3_vanishes_X3_isWave : GoodIn wsX3_vanishes wsX3_isWave := goodIn_r _ [6, 7, 8, 5, 9] (by decide +kernel) (by decide +kernel)
set_option maxRecDepth 20000 in
theorem gX3_vanishes_X3_isWave : GoodIn wsX3_vanishes (va_wsS RX3 126 yX3_isWave wsX3_isWave) := goodIn_app (goodIn_of _ (by decide +kernel)) ggX3_vanishes_X3_isWave
set_option maxRecDepth 20000 in
theorem ggX3_vanishes_X1_isBalanced : GoodIn wsX3_vanishes wsX1_isBalanced := goodIn_r _ [14, 15, 16, 17, 13, 18, 19, 20, 21, 5, 22, 23, 24, 25, 26, 27, 28, 29, 30, 31, 99, 100, 101, 102, 103, 104] (by decide +kernel) (by decide +kernel)
set_option maxRecDepth 20000 in
theorem gX3_vanishes_X1_isBalanced : GoodIn wsX3_vanishes (wsV RX3 70 RX1 yX1_isBalanced wsX1_isBalanced) := goodIn_app (goodIn_of _ (by decide +kernel)) ggX3_vanishes_X1_isBalanced
set_option maxRecDepth 20000 in
theorem ggX3_vanishes_X3_isNothing : GoodIn wsX3_vanishes wsX3_isNothing := goodIn_r _ [35, 36, 37, 38, 39, 40, 5, 41, 1, 42, 43, 44, 45, 46, 47, 48, 49, 13, 50, 19, 51, 52, 53, 54, 20, 55, 56, 57, 58, 59, 60, 61, 28, 29, 30, 31, 62, 63, 64, 65, 66, 67, 68, 69, 70, 27, 71, 72, 73, 7, 8, 9, 74, 75, 76, 77, 78, 79, 80, 81, 82, 83, 84, 85, 86, 87, 88, 89, 90, 91, 92, 93, 94, 95, 96, 97, 98, 99, 100, 101, 102, 103, 104, 105, 106, 107] (by decide +kernel) (by decide +kernel)
set_option maxRecDepth 20000 in
theorem gX3_vanishes_X3_isNothing : GoodIn wsX3_vanishes (wsV RX3 135 RX3 yX3_isNothing wsX3_isNothing) := goodIn_app (goodIn_of _ (by decide +kernel)) ggX3_vanishes_X3_isNothing
theorem dX3_vanishes_0 : decode cX3_vanishes 0 = .ok (.iload_n 1, 1) := by decide +kernel
theorem dX3_vanishes_1 : decode cX3_vanishes 1 = .ok (.invokestatic 126, 3) := by decide +kernel
theorem dX3_vanishes_4 : decode cX3_vanishes 4 = .ok (.ifCond .ne 6, 3) := by decide +kernel
theorem dX3_vanishes_7 : decode cX3_vanishes 7 = .ok (.bipush (-2), 2) := by decide +kernel
theorem dX3_vanishes_9 : decode cX3_vanishes 9 = .ok (.ireturn, 1) := by decide +kernel
theorem dX3_vanishes_10 : decode cX3_vanishes 10 = .ok (.aload_n 0, 1) := by decide +kernel
theorem dX3_vanishes_11 : decode cX3_vanishes 11 = .ok (.getfield 10, 3) := by decide +kernel
theorem dX3_vanishes_14 : decode cX3_vanishes 14 = .ok (.invokevirtual 70, 3) := by decide +kernel
theorem dX3_vanishes_17 : decode cX3_vanishes 17 = .ok (.ifCond .ne 6, 3) := by decide +kernel
theorem dX3_vanishes_20 : decode cX3_vanishes 20 = .ok (.bipush (-3), 2) := by decide +kernel
theorem dX3_vanishes_22 : decode cX3_vanishes 22 = .ok (.ireturn, 1) := by decide +kernel
theorem dX3_vanishes_23 : decode cX3_vanishes 23 = .ok (.aload_n 0, 1) := by decide +kernel
theorem dX3_vanishes_24 : decode cX3_vanishes 24 = .ok (.iload_n 1, 1) := by decide +kernel
theorem dX3_vanishes_25 : decode cX3_vanishes 25 = .ok (.aload_n 0, 1) := by decide +kernel
theorem dX3_vanishes_26 : decode cX3_vanishes 26 = .ok (.getfield 10, 3) := by decide +kernel
theorem dX3_vanishes_29 : decode cX3_vanishes 29 = .ok (.getfield 59, 3) := by decide +kernel
theorem dX3_vanishes_32 : decode cX3_vanishes 32 = .ok (.invokevirtual 135, 3) := by decide +kernel
theorem dX3_vanishes_35 : decode cX3_vanishes 35 = .ok (.ifCond .eq 7, 3) := by decide +kernel
theorem dX3_vanishes_38 : decode cX3_vanishes 38 = .ok (.iconst 1, 1) := by decide +kernel
theorem dX3_vanishes_39 : decode cX3_vanishes 39 = .ok (.goto 4, 3) := by decide +kernel
theorem dX3_vanishes_42 : decode cX3_vanishes 42 = .ok (.iconst 0, 1) := by decide +kernel
theorem dX3_vanishes_43 : decode cX3_vanishes 43 = .ok (.ireturn, 1) := by decide +kernel
set_option maxRecDepth 20000 in
theorem ggX3_choose_X3_isWave : GoodIn wsX3_choose wsX3_isWave := goodIn_r _ [7, 8, 9, 6, 10] (by decide +kernel) (by decide +kernel)
set_option maxRecDepth 20000 in
theorem gX3_choose_X3_isWave : GoodIn wsX3_choose (va_wsS RX3 126 yX3_isWave wsX3_isWave) := goodIn_app (goodIn_of _ (by decide +kernel)) ggX3_choose_X3_isWave
set_option maxRecDepth 20000 in
theorem ggX3_choose_X1_isBalanced : GoodIn wsX3_choose wsX1_isBalanced := goodIn_r _ [15, 16, 17, 18, 14, 19, 20, 21, 22, 6, 23, 24, 25, 26, 27, 28, 29, 30, 31, 32, 107, 108, 109, 110, 111, 112] (by decide +kernel) (by decide +kernel)
set_option maxRecDepth 20000 in
theorem gX3_choose_X1_isBalanced : GoodIn wsX3_choose (wsV RX3 70 RX1 yX1_isBalanced wsX1_isBalanced) := goodIn_app (goodIn_of _ (by decide +kernel)) ggX3_choose_X1_isBalanced
set_option maxRecDepth 20000 in
theorem ggX3_choose_X3_poleWidth : GoodIn wsX3_choose wsX3_poleWidth := goodIn_r _ [35, 36, 37, 26, 38, 39, 31, 6, 32] (by decide +kernel) (by decide +kernel)
set_option maxRecDepth 20000 in
theorem gX3_choose_X3_poleWidth : GoodIn wsX3_choose (va_wsS RX3 48 yX3_poleWidth wsX3_poleWidth) := goodIn_app (goodIn_of _ (by decide +kernel)) ggX3_choose_X3_poleWidth
set_option maxRecDepth 20000 in
theorem ggX3_choose_X3_isNothing : GoodIn wsX3_choose wsX3_isNothing := goodIn_r _ [43, 44, 45, 46, 47, 48, 6, 49, 1, 50, 51, 52, 53, 54, 55, 56, 57, 14, 58, 20, 59, 60, 61, 62, 21, 63, 64, 65, 66, 67, 68, 69, 29, 30, 31, 32, 70, 71, 72, 73, 74, 75, 76, 77, 78, 28, 79, 80, 81, 8, 9, 10, 82, 83, 84, 85, 86, 87, 88, 89, 90, 91, 92, 93, 94, 95, 96, 97, 98, 99, 100, 101, 102, 103, 104, 105, 106, 107, 108, 109, 110, 111, 112, 113, 114, 115] (by decide +kernel) (by decide +kernel)
set_option maxRecDepth 20000 in
theorem gX3_choose_X3_isNothing : GoodIn wsX3_choose (wsV RX3 135 RX3 yX3_isNothing wsX3_isNothing) := goodIn_app (goodIn_of _ (by decide +kernel)) ggX3_choose_X3_isNothing
theorem dX3_choose_0 : decode cX3_choose 0 = .ok (.iload_n 1, 1) := by decide +kernel
theorem dX3_choose_1 : decode cX3_choose 1 = .ok (.invokestatic 126, 3) := by decide +kernel
theorem dX3_choose_4 : decode cX3_choose 4 = .ok (.ifCond .ne 6, 3) := by decide +kernel
theorem dX3_choose_7 : decode cX3_choose 7 = .ok (.bipush (-2), 2) := by decide +kernel
theorem dX3_choose_9 : decode cX3_choose 9 = .ok (.ireturn, 1) := by decide +kernel
theorem dX3_choose_10 : decode cX3_choose 10 = .ok (.aload_n 0, 1) := by decide +kernel
theorem dX3_choose_11 : decode cX3_choose 11 = .ok (.getfield 10, 3) := by decide +kernel
theorem dX3_choose_14 : decode cX3_choose 14 = .ok (.invokevirtual 70, 3) := by decide +kernel
theorem dX3_choose_17 : decode cX3_choose 17 = .ok (.ifCond .ne 6, 3) := by decide +kernel
theorem dX3_choose_20 : decode cX3_choose 20 = .ok (.bipush (-3), 2) := by decide +kernel
theorem dX3_choose_22 : decode cX3_choose 22 = .ok (.ireturn, 1) := by decide +kernel
theorem dX3_choose_23 : decode cX3_choose 23 = .ok (.aload_n 0, 1) := by decide +kernel
theorem dX3_choose_24 : decode cX3_choose 24 = .ok (.getfield 10, 3) := by decide +kernel
theorem dX3_choose_27 : decode cX3_choose 27 = .ok (.getfield 56, 3) := by decide +kernel
theorem dX3_choose_30 : decode cX3_choose 30 = .ok (.aload_n 0, 1) := by decide +kernel
theorem dX3_choose_31 : decode cX3_choose 31 = .ok (.getfield 10, 3) := by decide +kernel
theorem dX3_choose_34 : decode cX3_choose 34 = .ok (.getfield 103, 3) := by decide +kernel
theorem dX3_choose_37 : decode cX3_choose 37 = .ok (.invokestatic 48, 3) := by decide +kernel
theorem dX3_choose_40 : decode cX3_choose 40 = .ok (.istore_n 2, 1) := by decide +kernel
theorem dX3_choose_41 : decode cX3_choose 41 = .ok (.iload_n 2, 1) := by decide +kernel
theorem dX3_choose_42 : decode cX3_choose 42 = .ok (.iconst 1, 1) := by decide +kernel
theorem dX3_choose_43 : decode cX3_choose 43 = .ok (.if_icmp .lt 20, 3) := by decide +kernel
theorem dX3_choose_46 : decode cX3_choose 46 = .ok (.aload_n 0, 1) := by decide +kernel
theorem dX3_choose_47 : decode cX3_choose 47 = .ok (.iload_n 1, 1) := by decide +kernel
theorem dX3_choose_48 : decode cX3_choose 48 = .ok (.iload_n 2, 1) := by decide +kernel
theorem dX3_choose_49 : decode cX3_choose 49 = .ok (.invokevirtual 135, 3) := by decide +kernel
theorem dX3_choose_52 : decode cX3_choose 52 = .ok (.ifCond .eq 5, 3) := by decide +kernel
theorem dX3_choose_55 : decode cX3_choose 55 = .ok (.iload_n 2, 1) := by decide +kernel
theorem dX3_choose_56 : decode cX3_choose 56 = .ok (.ireturn, 1) := by decide +kernel
theorem dX3_choose_57 : decode cX3_choose 57 = .ok (.iinc 2 (-1), 3) := by decide +kernel
theorem dX3_choose_60 : decode cX3_choose 60 = .ok (.goto (-19), 3) := by decide +kernel
theorem dX3_choose_63 : decode cX3_choose 63 = .ok (.bipush (-6), 2) := by decide +kernel
theorem dX3_choose_65 : decode cX3_choose 65 = .ok (.ireturn, 1) := by decide +kernel
set_option maxRecDepth 20000 in
theorem ggX3_turned_X3_isPhase : GoodIn wsX3_turned wsX3_isPhase := goodIn_r _ [11, 1, 12, 13, 14, 10, 15, 99, 100, 101, 102, 103, 104, 105, 106, 107, 108, 109, 110] (by decide +kernel) (by decide +kernel)
set_option maxRecDepth 20000 in
theorem gX3_turned_X3_isPhase : GoodIn wsX3_turned (wsV RX3 96 RX3 yX3_isPhase wsX3_isPhase) := goodIn_app (goodIn_of _ (by decide +kernel)) ggX3_turned_X3_isPhase
set_option maxRecDepth 20000 in
theorem ggX3_turned_X3_isWave : GoodIn wsX3_turned wsX3_isWave := goodIn_r _ [18, 13, 14, 10, 15] (by decide +kernel) (by decide +kernel)
set_option maxRecDepth 20000 in
theorem gX3_turned_X3_isWave : GoodIn wsX3_turned (va_wsS RX3 126 yX3_isWave wsX3_isWave) := goodIn_app (goodIn_of _ (by decide +kernel)) ggX3_turned_X3_isWave
set_option maxRecDepth 20000 in
theorem ggX3_turned_X1_isBalanced : GoodIn wsX3_turned wsX1_isBalanced := goodIn_r _ [23, 24, 25, 26, 22, 27, 28, 29, 30, 10, 31, 32, 33, 34, 35, 36, 37, 38, 39, 40, 105, 106, 107, 108, 109, 110] (by decide +kernel) (by decide +kernel)
set_option maxRecDepth 20000 in
theorem gX3_turned_X1_isBalanced : GoodIn wsX3_turned (wsV RX3 70 RX1 yX1_isBalanced wsX1_isBalanced) := goodIn_app (goodIn_of _ (by decide +kernel)) ggX3_turned_X1_isBalanced
set_option maxRecDepth 20000 in
theorem ggX3_turned_X3_addUp : GoodIn wsX3_turned wsX3_addUp := goodIn_r _ [44, 1, 5, 6, 45, 46, 47, 48, 49, 50, 51, 22, 52, 28, 53, 54, 55, 56, 29, 57, 58, 59, 60, 61, 62, 63, 37, 10, 38, 39, 40, 64, 65, 66, 67, 68, 69, 70, 71, 72, 36, 73, 74, 75, 13, 14, 15, 76, 77, 78, 79, 80, 81, 82, 83, 84, 85, 86, 87, 88, 89, 90, 99, 100, 101, 102, 103, 104, 105, 106, 107, 108, 109, 110, 111, 112, 113] (by decide +kernel) (by decide +kernel)
set_option maxRecDepth 20000 in
theorem gX3_turned_X3_addUp : GoodIn wsX3_turned (wsV RX3 131 RX3 yX3_addUp wsX3_addUp) := goodIn_app (goodIn_of _ (by decide +kernel)) ggX3_turned_X3_addUp
set_option maxRecDepth 20000 in
theorem ggX3_turned_X2_areSame : GoodIn wsX3_turned wsX2_areSame := goodIn_r _ [94, 89, 74, 10, 75, 13, 14, 15, 111, 112, 113] (by decide +kernel) (by decide +kernel)
set_option maxRecDepth 20000 in
theorem gX3_turned_X2_areSame : GoodIn wsX3_turned (wsV RX3 139 RX2 yX2_areSame wsX2_areSame) := goodIn_app (goodIn_of _ (by decide +kernel)) ggX3_turned_X2_areSame
set_option maxRecDepth 20000 in
theorem ggX3_turned_X2_multiplyByX : GoodIn wsX3_turned wsX2_multiplyByX := goodIn_r _ [98, 89, 90, 74, 10, 75, 13, 14, 15, 77, 78, 111, 112, 113] (by decide +kernel) (by decide +kernel)
set_option maxRecDepth 20000 in
theorem gX3_turned_X2_multiplyByX : GoodIn wsX3_turned (wsV RX3 143 RX2 yX2_multiplyByX wsX2_multiplyByX) := goodIn_app (goodIn_of _ (by decide +kernel)) ggX3_turned_X2_multiplyByX
theorem dX3_turned_0 : decode cX3_turned 0 = .ok (.aload_n 0, 1) := by decide +kernel
theorem dX3_turned_1 : decode cX3_turned 1 = .ok (.iload_n 1, 1) := by decide +kernel
theorem dX3_turned_2 : decode cX3_turned 2 = .ok (.invokevirtual 96, 3) := by decide +kernel
theorem dX3_turned_5 : decode cX3_turned 5 = .ok (.ifCond .eq 11, 3) := by decide +kernel
theorem dX3_turned_8 : decode cX3_turned 8 = .ok (.aload_n 0, 1) := by decide +kernel
theorem dX3_turned_9 : decode cX3_turned 9 = .ok (.iload_n 2, 1) := by decide +kernel
theorem dX3_turned_10 : decode cX3_turned 10 = .ok (.invokevirtual 96, 3) := by decide +kernel
theorem dX3_turned_13 : decode cX3_turned 13 = .ok (.ifCond .ne 5, 3) := by decide +kernel
theorem dX3_turned_16 : decode cX3_turned 16 = .ok (.iconst (-1), 1) := by decide +kernel
theorem dX3_turned_17 : decode cX3_turned 17 = .ok (.ireturn, 1) := by decide +kernel
theorem dX3_turned_18 : decode cX3_turned 18 = .ok (.iload_n 3, 1) := by decide +kernel
theorem dX3_turned_19 : decode cX3_turned 19 = .ok (.invokestatic 126, 3) := by decide +kernel
theorem dX3_turned_22 : decode cX3_turned 22 = .ok (.ifCond .ne 6, 3) := by decide +kernel
theorem dX3_turned_25 : decode cX3_turned 25 = .ok (.bipush (-2), 2) := by decide +kernel
theorem dX3_turned_27 : decode cX3_turned 27 = .ok (.ireturn, 1) := by decide +kernel
theorem dX3_turned_28 : decode cX3_turned 28 = .ok (.aload_n 0, 1) := by decide +kernel
theorem dX3_turned_29 : decode cX3_turned 29 = .ok (.getfield 10, 3) := by decide +kernel
theorem dX3_turned_32 : decode cX3_turned 32 = .ok (.invokevirtual 70, 3) := by decide +kernel
theorem dX3_turned_35 : decode cX3_turned 35 = .ok (.ifCond .ne 6, 3) := by decide +kernel
theorem dX3_turned_38 : decode cX3_turned 38 = .ok (.bipush (-3), 2) := by decide +kernel
theorem dX3_turned_40 : decode cX3_turned 40 = .ok (.ireturn, 1) := by decide +kernel
theorem dX3_turned_41 : decode cX3_turned 41 = .ok (.aload_n 0, 1) := by decide +kernel
theorem dX3_turned_42 : decode cX3_turned 42 = .ok (.aload_n 0, 1) := by decide +kernel
theorem dX3_turned_43 : decode cX3_turned 43 = .ok (.getfield 30, 3) := by decide +kernel
theorem dX3_turned_46 : decode cX3_turned 46 = .ok (.iload_n 1, 1) := by decide +kernel
theorem dX3_turned_47 : decode cX3_turned 47 = .ok (.iload_n 3, 1) := by decide +kernel
theorem dX3_turned_48 : decode cX3_turned 48 = .ok (.aload_n 0, 1) := by decide +kernel
theorem dX3_turned_49 : decode cX3_turned 49 = .ok (.getfield 10, 3) := by decide +kernel
theorem dX3_turned_52 : decode cX3_turned 52 = .ok (.getfield 59, 3) := by decide +kernel
theorem dX3_turned_55 : decode cX3_turned 55 = .ok (.invokevirtual 131, 3) := by decide +kernel
theorem dX3_turned_58 : decode cX3_turned 58 = .ok (.aload_n 0, 1) := by decide +kernel
theorem dX3_turned_59 : decode cX3_turned 59 = .ok (.aload_n 0, 1) := by decide +kernel
theorem dX3_turned_60 : decode cX3_turned 60 = .ok (.getfield 34, 3) := by decide +kernel
theorem dX3_turned_63 : decode cX3_turned 63 = .ok (.iload_n 2, 1) := by decide +kernel
theorem dX3_turned_64 : decode cX3_turned 64 = .ok (.iload_n 3, 1) := by decide +kernel
theorem dX3_turned_65 : decode cX3_turned 65 = .ok (.aload_n 0, 1) := by decide +kernel
end
section
theorem dX3_turned_66 : decode cX3_turned 66 = .ok (.getfield 10, 3) := by decide +kernel
theorem dX3_turned_69 : decode cX3_turned 69 = .ok (.getfield 59, 3) := by decide +kernel
theorem dX3_turned_72 : decode cX3_turned 72 = .ok (.invokevirtual 131, 3) := by decide +kernel
theorem dX3_turned_75 : decode cX3_turned 75 = .ok (.iconst 0, 1) := by decide +kernel
theorem dX3_turned_76 : decode cX3_turned 76 = .ok (.istore 4, 2) := by decide +kernel
theorem dX3_turned_78 : decode cX3_turned 78 = .ok (.iload 4, 2) := by decide +kernel
theorem dX3_turned_80 : decode cX3_turned 80 = .ok (.aload_n 0, 1) := by decide +kernel
theorem dX3_turned_81 : decode cX3_turned 81 = .ok (.getfield 10, 3) := by decide +kernel
theorem dX3_turned_84 : decode cX3_turned 84 = .ok (.getfield 52, 3) := by decide +kernel
theorem dX3_turned_87 : decode cX3_turned 87 = .ok (.if_icmp .ge 41, 3) := by decide +kernel
theorem dX3_turned_90 : decode cX3_turned 90 = .ok (.aload_n 0, 1) := by decide +kernel
theorem dX3_turned_91 : decode cX3_turned 91 = .ok (.getfield 19, 3) := by decide +kernel
theorem dX3_turned_94 : decode cX3_turned 94 = .ok (.aload_n 0, 1) := by decide +kernel
theorem dX3_turned_95 : decode cX3_turned 95 = .ok (.getfield 30, 3) := by decide +kernel
theorem dX3_turned_98 : decode cX3_turned 98 = .ok (.aload_n 0, 1) := by decide +kernel
theorem dX3_turned_99 : decode cX3_turned 99 = .ok (.getfield 34, 3) := by decide +kernel
theorem dX3_turned_102 : decode cX3_turned 102 = .ok (.invokevirtual 139, 3) := by decide +kernel
theorem dX3_turned_105 : decode cX3_turned 105 = .ok (.ifCond .eq 6, 3) := by decide +kernel
theorem dX3_turned_108 : decode cX3_turned 108 = .ok (.iload 4, 2) := by decide +kernel
theorem dX3_turned_110 : decode cX3_turned 110 = .ok (.ireturn, 1) := by decide +kernel
theorem dX3_turned_111 : decode cX3_turned 111 = .ok (.aload_n 0, 1) := by decide +kernel
theorem dX3_turned_112 : decode cX3_turned 112 = .ok (.getfield 19, 3) := by decide +kernel
theorem dX3_turned_115 : decode cX3_turned 115 = .ok (.aload_n 0, 1) := by decide +kernel
theorem dX3_turned_116 : decode cX3_turned 116 = .ok (.getfield 30, 3) := by decide +kernel
theorem dX3_turned_119 : decode cX3_turned 119 = .ok (.invokevirtual 143, 3) := by decide +kernel
theorem dX3_turned_122 : decode cX3_turned 122 = .ok (.iinc 4 1, 3) := by decide +kernel
theorem dX3_turned_125 : decode cX3_turned 125 = .ok (.goto (-47), 3) := by decide +kernel
theorem dX3_turned_128 : decode cX3_turned 128 = .ok (.bipush (-6), 2) := by decide +kernel
theorem dX3_turned_130 : decode cX3_turned 130 = .ok (.ireturn, 1) := by decide +kernel
set_option maxRecDepth 20000 in
theorem ggX3_joined_X3_isPhase : GoodIn wsX3_joined wsX3_isPhase := goodIn_r _ [10, 1, 11, 12, 13, 9, 14, 92, 93, 94, 95, 96, 97, 104, 105, 106, 107, 108, 109] (by decide +kernel) (by decide +kernel)
set_option maxRecDepth 20000 in
theorem gX3_joined_X3_isPhase : GoodIn wsX3_joined (wsV RX3 96 RX3 yX3_isPhase wsX3_isPhase) := goodIn_app (goodIn_of _ (by decide +kernel)) ggX3_joined_X3_isPhase
set_option maxRecDepth 20000 in
theorem ggX3_joined_X3_isWithin : GoodIn wsX3_joined wsX3_isWithin := goodIn_r _ [14] (by decide +kernel) (by decide +kernel)
set_option maxRecDepth 20000 in
theorem gX3_joined_X3_isWithin : GoodIn wsX3_joined (va_wsS RX3 44 yX3_isWithin wsX3_isWithin) := goodIn_app (goodIn_of _ (by decide +kernel)) ggX3_joined_X3_isWithin
set_option maxRecDepth 20000 in
theorem ggX3_joined_X1_isBalanced : GoodIn wsX3_joined wsX1_isBalanced := goodIn_r _ [19, 20, 21, 22, 18, 23, 24, 25, 26, 9, 27, 28, 29, 30, 31, 32, 33, 34, 35, 36, 104, 105, 106, 107, 108, 109] (by decide +kernel) (by decide +kernel)
set_option maxRecDepth 20000 in
theorem gX3_joined_X1_isBalanced : GoodIn wsX3_joined (wsV RX3 70 RX1 yX1_isBalanced wsX1_isBalanced) := goodIn_app (goodIn_of _ (by decide +kernel)) ggX3_joined_X1_isBalanced
set_option maxRecDepth 20000 in
theorem ggX3_joined_X0_join : GoodIn wsX3_joined wsX0_join := goodIn_r _ [41, 42, 43, 44, 45, 46, 47, 48, 40, 49, 50, 51, 52, 53, 54, 55, 18, 56, 24, 57, 58, 59, 60, 25, 61, 62, 63, 64, 65, 66, 67, 33, 9, 34, 35, 36, 68, 69, 70, 71, 72, 73, 12, 13, 14, 74, 75, 76, 77, 78, 79, 80, 81, 82, 83, 84, 85, 86, 87, 88, 89, 30, 90, 91, 29, 31, 98, 99, 100, 101, 102, 103, 104, 105, 106, 107, 108, 109] (by decide +kernel) (by decide +kernel)
set_option maxRecDepth 20000 in
theorem gX3_joined_X0_join : GoodIn wsX3_joined (wsV RX3 147 RX0 yX0_join wsX0_join) := goodIn_app (goodIn_of _ (by decide +kernel)) ggX3_joined_X0_join
theorem dX3_joined_0 : decode cX3_joined 0 = .ok (.aload_n 0, 1) := by decide +kernel
theorem dX3_joined_1 : decode cX3_joined 1 = .ok (.iload_n 1, 1) := by decide +kernel
theorem dX3_joined_2 : decode cX3_joined 2 = .ok (.invokevirtual 96, 3) := by decide +kernel
theorem dX3_joined_5 : decode cX3_joined 5 = .ok (.ifCond .ne 5, 3) := by decide +kernel
theorem dX3_joined_8 : decode cX3_joined 8 = .ok (.iconst (-1), 1) := by decide +kernel
theorem dX3_joined_9 : decode cX3_joined 9 = .ok (.ireturn, 1) := by decide +kernel
theorem dX3_joined_10 : decode cX3_joined 10 = .ok (.iload_n 2, 1) := by decide +kernel
theorem dX3_joined_11 : decode cX3_joined 11 = .ok (.iconst 0, 1) := by decide +kernel
theorem dX3_joined_12 : decode cX3_joined 12 = .ok (.iconst 2, 1) := by decide +kernel
theorem dX3_joined_13 : decode cX3_joined 13 = .ok (.invokestatic 44, 3) := by decide +kernel
theorem dX3_joined_16 : decode cX3_joined 16 = .ok (.ifCond .ne 6, 3) := by decide +kernel
theorem dX3_joined_19 : decode cX3_joined 19 = .ok (.bipush (-2), 2) := by decide +kernel
theorem dX3_joined_21 : decode cX3_joined 21 = .ok (.ireturn, 1) := by decide +kernel
theorem dX3_joined_22 : decode cX3_joined 22 = .ok (.aload_n 0, 1) := by decide +kernel
theorem dX3_joined_23 : decode cX3_joined 23 = .ok (.getfield 10, 3) := by decide +kernel
theorem dX3_joined_26 : decode cX3_joined 26 = .ok (.invokevirtual 70, 3) := by decide +kernel
theorem dX3_joined_29 : decode cX3_joined 29 = .ok (.ifCond .ne 6, 3) := by decide +kernel
theorem dX3_joined_32 : decode cX3_joined 32 = .ok (.bipush (-3), 2) := by decide +kernel
theorem dX3_joined_34 : decode cX3_joined 34 = .ok (.ireturn, 1) := by decide +kernel
theorem dX3_joined_35 : decode cX3_joined 35 = .ok (.aload_n 0, 1) := by decide +kernel
theorem dX3_joined_36 : decode cX3_joined 36 = .ok (.getfield 26, 3) := by decide +kernel
theorem dX3_joined_39 : decode cX3_joined 39 = .ok (.aload_n 0, 1) := by decide +kernel
theorem dX3_joined_40 : decode cX3_joined 40 = .ok (.getfield 10, 3) := by decide +kernel
theorem dX3_joined_43 : decode cX3_joined 43 = .ok (.iload_n 1, 1) := by decide +kernel
theorem dX3_joined_44 : decode cX3_joined 44 = .ok (.invokevirtual 147, 3) := by decide +kernel
theorem dX3_joined_47 : decode cX3_joined 47 = .ok (.ifCond .ne 6, 3) := by decide +kernel
theorem dX3_joined_50 : decode cX3_joined 50 = .ok (.bipush (-5), 2) := by decide +kernel
theorem dX3_joined_52 : decode cX3_joined 52 = .ok (.ireturn, 1) := by decide +kernel
theorem dX3_joined_53 : decode cX3_joined 53 = .ok (.iload_n 2, 1) := by decide +kernel
theorem dX3_joined_54 : decode cX3_joined 54 = .ok (.lookupswitch 42 #[(0, 26), (1, 34)], 26) := by decide +kernel
theorem dX3_joined_80 : decode cX3_joined 80 = .ok (.aload_n 0, 1) := by decide +kernel
theorem dX3_joined_81 : decode cX3_joined 81 = .ok (.getfield 26, 3) := by decide +kernel
theorem dX3_joined_84 : decode cX3_joined 84 = .ok (.getfield 151, 3) := by decide +kernel
theorem dX3_joined_87 : decode cX3_joined 87 = .ok (.ireturn, 1) := by decide +kernel
theorem dX3_joined_88 : decode cX3_joined 88 = .ok (.aload_n 0, 1) := by decide +kernel
theorem dX3_joined_89 : decode cX3_joined 89 = .ok (.getfield 26, 3) := by decide +kernel
theorem dX3_joined_92 : decode cX3_joined 92 = .ok (.getfield 154, 3) := by decide +kernel
theorem dX3_joined_95 : decode cX3_joined 95 = .ok (.ireturn, 1) := by decide +kernel
theorem dX3_joined_96 : decode cX3_joined 96 = .ok (.aload_n 0, 1) := by decide +kernel
theorem dX3_joined_97 : decode cX3_joined 97 = .ok (.getfield 26, 3) := by decide +kernel
theorem dX3_joined_100 : decode cX3_joined 100 = .ok (.getfield 157, 3) := by decide +kernel
theorem dX3_joined_103 : decode cX3_joined 103 = .ok (.ireturn, 1) := by decide +kernel
set_option maxRecDepth 20000 in
theorem ggX3_partner_X3_isSlot : GoodIn wsX3_partner wsX3_isSlot := goodIn_r _ [7, 1, 8, 9, 10, 6, 11, 95, 96, 97, 98, 99, 100, 101, 102, 103, 104, 105, 106] (by decide +kernel) (by decide +kernel)
set_option maxRecDepth 20000 in
theorem gX3_partner_X3_isSlot : GoodIn wsX3_partner (wsV RX3 66 RX3 yX3_isSlot wsX3_isSlot) := goodIn_app (goodIn_of _ (by decide +kernel)) ggX3_partner_X3_isSlot
set_option maxRecDepth 20000 in
theorem ggX3_partner_X1_isBalanced : GoodIn wsX3_partner wsX1_isBalanced := goodIn_r _ [16, 17, 18, 19, 15, 20, 21, 22, 23, 6, 24, 25, 26, 27, 28, 29, 30, 31, 32, 33, 101, 102, 103, 104, 105, 106] (by decide +kernel) (by decide +kernel)
set_option maxRecDepth 20000 in
theorem gX3_partner_X1_isBalanced : GoodIn wsX3_partner (wsV RX3 70 RX1 yX1_isBalanced wsX1_isBalanced) := goodIn_app (goodIn_of _ (by decide +kernel)) ggX3_partner_X1_isBalanced
set_option maxRecDepth 20000 in
theorem ggX3_partner_X1_phaseOf : GoodIn wsX3_partner wsX1_phaseOf := goodIn_r _ [37, 21, 38, 39, 40, 15, 41, 22, 42, 43, 44, 45, 46, 47, 48, 30, 6, 31, 32, 33, 101, 102, 103, 104, 105, 106] (by decide +kernel) (by decide +kernel)
set_option maxRecDepth 20000 in
theorem gX3_partner_X1_phaseOf : GoodIn wsX3_partner (wsV RX3 84 RX1 yX1_phaseOf wsX1_phaseOf) := goodIn_app (goodIn_of _ (by decide +kernel)) ggX3_partner_X1_phaseOf
set_option maxRecDepth 20000 in
theorem ggX3_partner_X0_join : GoodIn wsX3_partner wsX0_join := goodIn_r _ [53, 54, 55, 56, 57, 58, 59, 60, 52, 61, 62, 63, 64, 65, 35, 36, 15, 37, 21, 38, 39, 40, 41, 22, 42, 43, 44, 45, 46, 47, 48, 30, 6, 31, 32, 33, 66, 67, 68, 69, 70, 71, 9, 10, 11, 72, 73, 74, 75, 76, 77, 78, 79, 80, 81, 82, 83, 84, 85, 86, 87, 27, 88, 89, 26, 28, 107, 108, 109, 110, 111, 112, 101, 102, 103, 104, 105, 106] (by decide +kernel) (by decide +kernel)
set_option maxRecDepth 20000 in
theorem gX3_partner_X0_join : GoodIn wsX3_partner (wsV RX3 147 RX0 yX0_join wsX0_join) := goodIn_app (goodIn_of _ (by decide +kernel)) ggX3_partner_X0_join
set_option maxRecDepth 20000 in
theorem ggX3_partner_X1_isForward : GoodIn wsX3_partner wsX1_isForward := goodIn_r _ [69, 38, 39, 40, 15, 41, 21, 22, 42, 43, 44, 45, 46, 47, 48, 30, 6, 31, 32, 33, 101, 102, 103, 104, 105, 106] (by decide +kernel) (by decide +kernel)
set_option maxRecDepth 20000 in
theorem gX3_partner_X1_isForward : GoodIn wsX3_partner (wsV RX3 87 RX1 yX1_isForward wsX1_isForward) := goodIn_app (goodIn_of _ (by decide +kernel)) ggX3_partner_X1_isForward
set_option maxRecDepth 20000 in
theorem ggX3_partner_X0_otherOf : GoodIn wsX3_partner wsX0_otherOf := goodIn_r _ [94, 54, 63, 56, 76, 6, 77, 9, 10, 11, 78, 79, 80, 52, 81, 64, 30, 31, 107, 108, 109, 110, 111, 112] (by decide +kernel) (by decide +kernel)
set_option maxRecDepth 20000 in
theorem gX3_partner_X0_otherOf : GoodIn wsX3_partner (wsV RX3 160 RX0 yX0_otherOf wsX0_otherOf) := goodIn_app (goodIn_of _ (by decide +kernel)) ggX3_partner_X0_otherOf
theorem dX3_partner_0 : decode cX3_partner 0 = .ok (.aload_n 0, 1) := by decide +kernel
theorem dX3_partner_1 : decode cX3_partner 1 = .ok (.iload_n 1, 1) := by decide +kernel
theorem dX3_partner_2 : decode cX3_partner 2 = .ok (.invokevirtual 66, 3) := by decide +kernel
theorem dX3_partner_5 : decode cX3_partner 5 = .ok (.ifCond .ne 5, 3) := by decide +kernel
theorem dX3_partner_8 : decode cX3_partner 8 = .ok (.iconst (-1), 1) := by decide +kernel
theorem dX3_partner_9 : decode cX3_partner 9 = .ok (.ireturn, 1) := by decide +kernel
theorem dX3_partner_10 : decode cX3_partner 10 = .ok (.aload_n 0, 1) := by decide +kernel
theorem dX3_partner_11 : decode cX3_partner 11 = .ok (.getfield 10, 3) := by decide +kernel
theorem dX3_partner_14 : decode cX3_partner 14 = .ok (.invokevirtual 70, 3) := by decide +kernel
theorem dX3_partner_17 : decode cX3_partner 17 = .ok (.ifCond .ne 6, 3) := by decide +kernel
theorem dX3_partner_20 : decode cX3_partner 20 = .ok (.bipush (-3), 2) := by decide +kernel
theorem dX3_partner_22 : decode cX3_partner 22 = .ok (.ireturn, 1) := by decide +kernel
theorem dX3_partner_23 : decode cX3_partner 23 = .ok (.aload_n 0, 1) := by decide +kernel
theorem dX3_partner_24 : decode cX3_partner 24 = .ok (.getfield 26, 3) := by decide +kernel
theorem dX3_partner_27 : decode cX3_partner 27 = .ok (.aload_n 0, 1) := by decide +kernel
theorem dX3_partner_28 : decode cX3_partner 28 = .ok (.getfield 10, 3) := by decide +kernel
theorem dX3_partner_31 : decode cX3_partner 31 = .ok (.aload_n 0, 1) := by decide +kernel
theorem dX3_partner_32 : decode cX3_partner 32 = .ok (.getfield 10, 3) := by decide +kernel
theorem dX3_partner_35 : decode cX3_partner 35 = .ok (.iload_n 1, 1) := by decide +kernel
theorem dX3_partner_36 : decode cX3_partner 36 = .ok (.invokevirtual 84, 3) := by decide +kernel
theorem dX3_partner_39 : decode cX3_partner 39 = .ok (.invokevirtual 147, 3) := by decide +kernel
theorem dX3_partner_42 : decode cX3_partner 42 = .ok (.ifCond .ne 6, 3) := by decide +kernel
theorem dX3_partner_45 : decode cX3_partner 45 = .ok (.bipush (-5), 2) := by decide +kernel
theorem dX3_partner_47 : decode cX3_partner 47 = .ok (.ireturn, 1) := by decide +kernel
theorem dX3_partner_48 : decode cX3_partner 48 = .ok (.aload_n 0, 1) := by decide +kernel
theorem dX3_partner_49 : decode cX3_partner 49 = .ok (.getfield 26, 3) := by decide +kernel
theorem dX3_partner_52 : decode cX3_partner 52 = .ok (.iload_n 1, 1) := by decide +kernel
theorem dX3_partner_53 : decode cX3_partner 53 = .ok (.aload_n 0, 1) := by decide +kernel
theorem dX3_partner_54 : decode cX3_partner 54 = .ok (.getfield 10, 3) := by decide +kernel
theorem dX3_partner_57 : decode cX3_partner 57 = .ok (.iload_n 1, 1) := by decide +kernel
theorem dX3_partner_58 : decode cX3_partner 58 = .ok (.invokevirtual 87, 3) := by decide +kernel
theorem dX3_partner_61 : decode cX3_partner 61 = .ok (.invokevirtual 160, 3) := by decide +kernel
theorem dX3_partner_64 : decode cX3_partner 64 = .ok (.ireturn, 1) := by decide +kernel
set_option maxRecDepth 20000 in
theorem ggX3_path_X3_isSlot : GoodIn wsX3_path wsX3_isSlot := goodIn_r _ [7, 1, 8, 9, 10, 6, 11, 23, 24, 25, 26, 27, 28, 29, 30, 31, 32, 33, 34] (by decide +kernel) (by decide +kernel)
set_option maxRecDepth 20000 in
theorem gX3_path_X3_isSlot : GoodIn wsX3_path (wsV RX3 66 RX3 yX3_isSlot wsX3_isSlot) := goodIn_app (goodIn_of _ (by decide +kernel)) ggX3_path_X3_isSlot
set_option maxRecDepth 20000 in
theorem ggX3_path_X3_isWithin : GoodIn wsX3_path wsX3_isWithin := goodIn_r _ [11] (by decide +kernel) (by decide +kernel)
set_option maxRecDepth 20000 in
theorem gX3_path_X3_isWithin : GoodIn wsX3_path (va_wsS RX3 44 yX3_isWithin wsX3_isWithin) := goodIn_app (goodIn_of _ (by decide +kernel)) ggX3_path_X3_isWithin
set_option maxRecDepth 20000 in
theorem ggX3_path_X3_leftOver : GoodIn wsX3_path wsX3_leftOver := goodIn_r _ [14] (by decide +kernel) (by decide +kernel)
set_option maxRecDepth 20000 in
theorem gX3_path_X3_leftOver : GoodIn wsX3_path (va_wsS RX3 166 yX3_leftOver wsX3_leftOver) := goodIn_app (goodIn_of _ (by decide +kernel)) ggX3_path_X3_leftOver
set_option maxRecDepth 20000 in
theorem ggX3_path_X1_copyOf : GoodIn wsX3_path wsX1_copyOf := goodIn_r _ [19, 20, 21, 6, 22, 29, 30, 31, 32, 33, 34] (by decide +kernel) (by decide +kernel)
set_option maxRecDepth 20000 in
theorem gX3_path_X1_copyOf : GoodIn wsX3_path (wsV RX3 78 RX1 yX1_copyOf wsX1_copyOf) := goodIn_app (goodIn_of _ (by decide +kernel)) ggX3_path_X1_copyOf
theorem dX3_path_0 : decode cX3_path 0 = .ok (.aload_n 0, 1) := by decide +kernel
theorem dX3_path_1 : decode cX3_path 1 = .ok (.iload_n 1, 1) := by decide +kernel
theorem dX3_path_2 : decode cX3_path 2 = .ok (.invokevirtual 66, 3) := by decide +kernel
theorem dX3_path_5 : decode cX3_path 5 = .ok (.ifCond .ne 5, 3) := by decide +kernel
theorem dX3_path_8 : decode cX3_path 8 = .ok (.iconst (-1), 1) := by decide +kernel
theorem dX3_path_9 : decode cX3_path 9 = .ok (.ireturn, 1) := by decide +kernel
theorem dX3_path_10 : decode cX3_path 10 = .ok (.iload_n 2, 1) := by decide +kernel
theorem dX3_path_11 : decode cX3_path 11 = .ok (.iconst 1, 1) := by decide +kernel
theorem dX3_path_12 : decode cX3_path 12 = .ok (.bipush 10, 2) := by decide +kernel
theorem dX3_path_14 : decode cX3_path 14 = .ok (.invokestatic 44, 3) := by decide +kernel
theorem dX3_path_17 : decode cX3_path 17 = .ok (.ifCond .ne 6, 3) := by decide +kernel
theorem dX3_path_20 : decode cX3_path 20 = .ok (.bipush (-2), 2) := by decide +kernel
theorem dX3_path_22 : decode cX3_path 22 = .ok (.ireturn, 1) := by decide +kernel
theorem dX3_path_23 : decode cX3_path 23 = .ok (.aload_n 0, 1) := by decide +kernel
theorem dX3_path_24 : decode cX3_path 24 = .ok (.getfield 10, 3) := by decide +kernel
theorem dX3_path_27 : decode cX3_path 27 = .ok (.getfield 163, 3) := by decide +kernel
theorem dX3_path_30 : decode cX3_path 30 = .ok (.iload_n 2, 1) := by decide +kernel
theorem dX3_path_31 : decode cX3_path 31 = .ok (.invokestatic 166, 3) := by decide +kernel
theorem dX3_path_34 : decode cX3_path 34 = .ok (.ifCond .eq 6, 3) := by decide +kernel
theorem dX3_path_37 : decode cX3_path 37 = .ok (.bipush (-5), 2) := by decide +kernel
theorem dX3_path_39 : decode cX3_path 39 = .ok (.ireturn, 1) := by decide +kernel
theorem dX3_path_40 : decode cX3_path 40 = .ok (.aload_n 0, 1) := by decide +kernel
theorem dX3_path_41 : decode cX3_path 41 = .ok (.getfield 10, 3) := by decide +kernel
theorem dX3_path_44 : decode cX3_path 44 = .ok (.iload_n 1, 1) := by decide +kernel
theorem dX3_path_45 : decode cX3_path 45 = .ok (.invokevirtual 78, 3) := by decide +kernel
theorem dX3_path_48 : decode cX3_path 48 = .ok (.iload_n 2, 1) := by decide +kernel
theorem dX3_path_49 : decode cX3_path 49 = .ok (.invokestatic 166, 3) := by decide +kernel
theorem dX3_path_52 : decode cX3_path 52 = .ok (.ireturn, 1) := by decide +kernel
set_option maxRecDepth 20000 in
theorem ggX3_image_X3_isWithin : GoodIn wsX3_image wsX3_isWithin := goodIn_r _ [10] (by decide +kernel) (by decide +kernel)
set_option maxRecDepth 20000 in
theorem gX3_image_X3_isWithin : GoodIn wsX3_image (va_wsS RX3 44 yX3_isWithin wsX3_isWithin) := goodIn_app (goodIn_of _ (by decide +kernel)) ggX3_image_X3_isWithin
set_option maxRecDepth 20000 in
theorem ggX3_image_X3_put : GoodIn wsX3_image wsX3_put := goodIn_r _ [13, 7, 8, 9, 10] (by decide +kernel) (by decide +kernel)
set_option maxRecDepth 20000 in
theorem gX3_image_X3_put : GoodIn wsX3_image (va_wsS RX3 169 yX3_put wsX3_put) := goodIn_app (goodIn_of _ (by decide +kernel)) ggX3_image_X3_put
theorem dX3_image_0 : decode cX3_image 0 = .ok (.iload_n 1, 1) := by decide +kernel
theorem dX3_image_1 : decode cX3_image 1 = .ok (.iconst 0, 1) := by decide +kernel
theorem dX3_image_2 : decode cX3_image 2 = .ok (.iconst 1, 1) := by decide +kernel
theorem dX3_image_3 : decode cX3_image 3 = .ok (.invokestatic 44, 3) := by decide +kernel
theorem dX3_image_6 : decode cX3_image 6 = .ok (.ifCond .ne 6, 3) := by decide +kernel
theorem dX3_image_9 : decode cX3_image 9 = .ok (.bipush (-2), 2) := by decide +kernel
theorem dX3_image_11 : decode cX3_image 11 = .ok (.ireturn, 1) := by decide +kernel
theorem dX3_image_12 : decode cX3_image 12 = .ok (.iload_n 1, 1) := by decide +kernel
theorem dX3_image_13 : decode cX3_image 13 = .ok (.iconst 4, 1) := by decide +kernel
theorem dX3_image_14 : decode cX3_image 14 = .ok (.imul, 1) := by decide +kernel
theorem dX3_image_15 : decode cX3_image 15 = .ok (.istore_n 2, 1) := by decide +kernel
theorem dX3_image_16 : decode cX3_image 16 = .ok (.aload_n 0, 1) := by decide +kernel
theorem dX3_image_17 : decode cX3_image 17 = .ok (.getfield 37, 3) := by decide +kernel
theorem dX3_image_20 : decode cX3_image 20 = .ok (.iload_n 2, 1) := by decide +kernel
theorem dX3_image_21 : decode cX3_image 21 = .ok (.aload_n 0, 1) := by decide +kernel
theorem dX3_image_22 : decode cX3_image 22 = .ok (.getfield 10, 3) := by decide +kernel
theorem dX3_image_25 : decode cX3_image 25 = .ok (.getfield 56, 3) := by decide +kernel
theorem dX3_image_28 : decode cX3_image 28 = .ok (.invokestatic 169, 3) := by decide +kernel
theorem dX3_image_31 : decode cX3_image 31 = .ok (.aload_n 0, 1) := by decide +kernel
theorem dX3_image_32 : decode cX3_image 32 = .ok (.getfield 37, 3) := by decide +kernel
theorem dX3_image_35 : decode cX3_image 35 = .ok (.iload_n 2, 1) := by decide +kernel
theorem dX3_image_36 : decode cX3_image 36 = .ok (.iconst 1, 1) := by decide +kernel
theorem dX3_image_37 : decode cX3_image 37 = .ok (.iadd, 1) := by decide +kernel
theorem dX3_image_38 : decode cX3_image 38 = .ok (.aload_n 0, 1) := by decide +kernel
theorem dX3_image_39 : decode cX3_image 39 = .ok (.getfield 10, 3) := by decide +kernel
theorem dX3_image_42 : decode cX3_image 42 = .ok (.getfield 103, 3) := by decide +kernel
theorem dX3_image_45 : decode cX3_image 45 = .ok (.invokestatic 169, 3) := by decide +kernel
theorem dX3_image_48 : decode cX3_image 48 = .ok (.aload_n 0, 1) := by decide +kernel
theorem dX3_image_49 : decode cX3_image 49 = .ok (.getfield 37, 3) := by decide +kernel
theorem dX3_image_52 : decode cX3_image 52 = .ok (.iload_n 2, 1) := by decide +kernel
theorem dX3_image_53 : decode cX3_image 53 = .ok (.iconst 2, 1) := by decide +kernel
theorem dX3_image_54 : decode cX3_image 54 = .ok (.iadd, 1) := by decide +kernel
theorem dX3_image_55 : decode cX3_image 55 = .ok (.aload_n 0, 1) := by decide +kernel
theorem dX3_image_56 : decode cX3_image 56 = .ok (.getfield 10, 3) := by decide +kernel
theorem dX3_image_59 : decode cX3_image 59 = .ok (.getfield 106, 3) := by decide +kernel
theorem dX3_image_62 : decode cX3_image 62 = .ok (.invokestatic 169, 3) := by decide +kernel
theorem dX3_image_65 : decode cX3_image 65 = .ok (.aload_n 0, 1) := by decide +kernel
theorem dX3_image_66 : decode cX3_image 66 = .ok (.getfield 37, 3) := by decide +kernel
theorem dX3_image_69 : decode cX3_image 69 = .ok (.iload_n 2, 1) := by decide +kernel
theorem dX3_image_70 : decode cX3_image 70 = .ok (.iconst 3, 1) := by decide +kernel
theorem dX3_image_71 : decode cX3_image 71 = .ok (.iadd, 1) := by decide +kernel
theorem dX3_image_72 : decode cX3_image 72 = .ok (.aload_n 0, 1) := by decide +kernel
theorem dX3_image_73 : decode cX3_image 73 = .ok (.getfield 10, 3) := by decide +kernel
theorem dX3_image_76 : decode cX3_image 76 = .ok (.getfield 59, 3) := by decide +kernel
theorem dX3_image_79 : decode cX3_image 79 = .ok (.invokestatic 169, 3) := by decide +kernel
theorem dX3_image_82 : decode cX3_image 82 = .ok (.iconst 1, 1) := by decide +kernel
theorem dX3_image_83 : decode cX3_image 83 = .ok (.ireturn, 1) := by decide +kernel
set_option maxRecDepth 20000 in
theorem ggX3_restore_X3_isWithin : GoodIn wsX3_restore wsX3_isWithin := goodIn_r _ [5] (by decide +kernel) (by decide +kernel)
set_option maxRecDepth 20000 in
theorem gX3_restore_X3_isWithin : GoodIn wsX3_restore (va_wsS RX3 44 yX3_isWithin wsX3_isWithin) := goodIn_app (goodIn_of _ (by decide +kernel)) ggX3_restore_X3_isWithin
set_option maxRecDepth 20000 in
theorem ggX3_restore_X3_at : GoodIn wsX3_restore wsX3_at := goodIn_r _ [8, 2, 3, 4, 5] (by decide +kernel) (by decide +kernel)
set_option maxRecDepth 20000 in
theorem gX3_restore_X3_at : GoodIn wsX3_restore (va_wsS RX3 121 yX3_at wsX3_at) := goodIn_app (goodIn_of _ (by decide +kernel)) ggX3_restore_X3_at
set_option maxRecDepth 20000 in
theorem ggX3_restore_X3_take : GoodIn wsX3_restore wsX3_take := goodIn_r _ [12, 13, 14, 15, 16, 17, 18, 19, 20, 21, 22, 23, 24, 25, 26, 27, 4, 28, 29, 30, 31, 32, 33, 34, 35, 36, 37, 38, 39, 40, 41, 42, 43, 44, 45, 46, 47, 48, 49, 50, 51, 2, 3, 5, 52, 53, 54, 55, 56, 57, 58, 7, 8, 59, 60, 61, 62, 63, 64, 65, 66, 67, 68, 69, 70, 71, 72, 73, 74, 75, 76, 77, 78, 79, 80, 81] (by decide +kernel) (by decide +kernel)
set_option maxRecDepth 20000 in
theorem gX3_restore_X3_take : GoodIn wsX3_restore (wsV RX3 40 RX3 yX3_take wsX3_take) := goodIn_app (goodIn_of _ (by decide +kernel)) ggX3_restore_X3_take
theorem dX3_restore_0 : decode cX3_restore 0 = .ok (.iload_n 1, 1) := by decide +kernel
theorem dX3_restore_1 : decode cX3_restore 1 = .ok (.iconst 0, 1) := by decide +kernel
theorem dX3_restore_2 : decode cX3_restore 2 = .ok (.iconst 1, 1) := by decide +kernel
theorem dX3_restore_3 : decode cX3_restore 3 = .ok (.invokestatic 44, 3) := by decide +kernel
theorem dX3_restore_6 : decode cX3_restore 6 = .ok (.ifCond .ne 6, 3) := by decide +kernel
theorem dX3_restore_9 : decode cX3_restore 9 = .ok (.bipush (-2), 2) := by decide +kernel
theorem dX3_restore_11 : decode cX3_restore 11 = .ok (.ireturn, 1) := by decide +kernel
theorem dX3_restore_12 : decode cX3_restore 12 = .ok (.iload_n 1, 1) := by decide +kernel
theorem dX3_restore_13 : decode cX3_restore 13 = .ok (.iconst 4, 1) := by decide +kernel
theorem dX3_restore_14 : decode cX3_restore 14 = .ok (.imul, 1) := by decide +kernel
theorem dX3_restore_15 : decode cX3_restore 15 = .ok (.istore_n 2, 1) := by decide +kernel
theorem dX3_restore_16 : decode cX3_restore 16 = .ok (.aload_n 0, 1) := by decide +kernel
theorem dX3_restore_17 : decode cX3_restore 17 = .ok (.getfield 37, 3) := by decide +kernel
theorem dX3_restore_20 : decode cX3_restore 20 = .ok (.iload_n 2, 1) := by decide +kernel
theorem dX3_restore_21 : decode cX3_restore 21 = .ok (.invokestatic 121, 3) := by decide +kernel
theorem dX3_restore_24 : decode cX3_restore 24 = .ok (.ifCond .ne 6, 3) := by decide +kernel
theorem dX3_restore_27 : decode cX3_restore 27 = .ok (.bipush (-3), 2) := by decide +kernel
theorem dX3_restore_29 : decode cX3_restore 29 = .ok (.ireturn, 1) := by decide +kernel
theorem dX3_restore_30 : decode cX3_restore 30 = .ok (.aload_n 0, 1) := by decide +kernel
theorem dX3_restore_31 : decode cX3_restore 31 = .ok (.aload_n 0, 1) := by decide +kernel
theorem dX3_restore_32 : decode cX3_restore 32 = .ok (.getfield 37, 3) := by decide +kernel
theorem dX3_restore_35 : decode cX3_restore 35 = .ok (.iload_n 2, 1) := by decide +kernel
theorem dX3_restore_36 : decode cX3_restore 36 = .ok (.invokestatic 121, 3) := by decide +kernel
theorem dX3_restore_39 : decode cX3_restore 39 = .ok (.aload_n 0, 1) := by decide +kernel
theorem dX3_restore_40 : decode cX3_restore 40 = .ok (.getfield 37, 3) := by decide +kernel
theorem dX3_restore_43 : decode cX3_restore 43 = .ok (.iload_n 2, 1) := by decide +kernel
theorem dX3_restore_44 : decode cX3_restore 44 = .ok (.iconst 1, 1) := by decide +kernel
theorem dX3_restore_45 : decode cX3_restore 45 = .ok (.iadd, 1) := by decide +kernel
theorem dX3_restore_46 : decode cX3_restore 46 = .ok (.invokestatic 121, 3) := by decide +kernel
theorem dX3_restore_49 : decode cX3_restore 49 = .ok (.aload_n 0, 1) := by decide +kernel
theorem dX3_restore_50 : decode cX3_restore 50 = .ok (.getfield 37, 3) := by decide +kernel
theorem dX3_restore_53 : decode cX3_restore 53 = .ok (.iload_n 2, 1) := by decide +kernel
theorem dX3_restore_54 : decode cX3_restore 54 = .ok (.iconst 2, 1) := by decide +kernel
theorem dX3_restore_55 : decode cX3_restore 55 = .ok (.iadd, 1) := by decide +kernel
theorem dX3_restore_56 : decode cX3_restore 56 = .ok (.invokestatic 121, 3) := by decide +kernel
theorem dX3_restore_59 : decode cX3_restore 59 = .ok (.aload_n 0, 1) := by decide +kernel
theorem dX3_restore_60 : decode cX3_restore 60 = .ok (.getfield 37, 3) := by decide +kernel
theorem dX3_restore_63 : decode cX3_restore 63 = .ok (.iload_n 2, 1) := by decide +kernel
theorem dX3_restore_64 : decode cX3_restore 64 = .ok (.iconst 3, 1) := by decide +kernel
theorem dX3_restore_65 : decode cX3_restore 65 = .ok (.iadd, 1) := by decide +kernel
theorem dX3_restore_66 : decode cX3_restore 66 = .ok (.invokestatic 121, 3) := by decide +kernel
theorem dX3_restore_69 : decode cX3_restore 69 = .ok (.invokevirtual 40, 3) := by decide +kernel
theorem dX3_restore_72 : decode cX3_restore 72 = .ok (.iconst 1, 1) := by decide +kernel
theorem dX3_restore_73 : decode cX3_restore 73 = .ok (.ireturn, 1) := by decide +kernel
set_option maxRecDepth 20000 in
theorem ggX3_told_X1_isBalanced : GoodIn wsX3_told wsX1_isBalanced := goodIn_r _ [12, 13, 14, 15, 11, 16, 17, 18, 19, 20, 21, 22, 23, 24, 25, 26, 27, 28, 29, 30, 37, 38, 39, 40, 41, 42] (by decide +kernel) (by decide +kernel)
set_option maxRecDepth 20000 in
theorem gX3_told_X1_isBalanced : GoodIn wsX3_told (wsV RX3 70 RX1 yX1_isBalanced wsX1_isBalanced) := goodIn_app (goodIn_of _ (by decide +kernel)) ggX3_told_X1_isBalanced
theorem dX3_told_0 : decode cX3_told 0 = .ok (.iload_n 1, 1) := by decide +kernel
theorem dX3_told_1 : decode cX3_told 1 = .ok (.tableswitch 107 0 6 #[43, 51, 59, 67, 75, 83, 91], 43) := by decide +kernel
theorem dX3_told_44 : decode cX3_told 44 = .ok (.aload_n 0, 1) := by decide +kernel
theorem dX3_told_45 : decode cX3_told 45 = .ok (.getfield 10, 3) := by decide +kernel
theorem dX3_told_48 : decode cX3_told 48 = .ok (.getfield 56, 3) := by decide +kernel
theorem dX3_told_51 : decode cX3_told 51 = .ok (.ireturn, 1) := by decide +kernel
theorem dX3_told_52 : decode cX3_told 52 = .ok (.aload_n 0, 1) := by decide +kernel
theorem dX3_told_53 : decode cX3_told 53 = .ok (.getfield 10, 3) := by decide +kernel
theorem dX3_told_56 : decode cX3_told 56 = .ok (.getfield 103, 3) := by decide +kernel
theorem dX3_told_59 : decode cX3_told 59 = .ok (.ireturn, 1) := by decide +kernel
theorem dX3_told_60 : decode cX3_told 60 = .ok (.aload_n 0, 1) := by decide +kernel
theorem dX3_told_61 : decode cX3_told 61 = .ok (.getfield 10, 3) := by decide +kernel
theorem dX3_told_64 : decode cX3_told 64 = .ok (.getfield 106, 3) := by decide +kernel
theorem dX3_told_67 : decode cX3_told 67 = .ok (.ireturn, 1) := by decide +kernel
theorem dX3_told_68 : decode cX3_told 68 = .ok (.aload_n 0, 1) := by decide +kernel
theorem dX3_told_69 : decode cX3_told 69 = .ok (.getfield 10, 3) := by decide +kernel
theorem dX3_told_72 : decode cX3_told 72 = .ok (.getfield 59, 3) := by decide +kernel
theorem dX3_told_75 : decode cX3_told 75 = .ok (.ireturn, 1) := by decide +kernel
theorem dX3_told_76 : decode cX3_told 76 = .ok (.aload_n 0, 1) := by decide +kernel
theorem dX3_told_77 : decode cX3_told 77 = .ok (.getfield 10, 3) := by decide +kernel
theorem dX3_told_80 : decode cX3_told 80 = .ok (.getfield 163, 3) := by decide +kernel
theorem dX3_told_83 : decode cX3_told 83 = .ok (.ireturn, 1) := by decide +kernel
theorem dX3_told_84 : decode cX3_told 84 = .ok (.aload_n 0, 1) := by decide +kernel
theorem dX3_told_85 : decode cX3_told 85 = .ok (.getfield 10, 3) := by decide +kernel
theorem dX3_told_88 : decode cX3_told 88 = .ok (.getfield 52, 3) := by decide +kernel
theorem dX3_told_91 : decode cX3_told 91 = .ok (.ireturn, 1) := by decide +kernel
theorem dX3_told_92 : decode cX3_told 92 = .ok (.aload_n 0, 1) := by decide +kernel
theorem dX3_told_93 : decode cX3_told 93 = .ok (.getfield 10, 3) := by decide +kernel
theorem dX3_told_96 : decode cX3_told 96 = .ok (.invokevirtual 70, 3) := by decide +kernel
theorem dX3_told_99 : decode cX3_told 99 = .ok (.ifCond .eq 7, 3) := by decide +kernel
theorem dX3_told_102 : decode cX3_told 102 = .ok (.iconst 1, 1) := by decide +kernel
theorem dX3_told_103 : decode cX3_told 103 = .ok (.goto 4, 3) := by decide +kernel
theorem dX3_told_106 : decode cX3_told 106 = .ok (.iconst 0, 1) := by decide +kernel
theorem dX3_told_107 : decode cX3_told 107 = .ok (.ireturn, 1) := by decide +kernel
theorem dX3_told_108 : decode cX3_told 108 = .ok (.bipush (-2), 2) := by decide +kernel
theorem dX3_told_110 : decode cX3_told 110 = .ok (.ireturn, 1) := by decide +kernel
set_option maxRecDepth 20000 in
theorem ggX3_take_X1_become : GoodIn wsX3_take wsX1_become := goodIn_r _ [8, 9, 10, 11, 12, 13, 14, 15, 16, 17, 18, 19, 20, 21, 22, 23, 24, 25, 26, 67, 68, 69, 70, 71, 72] (by decide +kernel) (by decide +kernel)
set_option maxRecDepth 20000 in
theorem gX3_take_X1_become : GoodIn wsX3_take (wsV RX3 173 RX1 yX1_become wsX1_become) := goodIn_app (goodIn_of _ (by decide +kernel)) ggX3_take_X1_become
set_option maxRecDepth 20000 in
theorem ggX3_take_X2_become : GoodIn wsX3_take wsX2_become := goodIn_r _ [31, 32, 33, 34, 35, 36, 37, 38, 39, 16, 40, 41, 42, 43, 23, 24, 25, 26, 44, 45, 30, 46, 47, 48, 49, 50, 51, 52, 53, 54, 55, 56, 57, 58, 59, 60, 73, 74, 75] (by decide +kernel) (by decide +kernel)
set_option maxRecDepth 20000 in
theorem gX3_take_X2_become : GoodIn wsX3_take (wsV RX3 176 RX2 yX2_become wsX2_become) := goodIn_app (goodIn_of _ (by decide +kernel)) ggX3_take_X2_become
theorem dX3_take_0 : decode cX3_take 0 = .ok (.aload_n 0, 1) := by decide +kernel
theorem dX3_take_1 : decode cX3_take 1 = .ok (.getfield 10, 3) := by decide +kernel
theorem dX3_take_4 : decode cX3_take 4 = .ok (.iload_n 1, 1) := by decide +kernel
theorem dX3_take_5 : decode cX3_take 5 = .ok (.iload_n 2, 1) := by decide +kernel
theorem dX3_take_6 : decode cX3_take 6 = .ok (.iload_n 3, 1) := by decide +kernel
theorem dX3_take_7 : decode cX3_take 7 = .ok (.iload 4, 2) := by decide +kernel
theorem dX3_take_9 : decode cX3_take 9 = .ok (.invokevirtual 173, 3) := by decide +kernel
theorem dX3_take_12 : decode cX3_take 12 = .ok (.aload_n 0, 1) := by decide +kernel
theorem dX3_take_13 : decode cX3_take 13 = .ok (.getfield 19, 3) := by decide +kernel
theorem dX3_take_16 : decode cX3_take 16 = .ok (.aload_n 0, 1) := by decide +kernel
theorem dX3_take_17 : decode cX3_take 17 = .ok (.getfield 10, 3) := by decide +kernel
theorem dX3_take_20 : decode cX3_take 20 = .ok (.getfield 52, 3) := by decide +kernel
theorem dX3_take_23 : decode cX3_take 23 = .ok (.invokevirtual 176, 3) := by decide +kernel
theorem dX3_take_26 : decode cX3_take 26 = .ok (.return_, 1) := by decide +kernel
set_option maxRecDepth 20000 in
theorem ggX3_isSlot_X3_isWithin : GoodIn wsX3_isSlot wsX3_isWithin := goodIn_r _ [6] (by decide +kernel) (by decide +kernel)
set_option maxRecDepth 20000 in
theorem gX3_isSlot_X3_isWithin : GoodIn wsX3_isSlot (va_wsS RX3 44 yX3_isWithin wsX3_isWithin) := goodIn_app (goodIn_of _ (by decide +kernel)) ggX3_isSlot_X3_isWithin
theorem dX3_isSlot_0 : decode cX3_isSlot 0 = .ok (.iload_n 1, 1) := by decide +kernel
theorem dX3_isSlot_1 : decode cX3_isSlot 1 = .ok (.iconst 0, 1) := by decide +kernel
theorem dX3_isSlot_2 : decode cX3_isSlot 2 = .ok (.aload_n 0, 1) := by decide +kernel
theorem dX3_isSlot_3 : decode cX3_isSlot 3 = .ok (.getfield 10, 3) := by decide +kernel
theorem dX3_isSlot_6 : decode cX3_isSlot 6 = .ok (.getfield 56, 3) := by decide +kernel
theorem dX3_isSlot_9 : decode cX3_isSlot 9 = .ok (.iconst 1, 1) := by decide +kernel
theorem dX3_isSlot_10 : decode cX3_isSlot 10 = .ok (.isub, 1) := by decide +kernel
theorem dX3_isSlot_11 : decode cX3_isSlot 11 = .ok (.invokestatic 44, 3) := by decide +kernel
theorem dX3_isSlot_14 : decode cX3_isSlot 14 = .ok (.ireturn, 1) := by decide +kernel
set_option maxRecDepth 20000 in
theorem ggX3_isPhase_X3_isWithin : GoodIn wsX3_isPhase wsX3_isWithin := goodIn_r _ [6] (by decide +kernel) (by decide +kernel)
set_option maxRecDepth 20000 in
theorem gX3_isPhase_X3_isWithin : GoodIn wsX3_isPhase (va_wsS RX3 44 yX3_isWithin wsX3_isWithin) := goodIn_app (goodIn_of _ (by decide +kernel)) ggX3_isPhase_X3_isWithin
theorem dX3_isPhase_0 : decode cX3_isPhase 0 = .ok (.iload_n 1, 1) := by decide +kernel
theorem dX3_isPhase_1 : decode cX3_isPhase 1 = .ok (.iconst 0, 1) := by decide +kernel
theorem dX3_isPhase_2 : decode cX3_isPhase 2 = .ok (.aload_n 0, 1) := by decide +kernel
theorem dX3_isPhase_3 : decode cX3_isPhase 3 = .ok (.getfield 10, 3) := by decide +kernel
theorem dX3_isPhase_6 : decode cX3_isPhase 6 = .ok (.getfield 106, 3) := by decide +kernel
theorem dX3_isPhase_9 : decode cX3_isPhase 9 = .ok (.iconst 1, 1) := by decide +kernel
theorem dX3_isPhase_10 : decode cX3_isPhase 10 = .ok (.isub, 1) := by decide +kernel
theorem dX3_isPhase_11 : decode cX3_isPhase 11 = .ok (.invokestatic 44, 3) := by decide +kernel
theorem dX3_isPhase_14 : decode cX3_isPhase 14 = .ok (.ireturn, 1) := by decide +kernel
set_option maxRecDepth 20000 in
theorem ggX3_isWave_X3_isWithin : GoodIn wsX3_isWave wsX3_isWithin := goodIn_r _ [4] (by decide +kernel) (by decide +kernel)
set_option maxRecDepth 20000 in
theorem gX3_isWave_X3_isWithin : GoodIn wsX3_isWave (va_wsS RX3 44 yX3_isWithin wsX3_isWithin) := goodIn_app (goodIn_of _ (by decide +kernel)) ggX3_isWave_X3_isWithin
theorem dX3_isWave_0 : decode cX3_isWave 0 = .ok (.iload_n 0, 1) := by decide +kernel
theorem dX3_isWave_1 : decode cX3_isWave 1 = .ok (.iconst 1, 1) := by decide +kernel
theorem dX3_isWave_2 : decode cX3_isWave 2 = .ok (.bipush 99, 2) := by decide +kernel
theorem dX3_isWave_4 : decode cX3_isWave 4 = .ok (.invokestatic 44, 3) := by decide +kernel
theorem dX3_isWave_7 : decode cX3_isWave 7 = .ok (.ireturn, 1) := by decide +kernel
set_option maxRecDepth 20000 in
theorem ggX3_addUp_J7_fill_53178 : GoodIn wsX3_addUp wsJ7_fill_53178 := goodIn_r _ [7] (by decide +kernel) (by decide +kernel)
set_option maxRecDepth 20000 in
theorem gX3_addUp_J7_fill_53178 : GoodIn wsX3_addUp (va_wsS RX3 179 yJ7_fill_53178 wsJ7_fill_53178) := goodIn_app (goodIn_of _ (by decide +kernel)) ggX3_addUp_J7_fill_53178
set_option maxRecDepth 20000 in
theorem ggX3_addUp_X1_phaseOf : GoodIn wsX3_addUp wsX1_phaseOf := goodIn_r _ [12, 13, 14, 15, 16, 11, 17, 18, 19, 20, 21, 22, 23, 24, 25, 26, 27, 28, 29, 30, 68, 69, 70, 71, 72, 73] (by decide +kernel) (by decide +kernel)
set_option maxRecDepth 20000 in
theorem gX3_addUp_X1_phaseOf : GoodIn wsX3_addUp (wsV RX3 84 RX1 yX1_phaseOf wsX1_phaseOf) := goodIn_app (goodIn_of _ (by decide +kernel)) ggX3_addUp_X1_phaseOf
set_option maxRecDepth 20000 in
theorem ggX3_addUp_X1_isForward : GoodIn wsX3_addUp wsX1_isForward := goodIn_r _ [34, 14, 15, 16, 11, 17, 13, 18, 19, 20, 21, 22, 23, 24, 25, 26, 27, 28, 29, 30, 68, 69, 70, 71, 72, 73] (by decide +kernel) (by decide +kernel)
set_option maxRecDepth 20000 in
theorem gX3_addUp_X1_isForward : GoodIn wsX3_addUp (wsV RX3 87 RX1 yX1_isForward wsX1_isForward) := goodIn_app (goodIn_of _ (by decide +kernel)) ggX3_addUp_X1_isForward
set_option maxRecDepth 20000 in
theorem ggX3_addUp_X1_turnOf : GoodIn wsX3_addUp wsX1_turnOf := goodIn_r _ [22, 23, 24, 25, 26, 27, 28, 29, 30, 68, 69, 70, 71, 72, 73] (by decide +kernel) (by decide +kernel)
set_option maxRecDepth 20000 in
theorem gX3_addUp_X1_turnOf : GoodIn wsX3_addUp (wsV RX3 74 RX1 yX1_turnOf wsX1_turnOf) := goodIn_app (goodIn_of _ (by decide +kernel)) ggX3_addUp_X1_turnOf
set_option maxRecDepth 20000 in
theorem ggX3_addUp_X3_addPower : GoodIn wsX3_addUp wsX3_addPower := goodIn_r _ [39, 1, 2, 40, 26, 27, 28, 41, 42, 43, 44, 45, 46, 47, 48, 49, 62, 63, 64, 65, 66, 67, 68, 69, 70, 71, 72, 73] (by decide +kernel) (by decide +kernel)
set_option maxRecDepth 20000 in
theorem gX3_addUp_X3_addPower : GoodIn wsX3_addUp (wsV RX3 185 RX3 yX3_addPower wsX3_addPower) := goodIn_app (goodIn_of _ (by decide +kernel)) ggX3_addUp_X3_addPower
set_option maxRecDepth 20000 in
theorem ggX3_addUp_X1_endOf : GoodIn wsX3_addUp wsX1_endOf := goodIn_r _ [53, 24, 26, 27, 28, 68, 69, 70, 71, 72, 73] (by decide +kernel) (by decide +kernel)
set_option maxRecDepth 20000 in
theorem gX3_addUp_X1_endOf : GoodIn wsX3_addUp (wsV RX3 90 RX1 yX1_endOf wsX1_endOf) := goodIn_app (goodIn_of _ (by decide +kernel)) ggX3_addUp_X1_endOf
set_option maxRecDepth 20000 in
theorem ggX3_addUp_X2_reduce : GoodIn wsX3_addUp wsX2_reduce := goodIn_r _ [58, 59, 60, 61, 42, 27, 43, 44, 45, 46, 48, 49, 74, 75, 76] (by decide +kernel) (by decide +kernel)
set_option maxRecDepth 20000 in
theorem gX3_addUp_X2_reduce : GoodIn wsX3_addUp (wsV RX3 188 RX2 yX2_reduce wsX2_reduce) := goodIn_app (goodIn_of _ (by decide +kernel)) ggX3_addUp_X2_reduce
theorem dX3_addUp_0 : decode cX3_addUp 0 = .ok (.aload_n 1, 1) := by decide +kernel
theorem dX3_addUp_1 : decode cX3_addUp 1 = .ok (.iconst 0, 1) := by decide +kernel
theorem dX3_addUp_2 : decode cX3_addUp 2 = .ok (.invokestatic 179, 3) := by decide +kernel
theorem dX3_addUp_5 : decode cX3_addUp 5 = .ok (.iconst 0, 1) := by decide +kernel
theorem dX3_addUp_6 : decode cX3_addUp 6 = .ok (.istore 5, 2) := by decide +kernel
theorem dX3_addUp_8 : decode cX3_addUp 8 = .ok (.iload 5, 2) := by decide +kernel
theorem dX3_addUp_10 : decode cX3_addUp 10 = .ok (.aload_n 0, 1) := by decide +kernel
theorem dX3_addUp_11 : decode cX3_addUp 11 = .ok (.getfield 10, 3) := by decide +kernel
theorem dX3_addUp_14 : decode cX3_addUp 14 = .ok (.getfield 52, 3) := by decide +kernel
theorem dX3_addUp_17 : decode cX3_addUp 17 = .ok (.if_icmp .ge 87, 3) := by decide +kernel
theorem dX3_addUp_20 : decode cX3_addUp 20 = .ok (.aload_n 0, 1) := by decide +kernel
theorem dX3_addUp_21 : decode cX3_addUp 21 = .ok (.getfield 10, 3) := by decide +kernel
theorem dX3_addUp_24 : decode cX3_addUp 24 = .ok (.iload 5, 2) := by decide +kernel
theorem dX3_addUp_26 : decode cX3_addUp 26 = .ok (.invokevirtual 84, 3) := by decide +kernel
theorem dX3_addUp_29 : decode cX3_addUp 29 = .ok (.iload_n 2, 1) := by decide +kernel
theorem dX3_addUp_30 : decode cX3_addUp 30 = .ok (.if_icmp .ne 68, 3) := by decide +kernel
theorem dX3_addUp_33 : decode cX3_addUp 33 = .ok (.aload_n 0, 1) := by decide +kernel
theorem dX3_addUp_34 : decode cX3_addUp 34 = .ok (.getfield 10, 3) := by decide +kernel
theorem dX3_addUp_37 : decode cX3_addUp 37 = .ok (.iload 5, 2) := by decide +kernel
theorem dX3_addUp_39 : decode cX3_addUp 39 = .ok (.invokevirtual 87, 3) := by decide +kernel
theorem dX3_addUp_42 : decode cX3_addUp 42 = .ok (.ifCond .eq 7, 3) := by decide +kernel
theorem dX3_addUp_45 : decode cX3_addUp 45 = .ok (.iconst 1, 1) := by decide +kernel
theorem dX3_addUp_46 : decode cX3_addUp 46 = .ok (.goto 4, 3) := by decide +kernel
theorem dX3_addUp_49 : decode cX3_addUp 49 = .ok (.iconst (-1), 1) := by decide +kernel
theorem dX3_addUp_50 : decode cX3_addUp 50 = .ok (.istore 6, 2) := by decide +kernel
theorem dX3_addUp_52 : decode cX3_addUp 52 = .ok (.aload_n 0, 1) := by decide +kernel
theorem dX3_addUp_53 : decode cX3_addUp 53 = .ok (.aload_n 1, 1) := by decide +kernel
theorem dX3_addUp_54 : decode cX3_addUp 54 = .ok (.iload_n 3, 1) := by decide +kernel
theorem dX3_addUp_55 : decode cX3_addUp 55 = .ok (.aload_n 0, 1) := by decide +kernel
theorem dX3_addUp_56 : decode cX3_addUp 56 = .ok (.getfield 10, 3) := by decide +kernel
theorem dX3_addUp_59 : decode cX3_addUp 59 = .ok (.iload 5, 2) := by decide +kernel
theorem dX3_addUp_61 : decode cX3_addUp 61 = .ok (.invokevirtual 74, 3) := by decide +kernel
theorem dX3_addUp_64 : decode cX3_addUp 64 = .ok (.imul, 1) := by decide +kernel
theorem dX3_addUp_65 : decode cX3_addUp 65 = .ok (.iload 6, 2) := by decide +kernel
theorem dX3_addUp_67 : decode cX3_addUp 67 = .ok (.invokevirtual 185, 3) := by decide +kernel
theorem dX3_addUp_70 : decode cX3_addUp 70 = .ok (.aload_n 0, 1) := by decide +kernel
theorem dX3_addUp_71 : decode cX3_addUp 71 = .ok (.aload_n 1, 1) := by decide +kernel
theorem dX3_addUp_72 : decode cX3_addUp 72 = .ok (.iload_n 3, 1) := by decide +kernel
theorem dX3_addUp_73 : decode cX3_addUp 73 = .ok (.aload_n 0, 1) := by decide +kernel
theorem dX3_addUp_74 : decode cX3_addUp 74 = .ok (.getfield 10, 3) := by decide +kernel
theorem dX3_addUp_77 : decode cX3_addUp 77 = .ok (.aload_n 0, 1) := by decide +kernel
theorem dX3_addUp_78 : decode cX3_addUp 78 = .ok (.getfield 10, 3) := by decide +kernel
theorem dX3_addUp_81 : decode cX3_addUp 81 = .ok (.iload 5, 2) := by decide +kernel
theorem dX3_addUp_83 : decode cX3_addUp 83 = .ok (.iload 4, 2) := by decide +kernel
theorem dX3_addUp_85 : decode cX3_addUp 85 = .ok (.invokevirtual 90, 3) := by decide +kernel
theorem dX3_addUp_88 : decode cX3_addUp 88 = .ok (.invokevirtual 74, 3) := by decide +kernel
theorem dX3_addUp_91 : decode cX3_addUp 91 = .ok (.imul, 1) := by decide +kernel
theorem dX3_addUp_92 : decode cX3_addUp 92 = .ok (.iload 6, 2) := by decide +kernel
theorem dX3_addUp_94 : decode cX3_addUp 94 = .ok (.ineg, 1) := by decide +kernel
theorem dX3_addUp_95 : decode cX3_addUp 95 = .ok (.invokevirtual 185, 3) := by decide +kernel
theorem dX3_addUp_98 : decode cX3_addUp 98 = .ok (.iinc 5 1, 3) := by decide +kernel
theorem dX3_addUp_101 : decode cX3_addUp 101 = .ok (.goto (-93), 3) := by decide +kernel
theorem dX3_addUp_104 : decode cX3_addUp 104 = .ok (.aload_n 0, 1) := by decide +kernel
theorem dX3_addUp_105 : decode cX3_addUp 105 = .ok (.getfield 19, 3) := by decide +kernel
theorem dX3_addUp_108 : decode cX3_addUp 108 = .ok (.aload_n 1, 1) := by decide +kernel
theorem dX3_addUp_109 : decode cX3_addUp 109 = .ok (.invokevirtual 188, 3) := by decide +kernel
theorem dX3_addUp_112 : decode cX3_addUp 112 = .ok (.return_, 1) := by decide +kernel
set_option maxRecDepth 20000 in
theorem ggX3_addPower_X3_leftOver : GoodIn wsX3_addPower wsX3_leftOver := goodIn_r _ [6] (by decide +kernel) (by decide +kernel)
set_option maxRecDepth 20000 in
theorem gX3_addPower_X3_leftOver : GoodIn wsX3_addPower (va_wsS RX3 166 yX3_leftOver wsX3_leftOver) := goodIn_app (goodIn_of _ (by decide +kernel)) ggX3_addPower_X3_leftOver
set_option maxRecDepth 20000 in
theorem ggX3_addPower_X3_at : GoodIn wsX3_addPower wsX3_at := goodIn_r _ [9, 10, 11, 5, 12] (by decide +kernel) (by decide +kernel)
set_option maxRecDepth 20000 in
theorem gX3_addPower_X3_at : GoodIn wsX3_addPower (va_wsS RX3 121 yX3_at wsX3_at) := goodIn_app (goodIn_of _ (by decide +kernel)) ggX3_addPower_X3_at
set_option maxRecDepth 20000 in
theorem ggX3_addPower_X3_put : GoodIn wsX3_addPower wsX3_put := goodIn_r _ [15, 10, 11, 5, 12] (by decide +kernel) (by decide +kernel)
set_option maxRecDepth 20000 in
theorem gX3_addPower_X3_put : GoodIn wsX3_addPower (va_wsS RX3 169 yX3_put wsX3_put) := goodIn_app (goodIn_of _ (by decide +kernel)) ggX3_addPower_X3_put
theorem dX3_addPower_0 : decode cX3_addPower 0 = .ok (.iload_n 2, 1) := by decide +kernel
theorem dX3_addPower_1 : decode cX3_addPower 1 = .ok (.aload_n 0, 1) := by decide +kernel
theorem dX3_addPower_2 : decode cX3_addPower 2 = .ok (.getfield 10, 3) := by decide +kernel
theorem dX3_addPower_5 : decode cX3_addPower 5 = .ok (.getfield 52, 3) := by decide +kernel
theorem dX3_addPower_8 : decode cX3_addPower 8 = .ok (.invokestatic 166, 3) := by decide +kernel
theorem dX3_addPower_11 : decode cX3_addPower 11 = .ok (.istore 4, 2) := by decide +kernel
theorem dX3_addPower_13 : decode cX3_addPower 13 = .ok (.aload_n 1, 1) := by decide +kernel
theorem dX3_addPower_14 : decode cX3_addPower 14 = .ok (.iload 4, 2) := by decide +kernel
theorem dX3_addPower_16 : decode cX3_addPower 16 = .ok (.aload_n 1, 1) := by decide +kernel
theorem dX3_addPower_17 : decode cX3_addPower 17 = .ok (.iload 4, 2) := by decide +kernel
theorem dX3_addPower_19 : decode cX3_addPower 19 = .ok (.invokestatic 121, 3) := by decide +kernel
theorem dX3_addPower_22 : decode cX3_addPower 22 = .ok (.iload_n 3, 1) := by decide +kernel
theorem dX3_addPower_23 : decode cX3_addPower 23 = .ok (.iadd, 1) := by decide +kernel
theorem dX3_addPower_24 : decode cX3_addPower 24 = .ok (.invokestatic 169, 3) := by decide +kernel
theorem dX3_addPower_27 : decode cX3_addPower 27 = .ok (.return_, 1) := by decide +kernel
set_option maxRecDepth 20000 in
theorem ggX3_isNothing_X3_addUp : GoodIn wsX3_isNothing wsX3_addUp := goodIn_r _ [7, 8, 9, 2, 10, 11, 12, 13, 14, 15, 16, 17, 18, 19, 20, 21, 22, 23, 24, 25, 26, 27, 28, 29, 30, 31, 32, 6, 33, 34, 35, 36, 37, 38, 39, 40, 41, 42, 43, 44, 45, 46, 47, 48, 49, 50, 51, 52, 53, 54, 55, 56, 57, 58, 59, 60, 61, 62, 63, 64, 65, 66, 71, 72, 73, 74, 75, 76, 77, 78, 79, 80, 81, 82, 83, 84, 85] (by decide +kernel) (by decide +kernel)
set_option maxRecDepth 20000 in
theorem gX3_isNothing_X3_addUp : GoodIn wsX3_isNothing (wsV RX3 131 RX3 yX3_addUp wsX3_addUp) := goodIn_app (goodIn_of _ (by decide +kernel)) ggX3_isNothing_X3_addUp
set_option maxRecDepth 20000 in
theorem ggX3_isNothing_X2_isZero : GoodIn wsX3_isNothing wsX2_isZero := goodIn_r _ [70, 65, 47, 6, 48, 49, 50, 51, 83, 84, 85] (by decide +kernel) (by decide +kernel)
set_option maxRecDepth 20000 in
theorem gX3_isNothing_X2_isZero : GoodIn wsX3_isNothing (wsV RX3 191 RX2 yX2_isZero wsX2_isZero) := goodIn_app (goodIn_of _ (by decide +kernel)) ggX3_isNothing_X2_isZero
theorem dX3_isNothing_0 : decode cX3_isNothing 0 = .ok (.aload_n 0, 1) := by decide +kernel
theorem dX3_isNothing_1 : decode cX3_isNothing 1 = .ok (.aload_n 0, 1) := by decide +kernel
theorem dX3_isNothing_2 : decode cX3_isNothing 2 = .ok (.getfield 30, 3) := by decide +kernel
theorem dX3_isNothing_5 : decode cX3_isNothing 5 = .ok (.iconst 0, 1) := by decide +kernel
theorem dX3_isNothing_6 : decode cX3_isNothing 6 = .ok (.iload_n 1, 1) := by decide +kernel
theorem dX3_isNothing_7 : decode cX3_isNothing 7 = .ok (.iload_n 2, 1) := by decide +kernel
theorem dX3_isNothing_8 : decode cX3_isNothing 8 = .ok (.invokevirtual 131, 3) := by decide +kernel
theorem dX3_isNothing_11 : decode cX3_isNothing 11 = .ok (.aload_n 0, 1) := by decide +kernel
theorem dX3_isNothing_12 : decode cX3_isNothing 12 = .ok (.getfield 19, 3) := by decide +kernel
theorem dX3_isNothing_15 : decode cX3_isNothing 15 = .ok (.aload_n 0, 1) := by decide +kernel
theorem dX3_isNothing_16 : decode cX3_isNothing 16 = .ok (.getfield 30, 3) := by decide +kernel
theorem dX3_isNothing_19 : decode cX3_isNothing 19 = .ok (.invokevirtual 191, 3) := by decide +kernel
theorem dX3_isNothing_22 : decode cX3_isNothing 22 = .ok (.ireturn, 1) := by decide +kernel
set_option maxRecDepth 20000 in
theorem ggX3_poleWidth_X3_cut : GoodIn wsX3_poleWidth wsX3_cut := goodIn_r _ [8] (by decide +kernel) (by decide +kernel)
set_option maxRecDepth 20000 in
theorem gX3_poleWidth_X3_cut : GoodIn wsX3_poleWidth (va_wsS RX3 112 yX3_cut wsX3_cut) := goodIn_app (goodIn_of _ (by decide +kernel)) ggX3_poleWidth_X3_cut
theorem dX3_poleWidth_0 : decode cX3_poleWidth 0 = .ok (.iconst 1, 1) := by decide +kernel
theorem dX3_poleWidth_1 : decode cX3_poleWidth 1 = .ok (.iload_n 0, 1) := by decide +kernel
theorem dX3_poleWidth_2 : decode cX3_poleWidth 2 = .ok (.iconst 2, 1) := by decide +kernel
theorem dX3_poleWidth_3 : decode cX3_poleWidth 3 = .ok (.iload_n 1, 1) := by decide +kernel
theorem dX3_poleWidth_4 : decode cX3_poleWidth 4 = .ok (.imul, 1) := by decide +kernel
theorem dX3_poleWidth_5 : decode cX3_poleWidth 5 = .ok (.invokestatic 112, 3) := by decide +kernel
theorem dX3_poleWidth_8 : decode cX3_poleWidth 8 = .ok (.invokestatic 195, 3) := by decide +kernel
theorem dX3_poleWidth_11 : decode cX3_poleWidth 11 = .ok (.ireturn, 1) := by decide +kernel
theorem dX3_isWithin_0 : decode cX3_isWithin 0 = .ok (.iload_n 0, 1) := by decide +kernel
theorem dX3_isWithin_1 : decode cX3_isWithin 1 = .ok (.iload_n 1, 1) := by decide +kernel
theorem dX3_isWithin_2 : decode cX3_isWithin 2 = .ok (.if_icmp .lt 12, 3) := by decide +kernel
theorem dX3_isWithin_5 : decode cX3_isWithin 5 = .ok (.iload_n 0, 1) := by decide +kernel
theorem dX3_isWithin_6 : decode cX3_isWithin 6 = .ok (.iload_n 2, 1) := by decide +kernel
theorem dX3_isWithin_7 : decode cX3_isWithin 7 = .ok (.if_icmp .gt 7, 3) := by decide +kernel
theorem dX3_isWithin_10 : decode cX3_isWithin 10 = .ok (.iconst 1, 1) := by decide +kernel
theorem dX3_isWithin_11 : decode cX3_isWithin 11 = .ok (.goto 4, 3) := by decide +kernel
theorem dX3_isWithin_14 : decode cX3_isWithin 14 = .ok (.iconst 0, 1) := by decide +kernel
theorem dX3_isWithin_15 : decode cX3_isWithin 15 = .ok (.ireturn, 1) := by decide +kernel
set_option maxRecDepth 20000 in
theorem ggX3_commonDivisor_X3_leftOver : GoodIn wsX3_commonDivisor wsX3_leftOver := goodIn_r _ [8] (by decide +kernel) (by decide +kernel)
set_option maxRecDepth 20000 in
theorem gX3_commonDivisor_X3_leftOver : GoodIn wsX3_commonDivisor (va_wsS RX3 166 yX3_leftOver wsX3_leftOver) := goodIn_app (goodIn_of _ (by decide +kernel)) ggX3_commonDivisor_X3_leftOver
theorem dX3_commonDivisor_0 : decode cX3_commonDivisor 0 = .ok (.iload_n 0, 1) := by decide +kernel
theorem dX3_commonDivisor_1 : decode cX3_commonDivisor 1 = .ok (.iload_n 1, 1) := by decide +kernel
theorem dX3_commonDivisor_2 : decode cX3_commonDivisor 2 = .ok (.invokestatic 200, 3) := by decide +kernel
theorem dX3_commonDivisor_5 : decode cX3_commonDivisor 5 = .ok (.istore_n 2, 1) := by decide +kernel
theorem dX3_commonDivisor_6 : decode cX3_commonDivisor 6 = .ok (.iload_n 2, 1) := by decide +kernel
theorem dX3_commonDivisor_7 : decode cX3_commonDivisor 7 = .ok (.iconst 1, 1) := by decide +kernel
theorem dX3_commonDivisor_8 : decode cX3_commonDivisor 8 = .ok (.if_icmp .le 27, 3) := by decide +kernel
theorem dX3_commonDivisor_11 : decode cX3_commonDivisor 11 = .ok (.iload_n 0, 1) := by decide +kernel
theorem dX3_commonDivisor_12 : decode cX3_commonDivisor 12 = .ok (.iload_n 2, 1) := by decide +kernel
theorem dX3_commonDivisor_13 : decode cX3_commonDivisor 13 = .ok (.invokestatic 166, 3) := by decide +kernel
theorem dX3_commonDivisor_16 : decode cX3_commonDivisor 16 = .ok (.ifCond .ne 13, 3) := by decide +kernel
theorem dX3_commonDivisor_19 : decode cX3_commonDivisor 19 = .ok (.iload_n 1, 1) := by decide +kernel
theorem dX3_commonDivisor_20 : decode cX3_commonDivisor 20 = .ok (.iload_n 2, 1) := by decide +kernel
theorem dX3_commonDivisor_21 : decode cX3_commonDivisor 21 = .ok (.invokestatic 166, 3) := by decide +kernel
theorem dX3_commonDivisor_24 : decode cX3_commonDivisor 24 = .ok (.ifCond .ne 5, 3) := by decide +kernel
theorem dX3_commonDivisor_27 : decode cX3_commonDivisor 27 = .ok (.iload_n 2, 1) := by decide +kernel
theorem dX3_commonDivisor_28 : decode cX3_commonDivisor 28 = .ok (.ireturn, 1) := by decide +kernel
theorem dX3_commonDivisor_29 : decode cX3_commonDivisor 29 = .ok (.iinc 2 (-1), 3) := by decide +kernel
theorem dX3_commonDivisor_32 : decode cX3_commonDivisor 32 = .ok (.goto (-26), 3) := by decide +kernel
theorem dX3_commonDivisor_35 : decode cX3_commonDivisor 35 = .ok (.iconst 1, 1) := by decide +kernel
theorem dX3_commonDivisor_36 : decode cX3_commonDivisor 36 = .ok (.ireturn, 1) := by decide +kernel
theorem dX3_leftOver_0 : decode cX3_leftOver 0 = .ok (.iload_n 1, 1) := by decide +kernel
theorem dX3_leftOver_1 : decode cX3_leftOver 1 = .ok (.iconst 1, 1) := by decide +kernel
theorem dX3_leftOver_2 : decode cX3_leftOver 2 = .ok (.if_icmp .ge 5, 3) := by decide +kernel
theorem dX3_leftOver_5 : decode cX3_leftOver 5 = .ok (.iconst 0, 1) := by decide +kernel
theorem dX3_leftOver_6 : decode cX3_leftOver 6 = .ok (.ireturn, 1) := by decide +kernel
theorem dX3_leftOver_7 : decode cX3_leftOver 7 = .ok (.iload_n 0, 1) := by decide +kernel
theorem dX3_leftOver_8 : decode cX3_leftOver 8 = .ok (.iload_n 1, 1) := by decide +kernel
theorem dX3_leftOver_9 : decode cX3_leftOver 9 = .ok (.irem, 1) := by decide +kernel
theorem dX3_leftOver_10 : decode cX3_leftOver 10 = .ok (.istore_n 2, 1) := by decide +kernel
theorem dX3_leftOver_11 : decode cX3_leftOver 11 = .ok (.iload_n 2, 1) := by decide +kernel
theorem dX3_leftOver_12 : decode cX3_leftOver 12 = .ok (.ifCond .ge 9, 3) := by decide +kernel
theorem dX3_leftOver_15 : decode cX3_leftOver 15 = .ok (.iload_n 2, 1) := by decide +kernel
theorem dX3_leftOver_16 : decode cX3_leftOver 16 = .ok (.iload_n 1, 1) := by decide +kernel
theorem dX3_leftOver_17 : decode cX3_leftOver 17 = .ok (.iadd, 1) := by decide +kernel
theorem dX3_leftOver_18 : decode cX3_leftOver 18 = .ok (.goto 4, 3) := by decide +kernel
theorem dX3_leftOver_21 : decode cX3_leftOver 21 = .ok (.iload_n 2, 1) := by decide +kernel
theorem dX3_leftOver_22 : decode cX3_leftOver 22 = .ok (.ireturn, 1) := by decide +kernel
theorem dX3_cut_0 : decode cX3_cut 0 = .ok (.iload_n 1, 1) := by decide +kernel
theorem dX3_cut_1 : decode cX3_cut 1 = .ok (.iconst 1, 1) := by decide +kernel
theorem dX3_cut_2 : decode cX3_cut 2 = .ok (.if_icmp .ge 7, 3) := by decide +kernel
theorem dX3_cut_5 : decode cX3_cut 5 = .ok (.iconst 0, 1) := by decide +kernel
theorem dX3_cut_6 : decode cX3_cut 6 = .ok (.goto 6, 3) := by decide +kernel
theorem dX3_cut_9 : decode cX3_cut 9 = .ok (.iload_n 0, 1) := by decide +kernel
theorem dX3_cut_10 : decode cX3_cut 10 = .ok (.iload_n 1, 1) := by decide +kernel
theorem dX3_cut_11 : decode cX3_cut 11 = .ok (.idiv, 1) := by decide +kernel
theorem dX3_cut_12 : decode cX3_cut 12 = .ok (.ireturn, 1) := by decide +kernel
set_option maxRecDepth 20000 in
theorem ggX3_at_X3_isWithin : GoodIn wsX3_at wsX3_isWithin := goodIn_r _ [4] (by decide +kernel) (by decide +kernel)
set_option maxRecDepth 20000 in
theorem gX3_at_X3_isWithin : GoodIn wsX3_at (va_wsS RX3 44 yX3_isWithin wsX3_isWithin) := goodIn_app (goodIn_of _ (by decide +kernel)) ggX3_at_X3_isWithin
theorem dX3_at_0 : decode cX3_at 0 = .ok (.iload_n 1, 1) := by decide +kernel
theorem dX3_at_1 : decode cX3_at 1 = .ok (.iconst 0, 1) := by decide +kernel
theorem dX3_at_2 : decode cX3_at 2 = .ok (.aload_n 0, 1) := by decide +kernel
theorem dX3_at_3 : decode cX3_at 3 = .ok (.arraylength, 1) := by decide +kernel
theorem dX3_at_4 : decode cX3_at 4 = .ok (.iconst 1, 1) := by decide +kernel
theorem dX3_at_5 : decode cX3_at 5 = .ok (.isub, 1) := by decide +kernel
theorem dX3_at_6 : decode cX3_at 6 = .ok (.invokestatic 44, 3) := by decide +kernel
theorem dX3_at_9 : decode cX3_at 9 = .ok (.ifCond .eq 9, 3) := by decide +kernel
theorem dX3_at_12 : decode cX3_at 12 = .ok (.aload_n 0, 1) := by decide +kernel
theorem dX3_at_13 : decode cX3_at 13 = .ok (.iload_n 1, 1) := by decide +kernel
theorem dX3_at_14 : decode cX3_at 14 = .ok (.iaload, 1) := by decide +kernel
theorem dX3_at_15 : decode cX3_at 15 = .ok (.goto 4, 3) := by decide +kernel
theorem dX3_at_18 : decode cX3_at 18 = .ok (.iconst 0, 1) := by decide +kernel
theorem dX3_at_19 : decode cX3_at 19 = .ok (.ireturn, 1) := by decide +kernel
set_option maxRecDepth 20000 in
theorem ggX3_put_X3_isWithin : GoodIn wsX3_put wsX3_isWithin := goodIn_r _ [4] (by decide +kernel) (by decide +kernel)
set_option maxRecDepth 20000 in
theorem gX3_put_X3_isWithin : GoodIn wsX3_put (va_wsS RX3 44 yX3_isWithin wsX3_isWithin) := goodIn_app (goodIn_of _ (by decide +kernel)) ggX3_put_X3_isWithin
theorem dX3_put_0 : decode cX3_put 0 = .ok (.iload_n 1, 1) := by decide +kernel
theorem dX3_put_1 : decode cX3_put 1 = .ok (.iconst 0, 1) := by decide +kernel
theorem dX3_put_2 : decode cX3_put 2 = .ok (.aload_n 0, 1) := by decide +kernel
theorem dX3_put_3 : decode cX3_put 3 = .ok (.arraylength, 1) := by decide +kernel
theorem dX3_put_4 : decode cX3_put 4 = .ok (.iconst 1, 1) := by decide +kernel
theorem dX3_put_5 : decode cX3_put 5 = .ok (.isub, 1) := by decide +kernel
theorem dX3_put_6 : decode cX3_put 6 = .ok (.invokestatic 44, 3) := by decide +kernel
theorem dX3_put_9 : decode cX3_put 9 = .ok (.ifCond .eq 7, 3) := by decide +kernel
theorem dX3_put_12 : decode cX3_put 12 = .ok (.aload_n 0, 1) := by decide +kernel
theorem dX3_put_13 : decode cX3_put 13 = .ok (.iload_n 1, 1) := by decide +kernel
theorem dX3_put_14 : decode cX3_put 14 = .ok (.iload_n 2, 1) := by decide +kernel
theorem dX3_put_15 : decode cX3_put 15 = .ok (.iastore, 1) := by decide +kernel
theorem dX3_put_16 : decode cX3_put 16 = .ok (.return_, 1) := by decide +kernel
end
section
theorem dX4_init_0 : decode cX4_init 0 = .ok (.aload_n 0, 1) := by decide +kernel
theorem dX4_init_1 : decode cX4_init 1 = .ok (.invokespecial 1, 3) := by decide +kernel
theorem dX4_init_4 : decode cX4_init 4 = .ok (.aload_n 0, 1) := by decide +kernel
theorem dX4_init_5 : decode cX4_init 5 = .ok (.bipush 12, 2) := by decide +kernel
theorem dX4_init_7 : decode cX4_init 7 = .ok (.putfield 7, 3) := by decide +kernel
theorem dX4_init_10 : decode cX4_init 10 = .ok (.aload_n 0, 1) := by decide +kernel
theorem dX4_init_11 : decode cX4_init 11 = .ok (.iconst 1, 1) := by decide +kernel
theorem dX4_init_12 : decode cX4_init 12 = .ok (.putfield 13, 3) := by decide +kernel
theorem dX4_init_15 : decode cX4_init 15 = .ok (.aload_n 0, 1) := by decide +kernel
theorem dX4_init_16 : decode cX4_init 16 = .ok (.iconst 3, 1) := by decide +kernel
theorem dX4_init_17 : decode cX4_init 17 = .ok (.putfield 16, 3) := by decide +kernel
theorem dX4_init_20 : decode cX4_init 20 = .ok (.aload_n 0, 1) := by decide +kernel
theorem dX4_init_21 : decode cX4_init 21 = .ok (.iconst 5, 1) := by decide +kernel
theorem dX4_init_22 : decode cX4_init 22 = .ok (.putfield 19, 3) := by decide +kernel
theorem dX4_init_25 : decode cX4_init 25 = .ok (.aload_n 0, 1) := by decide +kernel
theorem dX4_init_26 : decode cX4_init 26 = .ok (.sipush 2401, 3) := by decide +kernel
theorem dX4_init_29 : decode cX4_init 29 = .ok (.newarray .int, 2) := by decide +kernel
theorem dX4_init_31 : decode cX4_init 31 = .ok (.putfield 22, 3) := by decide +kernel
theorem dX4_init_34 : decode cX4_init 34 = .ok (.aload_n 0, 1) := by decide +kernel
theorem dX4_init_35 : decode cX4_init 35 = .ok (.bipush 49, 2) := by decide +kernel
theorem dX4_init_37 : decode cX4_init 37 = .ok (.newarray .int, 2) := by decide +kernel
theorem dX4_init_39 : decode cX4_init 39 = .ok (.putfield 26, 3) := by decide +kernel
theorem dX4_init_42 : decode cX4_init 42 = .ok (.aload_n 0, 1) := by decide +kernel
theorem dX4_init_43 : decode cX4_init 43 = .ok (.bipush 49, 2) := by decide +kernel
theorem dX4_init_45 : decode cX4_init 45 = .ok (.newarray .int, 2) := by decide +kernel
theorem dX4_init_47 : decode cX4_init 47 = .ok (.putfield 29, 3) := by decide +kernel
theorem dX4_init_50 : decode cX4_init 50 = .ok (.aload_n 0, 1) := by decide +kernel
theorem dX4_init_51 : decode cX4_init 51 = .ok (.bipush 98, 2) := by decide +kernel
theorem dX4_init_53 : decode cX4_init 53 = .ok (.newarray .int, 2) := by decide +kernel
theorem dX4_init_55 : decode cX4_init 55 = .ok (.putfield 32, 3) := by decide +kernel
theorem dX4_init_58 : decode cX4_init 58 = .ok (.aload_n 0, 1) := by decide +kernel
theorem dX4_init_59 : decode cX4_init 59 = .ok (.bipush 48, 2) := by decide +kernel
theorem dX4_init_61 : decode cX4_init 61 = .ok (.newarray .int, 2) := by decide +kernel
theorem dX4_init_63 : decode cX4_init 63 = .ok (.putfield 35, 3) := by decide +kernel
theorem dX4_init_66 : decode cX4_init 66 = .ok (.aload_n 0, 1) := by decide +kernel
theorem dX4_init_67 : decode cX4_init 67 = .ok (.bipush 48, 2) := by decide +kernel
theorem dX4_init_69 : decode cX4_init 69 = .ok (.newarray .int, 2) := by decide +kernel
theorem dX4_init_71 : decode cX4_init 71 = .ok (.putfield 38, 3) := by decide +kernel
theorem dX4_init_74 : decode cX4_init 74 = .ok (.aload_n 0, 1) := by decide +kernel
theorem dX4_init_75 : decode cX4_init 75 = .ok (.bipush 8, 2) := by decide +kernel
theorem dX4_init_77 : decode cX4_init 77 = .ok (.newarray .int, 2) := by decide +kernel
theorem dX4_init_79 : decode cX4_init 79 = .ok (.putfield 41, 3) := by decide +kernel
theorem dX4_init_82 : decode cX4_init 82 = .ok (.aload_n 0, 1) := by decide +kernel
theorem dX4_init_83 : decode cX4_init 83 = .ok (.iconst 2, 1) := by decide +kernel
theorem dX4_init_84 : decode cX4_init 84 = .ok (.newarray .boolean, 2) := by decide +kernel
theorem dX4_init_86 : decode cX4_init 86 = .ok (.putfield 44, 3) := by decide +kernel
theorem dX4_init_89 : decode cX4_init 89 = .ok (.return_, 1) := by decide +kernel
theorem dX4_in_0 : decode cX4_in 0 = .ok (.iload_n 0, 1) := by decide +kernel
theorem dX4_in_1 : decode cX4_in 1 = .ok (.iload_n 1, 1) := by decide +kernel
theorem dX4_in_2 : decode cX4_in 2 = .ok (.if_icmp .lt 12, 3) := by decide +kernel
theorem dX4_in_5 : decode cX4_in 5 = .ok (.iload_n 0, 1) := by decide +kernel
theorem dX4_in_6 : decode cX4_in 6 = .ok (.iload_n 2, 1) := by decide +kernel
theorem dX4_in_7 : decode cX4_in 7 = .ok (.if_icmp .gt 7, 3) := by decide +kernel
theorem dX4_in_10 : decode cX4_in 10 = .ok (.iconst 1, 1) := by decide +kernel
theorem dX4_in_11 : decode cX4_in 11 = .ok (.goto 4, 3) := by decide +kernel
theorem dX4_in_14 : decode cX4_in 14 = .ok (.iconst 0, 1) := by decide +kernel
theorem dX4_in_15 : decode cX4_in 15 = .ok (.ireturn, 1) := by decide +kernel
theorem dX4_common_0 : decode cX4_common 0 = .ok (.iload_n 0, 1) := by decide +kernel
theorem dX4_common_1 : decode cX4_common 1 = .ok (.istore_n 2, 1) := by decide +kernel
theorem dX4_common_2 : decode cX4_common 2 = .ok (.iload_n 1, 1) := by decide +kernel
theorem dX4_common_3 : decode cX4_common 3 = .ok (.istore_n 3, 1) := by decide +kernel
theorem dX4_common_4 : decode cX4_common 4 = .ok (.iload_n 3, 1) := by decide +kernel
theorem dX4_common_5 : decode cX4_common 5 = .ok (.ifCond .le 16, 3) := by decide +kernel
theorem dX4_common_8 : decode cX4_common 8 = .ok (.iload_n 2, 1) := by decide +kernel
theorem dX4_common_9 : decode cX4_common 9 = .ok (.iload_n 3, 1) := by decide +kernel
theorem dX4_common_10 : decode cX4_common 10 = .ok (.irem, 1) := by decide +kernel
theorem dX4_common_11 : decode cX4_common 11 = .ok (.istore 4, 2) := by decide +kernel
theorem dX4_common_13 : decode cX4_common 13 = .ok (.iload_n 3, 1) := by decide +kernel
theorem dX4_common_14 : decode cX4_common 14 = .ok (.istore_n 2, 1) := by decide +kernel
theorem dX4_common_15 : decode cX4_common 15 = .ok (.iload 4, 2) := by decide +kernel
theorem dX4_common_17 : decode cX4_common 17 = .ok (.istore_n 3, 1) := by decide +kernel
theorem dX4_common_18 : decode cX4_common 18 = .ok (.goto (-14), 3) := by decide +kernel
theorem dX4_common_21 : decode cX4_common 21 = .ok (.iload_n 2, 1) := by decide +kernel
theorem dX4_common_22 : decode cX4_common 22 = .ok (.ireturn, 1) := by decide +kernel
set_option maxRecDepth 20000 in
theorem ggX4_copies_X4_common : GoodIn wsX4_copies wsX4_common := goodIn_r _ [6] (by decide +kernel) (by decide +kernel)
set_option maxRecDepth 20000 in
theorem gX4_copies_X4_common : GoodIn wsX4_copies (va_wsS RX4 48 yX4_common wsX4_common) := goodIn_app (goodIn_of _ (by decide +kernel)) ggX4_copies_X4_common
theorem dX4_copies_0 : decode cX4_copies 0 = .ok (.aload_n 0, 1) := by decide +kernel
theorem dX4_copies_1 : decode cX4_copies 1 = .ok (.getfield 7, 3) := by decide +kernel
theorem dX4_copies_4 : decode cX4_copies 4 = .ok (.aload_n 0, 1) := by decide +kernel
theorem dX4_copies_5 : decode cX4_copies 5 = .ok (.getfield 13, 3) := by decide +kernel
theorem dX4_copies_8 : decode cX4_copies 8 = .ok (.invokestatic 48, 3) := by decide +kernel
theorem dX4_copies_11 : decode cX4_copies 11 = .ok (.ireturn, 1) := by decide +kernel
set_option maxRecDepth 20000 in
theorem ggX4_star_X4_copies : GoodIn wsX4_star wsX4_copies := goodIn_r _ [6, 1, 7, 8, 9, 5, 10, 11, 12, 13, 14, 15, 16, 17, 18, 19, 20, 21, 22, 23, 24, 25, 26] (by decide +kernel) (by decide +kernel)
set_option maxRecDepth 20000 in
theorem gX4_star_X4_copies : GoodIn wsX4_star (wsV RX4 52 RX4 yX4_copies wsX4_copies) := goodIn_app (goodIn_of _ (by decide +kernel)) ggX4_star_X4_copies
theorem dX4_star_0 : decode cX4_star 0 = .ok (.aload_n 0, 1) := by decide +kernel
theorem dX4_star_1 : decode cX4_star 1 = .ok (.getfield 7, 3) := by decide +kernel
theorem dX4_star_4 : decode cX4_star 4 = .ok (.aload_n 0, 1) := by decide +kernel
theorem dX4_star_5 : decode cX4_star 5 = .ok (.invokevirtual 52, 3) := by decide +kernel
theorem dX4_star_8 : decode cX4_star 8 = .ok (.idiv, 1) := by decide +kernel
theorem dX4_star_9 : decode cX4_star 9 = .ok (.ireturn, 1) := by decide +kernel
set_option maxRecDepth 20000 in
theorem ggX4_isBalanced_X4_star : GoodIn wsX4_isBalanced wsX4_star := goodIn_r _ [6, 7, 8, 9, 10, 5, 11, 12, 13, 14, 15, 16, 17, 18, 19, 20, 21, 22, 23, 24, 25, 26, 27, 28, 29, 30, 31] (by decide +kernel) (by decide +kernel)
set_option maxRecDepth 20000 in
theorem gX4_isBalanced_X4_star : GoodIn wsX4_isBalanced (wsV RX4 56 RX4 yX4_star wsX4_star) := goodIn_app (goodIn_of _ (by decide +kernel)) ggX4_isBalanced_X4_star
theorem dX4_isBalanced_0 : decode cX4_isBalanced 0 = .ok (.aload_n 0, 1) := by decide +kernel
theorem dX4_isBalanced_1 : decode cX4_isBalanced 1 = .ok (.invokevirtual 56, 3) := by decide +kernel
theorem dX4_isBalanced_4 : decode cX4_isBalanced 4 = .ok (.aload_n 0, 1) := by decide +kernel
theorem dX4_isBalanced_5 : decode cX4_isBalanced 5 = .ok (.getfield 16, 3) := by decide +kernel
theorem dX4_isBalanced_8 : decode cX4_isBalanced 8 = .ok (.irem, 1) := by decide +kernel
theorem dX4_isBalanced_9 : decode cX4_isBalanced 9 = .ok (.ifCond .ne 7, 3) := by decide +kernel
theorem dX4_isBalanced_12 : decode cX4_isBalanced 12 = .ok (.iconst 1, 1) := by decide +kernel
theorem dX4_isBalanced_13 : decode cX4_isBalanced 13 = .ok (.goto 4, 3) := by decide +kernel
theorem dX4_isBalanced_16 : decode cX4_isBalanced 16 = .ok (.iconst 0, 1) := by decide +kernel
theorem dX4_isBalanced_17 : decode cX4_isBalanced 17 = .ok (.ireturn, 1) := by decide +kernel
set_option maxRecDepth 20000 in
theorem ggX4_isSlot_X4_in : GoodIn wsX4_isSlot wsX4_in := goodIn_r _ [5] (by decide +kernel) (by decide +kernel)
set_option maxRecDepth 20000 in
theorem gX4_isSlot_X4_in : GoodIn wsX4_isSlot (va_wsS RX4 59 yX4_in wsX4_in) := goodIn_app (goodIn_of _ (by decide +kernel)) ggX4_isSlot_X4_in
theorem dX4_isSlot_0 : decode cX4_isSlot 0 = .ok (.iload_n 1, 1) := by decide +kernel
theorem dX4_isSlot_1 : decode cX4_isSlot 1 = .ok (.iconst 0, 1) := by decide +kernel
theorem dX4_isSlot_2 : decode cX4_isSlot 2 = .ok (.aload_n 0, 1) := by decide +kernel
theorem dX4_isSlot_3 : decode cX4_isSlot 3 = .ok (.getfield 7, 3) := by decide +kernel
theorem dX4_isSlot_6 : decode cX4_isSlot 6 = .ok (.iconst 1, 1) := by decide +kernel
theorem dX4_isSlot_7 : decode cX4_isSlot 7 = .ok (.isub, 1) := by decide +kernel
theorem dX4_isSlot_8 : decode cX4_isSlot 8 = .ok (.invokestatic 59, 3) := by decide +kernel
theorem dX4_isSlot_11 : decode cX4_isSlot 11 = .ok (.ireturn, 1) := by decide +kernel
set_option maxRecDepth 20000 in
theorem ggX4_isPhase_X4_in : GoodIn wsX4_isPhase wsX4_in := goodIn_r _ [5] (by decide +kernel) (by decide +kernel)
set_option maxRecDepth 20000 in
theorem gX4_isPhase_X4_in : GoodIn wsX4_isPhase (va_wsS RX4 59 yX4_in wsX4_in) := goodIn_app (goodIn_of _ (by decide +kernel)) ggX4_isPhase_X4_in
theorem dX4_isPhase_0 : decode cX4_isPhase 0 = .ok (.iload_n 1, 1) := by decide +kernel
theorem dX4_isPhase_1 : decode cX4_isPhase 1 = .ok (.iconst 0, 1) := by decide +kernel
theorem dX4_isPhase_2 : decode cX4_isPhase 2 = .ok (.aload_n 0, 1) := by decide +kernel
theorem dX4_isPhase_3 : decode cX4_isPhase 3 = .ok (.getfield 16, 3) := by decide +kernel
theorem dX4_isPhase_6 : decode cX4_isPhase 6 = .ok (.iconst 1, 1) := by decide +kernel
theorem dX4_isPhase_7 : decode cX4_isPhase 7 = .ok (.isub, 1) := by decide +kernel
theorem dX4_isPhase_8 : decode cX4_isPhase 8 = .ok (.invokestatic 59, 3) := by decide +kernel
theorem dX4_isPhase_11 : decode cX4_isPhase 11 = .ok (.ireturn, 1) := by decide +kernel
theorem dX4_greater_0 : decode cX4_greater 0 = .ok (.iload_n 0, 1) := by decide +kernel
theorem dX4_greater_1 : decode cX4_greater 1 = .ok (.iload_n 1, 1) := by decide +kernel
theorem dX4_greater_2 : decode cX4_greater 2 = .ok (.if_icmp .le 7, 3) := by decide +kernel
theorem dX4_greater_5 : decode cX4_greater 5 = .ok (.iload_n 0, 1) := by decide +kernel
theorem dX4_greater_6 : decode cX4_greater 6 = .ok (.goto 4, 3) := by decide +kernel
theorem dX4_greater_9 : decode cX4_greater 9 = .ok (.iload_n 1, 1) := by decide +kernel
theorem dX4_greater_10 : decode cX4_greater 10 = .ok (.ireturn, 1) := by decide +kernel
set_option maxRecDepth 20000 in
theorem ggX4_pitch_X4_greater : GoodIn wsX4_pitch wsX4_greater := goodIn_r _ [6] (by decide +kernel) (by decide +kernel)
set_option maxRecDepth 20000 in
theorem gX4_pitch_X4_greater : GoodIn wsX4_pitch (va_wsS RX4 63 yX4_greater wsX4_greater) := goodIn_app (goodIn_of _ (by decide +kernel)) ggX4_pitch_X4_greater
theorem dX4_pitch_0 : decode cX4_pitch 0 = .ok (.iconst 1, 1) := by decide +kernel
theorem dX4_pitch_1 : decode cX4_pitch 1 = .ok (.aload_n 0, 1) := by decide +kernel
theorem dX4_pitch_2 : decode cX4_pitch 2 = .ok (.getfield 7, 3) := by decide +kernel
theorem dX4_pitch_5 : decode cX4_pitch 5 = .ok (.iconst 2, 1) := by decide +kernel
theorem dX4_pitch_6 : decode cX4_pitch 6 = .ok (.aload_n 0, 1) := by decide +kernel
theorem dX4_pitch_7 : decode cX4_pitch 7 = .ok (.getfield 13, 3) := by decide +kernel
theorem dX4_pitch_10 : decode cX4_pitch 10 = .ok (.imul, 1) := by decide +kernel
theorem dX4_pitch_11 : decode cX4_pitch 11 = .ok (.idiv, 1) := by decide +kernel
theorem dX4_pitch_12 : decode cX4_pitch 12 = .ok (.invokestatic 63, 3) := by decide +kernel
theorem dX4_pitch_15 : decode cX4_pitch 15 = .ok (.ireturn, 1) := by decide +kernel
set_option maxRecDepth 20000 in
theorem ggX4_machine_X4_in : GoodIn wsX4_machine wsX4_in := goodIn_r _ [8] (by decide +kernel) (by decide +kernel)
set_option maxRecDepth 20000 in
theorem gX4_machine_X4_in : GoodIn wsX4_machine (va_wsS RX4 59 yX4_in wsX4_in) := goodIn_app (goodIn_of _ (by decide +kernel)) ggX4_machine_X4_in
set_option maxRecDepth 20000 in
theorem ggX4_machine_X4_pitch : GoodIn wsX4_machine wsX4_pitch := goodIn_r _ [12, 1, 2, 13, 14, 7, 15, 27, 28, 29, 30, 31, 32, 33, 34, 35, 36, 37, 38, 39, 40, 41, 42] (by decide +kernel) (by decide +kernel)
set_option maxRecDepth 20000 in
theorem gX4_machine_X4_pitch : GoodIn wsX4_machine (wsV RX4 66 RX4 yX4_pitch wsX4_pitch) := goodIn_app (goodIn_of _ (by decide +kernel)) ggX4_machine_X4_pitch
set_option maxRecDepth 20000 in
theorem ggX4_machine_X4_star : GoodIn wsX4_machine wsX4_star := goodIn_r _ [19, 1, 20, 21, 22, 7, 23, 2, 24, 25, 26, 27, 28, 29, 30, 31, 32, 33, 34, 35, 36, 37, 38, 39, 40, 41, 42] (by decide +kernel) (by decide +kernel)
set_option maxRecDepth 20000 in
theorem gX4_machine_X4_star : GoodIn wsX4_machine (wsV RX4 56 RX4 yX4_star wsX4_star) := goodIn_app (goodIn_of _ (by decide +kernel)) ggX4_machine_X4_star
theorem dX4_machine_0 : decode cX4_machine 0 = .ok (.iload_n 1, 1) := by decide +kernel
theorem dX4_machine_1 : decode cX4_machine 1 = .ok (.iconst 3, 1) := by decide +kernel
theorem dX4_machine_2 : decode cX4_machine 2 = .ok (.bipush 48, 2) := by decide +kernel
theorem dX4_machine_4 : decode cX4_machine 4 = .ok (.invokestatic 59, 3) := by decide +kernel
theorem dX4_machine_7 : decode cX4_machine 7 = .ok (.ifCond .eq 23, 3) := by decide +kernel
theorem dX4_machine_10 : decode cX4_machine 10 = .ok (.iload_n 2, 1) := by decide +kernel
theorem dX4_machine_11 : decode cX4_machine 11 = .ok (.iconst 1, 1) := by decide +kernel
theorem dX4_machine_12 : decode cX4_machine 12 = .ok (.bipush 10, 2) := by decide +kernel
theorem dX4_machine_14 : decode cX4_machine 14 = .ok (.invokestatic 59, 3) := by decide +kernel
theorem dX4_machine_17 : decode cX4_machine 17 = .ok (.ifCond .eq 13, 3) := by decide +kernel
theorem dX4_machine_20 : decode cX4_machine 20 = .ok (.iload_n 3, 1) := by decide +kernel
theorem dX4_machine_21 : decode cX4_machine 21 = .ok (.iconst 3, 1) := by decide +kernel
theorem dX4_machine_22 : decode cX4_machine 22 = .ok (.if_icmp .eq 11, 3) := by decide +kernel
theorem dX4_machine_25 : decode cX4_machine 25 = .ok (.iload_n 3, 1) := by decide +kernel
theorem dX4_machine_26 : decode cX4_machine 26 = .ok (.iconst 5, 1) := by decide +kernel
theorem dX4_machine_27 : decode cX4_machine 27 = .ok (.if_icmp .eq 6, 3) := by decide +kernel
theorem dX4_machine_30 : decode cX4_machine 30 = .ok (.bipush (-2), 2) := by decide +kernel
theorem dX4_machine_32 : decode cX4_machine 32 = .ok (.ireturn, 1) := by decide +kernel
theorem dX4_machine_33 : decode cX4_machine 33 = .ok (.aload_n 0, 1) := by decide +kernel
theorem dX4_machine_34 : decode cX4_machine 34 = .ok (.iload_n 1, 1) := by decide +kernel
theorem dX4_machine_35 : decode cX4_machine 35 = .ok (.putfield 7, 3) := by decide +kernel
theorem dX4_machine_38 : decode cX4_machine 38 = .ok (.aload_n 0, 1) := by decide +kernel
theorem dX4_machine_39 : decode cX4_machine 39 = .ok (.iload_n 2, 1) := by decide +kernel
theorem dX4_machine_40 : decode cX4_machine 40 = .ok (.putfield 13, 3) := by decide +kernel
theorem dX4_machine_43 : decode cX4_machine 43 = .ok (.aload_n 0, 1) := by decide +kernel
theorem dX4_machine_44 : decode cX4_machine 44 = .ok (.iload_n 3, 1) := by decide +kernel
theorem dX4_machine_45 : decode cX4_machine 45 = .ok (.putfield 16, 3) := by decide +kernel
theorem dX4_machine_48 : decode cX4_machine 48 = .ok (.aload_n 0, 1) := by decide +kernel
theorem dX4_machine_49 : decode cX4_machine 49 = .ok (.aload_n 0, 1) := by decide +kernel
theorem dX4_machine_50 : decode cX4_machine 50 = .ok (.invokevirtual 66, 3) := by decide +kernel
theorem dX4_machine_53 : decode cX4_machine 53 = .ok (.putfield 19, 3) := by decide +kernel
theorem dX4_machine_56 : decode cX4_machine 56 = .ok (.aload_n 0, 1) := by decide +kernel
theorem dX4_machine_57 : decode cX4_machine 57 = .ok (.invokevirtual 56, 3) := by decide +kernel
theorem dX4_machine_60 : decode cX4_machine 60 = .ok (.ireturn, 1) := by decide +kernel
set_option maxRecDepth 20000 in
theorem ggX4_width_X4_in : GoodIn wsX4_width wsX4_in := goodIn_r _ [6] (by decide +kernel) (by decide +kernel)
set_option maxRecDepth 20000 in
theorem gX4_width_X4_in : GoodIn wsX4_width (va_wsS RX4 59 yX4_in wsX4_in) := goodIn_app (goodIn_of _ (by decide +kernel)) ggX4_width_X4_in
theorem dX4_width_0 : decode cX4_width 0 = .ok (.iload_n 1, 1) := by decide +kernel
theorem dX4_width_1 : decode cX4_width 1 = .ok (.iconst 1, 1) := by decide +kernel
theorem dX4_width_2 : decode cX4_width 2 = .ok (.aload_n 0, 1) := by decide +kernel
theorem dX4_width_3 : decode cX4_width 3 = .ok (.getfield 7, 3) := by decide +kernel
theorem dX4_width_6 : decode cX4_width 6 = .ok (.iconst 1, 1) := by decide +kernel
theorem dX4_width_7 : decode cX4_width 7 = .ok (.isub, 1) := by decide +kernel
theorem dX4_width_8 : decode cX4_width 8 = .ok (.invokestatic 59, 3) := by decide +kernel
theorem dX4_width_11 : decode cX4_width 11 = .ok (.ifCond .ne 6, 3) := by decide +kernel
theorem dX4_width_14 : decode cX4_width 14 = .ok (.bipush (-2), 2) := by decide +kernel
theorem dX4_width_16 : decode cX4_width 16 = .ok (.ireturn, 1) := by decide +kernel
theorem dX4_width_17 : decode cX4_width 17 = .ok (.aload_n 0, 1) := by decide +kernel
theorem dX4_width_18 : decode cX4_width 18 = .ok (.getfield 19, 3) := by decide +kernel
theorem dX4_width_21 : decode cX4_width 21 = .ok (.istore_n 2, 1) := by decide +kernel
theorem dX4_width_22 : decode cX4_width 22 = .ok (.aload_n 0, 1) := by decide +kernel
theorem dX4_width_23 : decode cX4_width 23 = .ok (.iload_n 1, 1) := by decide +kernel
theorem dX4_width_24 : decode cX4_width 24 = .ok (.putfield 19, 3) := by decide +kernel
theorem dX4_width_27 : decode cX4_width 27 = .ok (.iload_n 2, 1) := by decide +kernel
theorem dX4_width_28 : decode cX4_width 28 = .ok (.ireturn, 1) := by decide +kernel
set_option maxRecDepth 20000 in
theorem ggX4_lacking_X4_star : GoodIn wsX4_lacking wsX4_star := goodIn_r _ [6, 7, 8, 9, 10, 5, 11, 12, 13, 14, 15, 16, 17, 18, 19, 20, 21, 22, 23, 24, 25, 26, 27, 28, 29, 30, 31] (by decide +kernel) (by decide +kernel)
set_option maxRecDepth 20000 in
theorem gX4_lacking_X4_star : GoodIn wsX4_lacking (wsV RX4 56 RX4 yX4_star wsX4_star) := goodIn_app (goodIn_of _ (by decide +kernel)) ggX4_lacking_X4_star
set_option maxRecDepth 20000 in
theorem ggX4_lacking_X4_common : GoodIn wsX4_lacking wsX4_common := goodIn_r _ [15] (by decide +kernel) (by decide +kernel)
set_option maxRecDepth 20000 in
theorem gX4_lacking_X4_common : GoodIn wsX4_lacking (va_wsS RX4 48 yX4_common wsX4_common) := goodIn_app (goodIn_of _ (by decide +kernel)) ggX4_lacking_X4_common
theorem dX4_lacking_0 : decode cX4_lacking 0 = .ok (.aload_n 0, 1) := by decide +kernel
theorem dX4_lacking_1 : decode cX4_lacking 1 = .ok (.getfield 16, 3) := by decide +kernel
theorem dX4_lacking_4 : decode cX4_lacking 4 = .ok (.aload_n 0, 1) := by decide +kernel
theorem dX4_lacking_5 : decode cX4_lacking 5 = .ok (.invokevirtual 56, 3) := by decide +kernel
theorem dX4_lacking_8 : decode cX4_lacking 8 = .ok (.aload_n 0, 1) := by decide +kernel
theorem dX4_lacking_9 : decode cX4_lacking 9 = .ok (.getfield 16, 3) := by decide +kernel
theorem dX4_lacking_12 : decode cX4_lacking 12 = .ok (.invokestatic 48, 3) := by decide +kernel
theorem dX4_lacking_15 : decode cX4_lacking 15 = .ok (.idiv, 1) := by decide +kernel
theorem dX4_lacking_16 : decode cX4_lacking 16 = .ok (.ireturn, 1) := by decide +kernel
set_option maxRecDepth 20000 in
theorem ggX4_turn_X4_copies : GoodIn wsX4_turn wsX4_copies := goodIn_r _ [7, 2, 1, 8, 9, 6, 10, 11, 12, 13, 14, 15, 16, 17, 18, 19, 20, 21, 22, 23, 24, 25, 26] (by decide +kernel) (by decide +kernel)
set_option maxRecDepth 20000 in
theorem gX4_turn_X4_copies : GoodIn wsX4_turn (wsV RX4 52 RX4 yX4_copies wsX4_copies) := goodIn_app (goodIn_of _ (by decide +kernel)) ggX4_turn_X4_copies
theorem dX4_turn_0 : decode cX4_turn 0 = .ok (.iload_n 1, 1) := by decide +kernel
theorem dX4_turn_1 : decode cX4_turn 1 = .ok (.aload_n 0, 1) := by decide +kernel
theorem dX4_turn_2 : decode cX4_turn 2 = .ok (.getfield 13, 3) := by decide +kernel
theorem dX4_turn_5 : decode cX4_turn 5 = .ok (.imul, 1) := by decide +kernel
theorem dX4_turn_6 : decode cX4_turn 6 = .ok (.aload_n 0, 1) := by decide +kernel
theorem dX4_turn_7 : decode cX4_turn 7 = .ok (.getfield 7, 3) := by decide +kernel
theorem dX4_turn_10 : decode cX4_turn 10 = .ok (.irem, 1) := by decide +kernel
theorem dX4_turn_11 : decode cX4_turn 11 = .ok (.aload_n 0, 1) := by decide +kernel
theorem dX4_turn_12 : decode cX4_turn 12 = .ok (.invokevirtual 52, 3) := by decide +kernel
theorem dX4_turn_15 : decode cX4_turn 15 = .ok (.idiv, 1) := by decide +kernel
theorem dX4_turn_16 : decode cX4_turn 16 = .ok (.ireturn, 1) := by decide +kernel
set_option maxRecDepth 20000 in
theorem ggX4_zone_X4_turn : GoodIn wsX4_zone wsX4_turn := goodIn_r _ [6, 7, 8, 9, 10, 11, 5, 12, 13, 14, 15, 20, 21, 22, 23, 24, 25, 26, 27, 28, 29, 30, 31, 32, 33, 34, 35] (by decide +kernel) (by decide +kernel)
set_option maxRecDepth 20000 in
theorem gX4_zone_X4_turn : GoodIn wsX4_zone (wsV RX4 69 RX4 yX4_turn wsX4_turn) := goodIn_app (goodIn_of _ (by decide +kernel)) ggX4_zone_X4_turn
set_option maxRecDepth 20000 in
theorem ggX4_zone_X4_star : GoodIn wsX4_zone wsX4_star := goodIn_r _ [19, 8, 9, 10, 11, 5, 12, 7, 13, 14, 15, 20, 21, 22, 23, 24, 25, 26, 27, 28, 29, 30, 31, 32, 33, 34, 35] (by decide +kernel) (by decide +kernel)
set_option maxRecDepth 20000 in
theorem gX4_zone_X4_star : GoodIn wsX4_zone (wsV RX4 56 RX4 yX4_star wsX4_star) := goodIn_app (goodIn_of _ (by decide +kernel)) ggX4_zone_X4_star
theorem dX4_zone_0 : decode cX4_zone 0 = .ok (.iconst 2, 1) := by decide +kernel
theorem dX4_zone_1 : decode cX4_zone 1 = .ok (.aload_n 0, 1) := by decide +kernel
theorem dX4_zone_2 : decode cX4_zone 2 = .ok (.getfield 16, 3) := by decide +kernel
theorem dX4_zone_5 : decode cX4_zone 5 = .ok (.imul, 1) := by decide +kernel
theorem dX4_zone_6 : decode cX4_zone 6 = .ok (.aload_n 0, 1) := by decide +kernel
theorem dX4_zone_7 : decode cX4_zone 7 = .ok (.iload_n 1, 1) := by decide +kernel
theorem dX4_zone_8 : decode cX4_zone 8 = .ok (.invokevirtual 69, 3) := by decide +kernel
theorem dX4_zone_11 : decode cX4_zone 11 = .ok (.imul, 1) := by decide +kernel
theorem dX4_zone_12 : decode cX4_zone 12 = .ok (.aload_n 0, 1) := by decide +kernel
theorem dX4_zone_13 : decode cX4_zone 13 = .ok (.invokevirtual 56, 3) := by decide +kernel
theorem dX4_zone_16 : decode cX4_zone 16 = .ok (.idiv, 1) := by decide +kernel
theorem dX4_zone_17 : decode cX4_zone 17 = .ok (.ireturn, 1) := by decide +kernel
set_option maxRecDepth 20000 in
theorem ggX4_phaseOf_X4_zone : GoodIn wsX4_phaseOf wsX4_zone := goodIn_r _ [6, 1, 7, 8, 9, 5, 10, 11, 12, 13, 14, 15, 16, 17, 18, 19, 20, 21, 22, 23, 24, 25, 26, 27, 28, 29, 30, 31, 32, 33, 34, 35, 36, 37, 38, 39] (by decide +kernel) (by decide +kernel)
set_option maxRecDepth 20000 in
theorem gX4_phaseOf_X4_zone : GoodIn wsX4_phaseOf (wsV RX4 73 RX4 yX4_zone wsX4_zone) := goodIn_app (goodIn_of _ (by decide +kernel)) ggX4_phaseOf_X4_zone
theorem dX4_phaseOf_0 : decode cX4_phaseOf 0 = .ok (.aload_n 0, 1) := by decide +kernel
theorem dX4_phaseOf_1 : decode cX4_phaseOf 1 = .ok (.iload_n 1, 1) := by decide +kernel
theorem dX4_phaseOf_2 : decode cX4_phaseOf 2 = .ok (.invokevirtual 73, 3) := by decide +kernel
theorem dX4_phaseOf_5 : decode cX4_phaseOf 5 = .ok (.istore_n 2, 1) := by decide +kernel
theorem dX4_phaseOf_6 : decode cX4_phaseOf 6 = .ok (.iload_n 2, 1) := by decide +kernel
theorem dX4_phaseOf_7 : decode cX4_phaseOf 7 = .ok (.iconst 2, 1) := by decide +kernel
theorem dX4_phaseOf_8 : decode cX4_phaseOf 8 = .ok (.irem, 1) := by decide +kernel
theorem dX4_phaseOf_9 : decode cX4_phaseOf 9 = .ok (.ifCond .ne 9, 3) := by decide +kernel
theorem dX4_phaseOf_12 : decode cX4_phaseOf 12 = .ok (.iload_n 2, 1) := by decide +kernel
theorem dX4_phaseOf_13 : decode cX4_phaseOf 13 = .ok (.iconst 2, 1) := by decide +kernel
theorem dX4_phaseOf_14 : decode cX4_phaseOf 14 = .ok (.idiv, 1) := by decide +kernel
theorem dX4_phaseOf_15 : decode cX4_phaseOf 15 = .ok (.goto 16, 3) := by decide +kernel
theorem dX4_phaseOf_18 : decode cX4_phaseOf 18 = .ok (.iload_n 2, 1) := by decide +kernel
theorem dX4_phaseOf_19 : decode cX4_phaseOf 19 = .ok (.aload_n 0, 1) := by decide +kernel
theorem dX4_phaseOf_20 : decode cX4_phaseOf 20 = .ok (.getfield 16, 3) := by decide +kernel
theorem dX4_phaseOf_23 : decode cX4_phaseOf 23 = .ok (.iadd, 1) := by decide +kernel
theorem dX4_phaseOf_24 : decode cX4_phaseOf 24 = .ok (.iconst 2, 1) := by decide +kernel
theorem dX4_phaseOf_25 : decode cX4_phaseOf 25 = .ok (.idiv, 1) := by decide +kernel
theorem dX4_phaseOf_26 : decode cX4_phaseOf 26 = .ok (.aload_n 0, 1) := by decide +kernel
theorem dX4_phaseOf_27 : decode cX4_phaseOf 27 = .ok (.getfield 16, 3) := by decide +kernel
theorem dX4_phaseOf_30 : decode cX4_phaseOf 30 = .ok (.irem, 1) := by decide +kernel
theorem dX4_phaseOf_31 : decode cX4_phaseOf 31 = .ok (.ireturn, 1) := by decide +kernel
set_option maxRecDepth 20000 in
theorem ggX4_isForward_X4_zone : GoodIn wsX4_isForward wsX4_zone := goodIn_r _ [5, 6, 7, 8, 9, 4, 10, 11, 12, 13, 14, 15, 16, 17, 18, 19, 20, 21, 22, 23, 24, 25, 26, 27, 28, 29, 30, 31, 32, 33, 34, 35, 36, 37, 38, 39] (by decide +kernel) (by decide +kernel)
set_option maxRecDepth 20000 in
theorem gX4_isForward_X4_zone : GoodIn wsX4_isForward (wsV RX4 73 RX4 yX4_zone wsX4_zone) := goodIn_app (goodIn_of _ (by decide +kernel)) ggX4_isForward_X4_zone
theorem dX4_isForward_0 : decode cX4_isForward 0 = .ok (.aload_n 0, 1) := by decide +kernel
theorem dX4_isForward_1 : decode cX4_isForward 1 = .ok (.iload_n 1, 1) := by decide +kernel
theorem dX4_isForward_2 : decode cX4_isForward 2 = .ok (.invokevirtual 73, 3) := by decide +kernel
theorem dX4_isForward_5 : decode cX4_isForward 5 = .ok (.iconst 2, 1) := by decide +kernel
theorem dX4_isForward_6 : decode cX4_isForward 6 = .ok (.irem, 1) := by decide +kernel
theorem dX4_isForward_7 : decode cX4_isForward 7 = .ok (.ifCond .ne 7, 3) := by decide +kernel
theorem dX4_isForward_10 : decode cX4_isForward 10 = .ok (.iconst 1, 1) := by decide +kernel
theorem dX4_isForward_11 : decode cX4_isForward 11 = .ok (.goto 4, 3) := by decide +kernel
theorem dX4_isForward_14 : decode cX4_isForward 14 = .ok (.iconst 0, 1) := by decide +kernel
theorem dX4_isForward_15 : decode cX4_isForward 15 = .ok (.ireturn, 1) := by decide +kernel
theorem dX4_begins_0 : decode cX4_begins 0 = .ok (.iload_n 1, 1) := by decide +kernel
theorem dX4_begins_1 : decode cX4_begins 1 = .ok (.aload_n 0, 1) := by decide +kernel
theorem dX4_begins_2 : decode cX4_begins 2 = .ok (.getfield 7, 3) := by decide +kernel
theorem dX4_begins_5 : decode cX4_begins 5 = .ok (.iadd, 1) := by decide +kernel
theorem dX4_begins_6 : decode cX4_begins 6 = .ok (.aload_n 0, 1) := by decide +kernel
theorem dX4_begins_7 : decode cX4_begins 7 = .ok (.getfield 19, 3) := by decide +kernel
theorem dX4_begins_10 : decode cX4_begins 10 = .ok (.isub, 1) := by decide +kernel
theorem dX4_begins_11 : decode cX4_begins 11 = .ok (.aload_n 0, 1) := by decide +kernel
theorem dX4_begins_12 : decode cX4_begins 12 = .ok (.getfield 7, 3) := by decide +kernel
theorem dX4_begins_15 : decode cX4_begins 15 = .ok (.irem, 1) := by decide +kernel
theorem dX4_begins_16 : decode cX4_begins 16 = .ok (.ireturn, 1) := by decide +kernel
set_option maxRecDepth 20000 in
theorem ggX4_slot_X4_isSlot : GoodIn wsX4_slot wsX4_isSlot := goodIn_r _ [7, 2, 8, 9, 6, 10, 48, 49, 50, 51, 52, 53, 54, 55, 56, 57, 58, 59, 60, 61, 62, 63] (by decide +kernel) (by decide +kernel)
set_option maxRecDepth 20000 in
theorem gX4_slot_X4_isSlot : GoodIn wsX4_slot (wsV RX4 76 RX4 yX4_isSlot wsX4_isSlot) := goodIn_app (goodIn_of _ (by decide +kernel)) ggX4_slot_X4_isSlot
set_option maxRecDepth 20000 in
theorem ggX4_slot_X4_in : GoodIn wsX4_slot wsX4_in := goodIn_r _ [10] (by decide +kernel) (by decide +kernel)
set_option maxRecDepth 20000 in
theorem gX4_slot_X4_in : GoodIn wsX4_slot (va_wsS RX4 59 yX4_in wsX4_in) := goodIn_app (goodIn_of _ (by decide +kernel)) ggX4_slot_X4_in
set_option maxRecDepth 20000 in
theorem ggX4_slot_X4_isBalanced : GoodIn wsX4_slot wsX4_isBalanced := goodIn_r _ [14, 15, 16, 17, 18, 6, 19, 2, 20, 21, 22, 23, 24, 25, 26, 27, 48, 49, 50, 51, 52, 53, 54, 55, 56, 57, 58, 59, 60, 61, 62, 63] (by decide +kernel) (by decide +kernel)
set_option maxRecDepth 20000 in
theorem gX4_slot_X4_isBalanced : GoodIn wsX4_slot (wsV RX4 80 RX4 yX4_isBalanced wsX4_isBalanced) := goodIn_app (goodIn_of _ (by decide +kernel)) ggX4_slot_X4_isBalanced
set_option maxRecDepth 20000 in
theorem ggX4_slot_X4_turn : GoodIn wsX4_slot wsX4_turn := goodIn_r _ [31, 24, 2, 20, 21, 22, 6, 23, 25, 26, 27, 48, 49, 50, 51, 52, 53, 54, 55, 56, 57, 58, 59, 60, 61, 62, 63] (by decide +kernel) (by decide +kernel)
set_option maxRecDepth 20000 in
theorem gX4_slot_X4_turn : GoodIn wsX4_slot (wsV RX4 69 RX4 yX4_turn wsX4_turn) := goodIn_app (goodIn_of _ (by decide +kernel)) ggX4_slot_X4_turn
set_option maxRecDepth 20000 in
theorem ggX4_slot_X4_star : GoodIn wsX4_slot wsX4_star := goodIn_r _ [19, 2, 20, 21, 22, 6, 23, 24, 25, 26, 27, 48, 49, 50, 51, 52, 53, 54, 55, 56, 57, 58, 59, 60, 61, 62, 63] (by decide +kernel) (by decide +kernel)
set_option maxRecDepth 20000 in
theorem gX4_slot_X4_star : GoodIn wsX4_slot (wsV RX4 56 RX4 yX4_star wsX4_star) := goodIn_app (goodIn_of _ (by decide +kernel)) ggX4_slot_X4_star
set_option maxRecDepth 20000 in
theorem ggX4_slot_X4_zone : GoodIn wsX4_slot wsX4_zone := goodIn_r _ [35, 15, 28, 29, 30, 6, 31, 24, 2, 20, 21, 22, 23, 25, 26, 27, 16, 17, 18, 19, 48, 49, 50, 51, 52, 53, 54, 55, 56, 57, 58, 59, 60, 61, 62, 63] (by decide +kernel) (by decide +kernel)
set_option maxRecDepth 20000 in
theorem gX4_slot_X4_zone : GoodIn wsX4_slot (wsV RX4 73 RX4 yX4_zone wsX4_zone) := goodIn_app (goodIn_of _ (by decide +kernel)) ggX4_slot_X4_zone
set_option maxRecDepth 20000 in
theorem ggX4_slot_X4_phaseOf : GoodIn wsX4_slot wsX4_phaseOf := goodIn_r _ [39, 15, 32, 33, 34, 6, 35, 28, 29, 30, 31, 24, 2, 20, 21, 22, 23, 25, 26, 27, 16, 17, 18, 19, 48, 49, 50, 51, 52, 53, 54, 55, 56, 57, 58, 59, 60, 61, 62, 63] (by decide +kernel) (by decide +kernel)
set_option maxRecDepth 20000 in
theorem gX4_slot_X4_phaseOf : GoodIn wsX4_slot (wsV RX4 84 RX4 yX4_phaseOf wsX4_phaseOf) := goodIn_app (goodIn_of _ (by decide +kernel)) ggX4_slot_X4_phaseOf
set_option maxRecDepth 20000 in
theorem ggX4_slot_X4_isForward : GoodIn wsX4_slot wsX4_isForward := goodIn_r _ [43, 32, 33, 34, 6, 35, 15, 28, 29, 30, 31, 24, 2, 20, 21, 22, 23, 25, 26, 27, 16, 17, 18, 19, 48, 49, 50, 51, 52, 53, 54, 55, 56, 57, 58, 59, 60, 61, 62, 63] (by decide +kernel) (by decide +kernel)
set_option maxRecDepth 20000 in
theorem gX4_slot_X4_isForward : GoodIn wsX4_slot (wsV RX4 87 RX4 yX4_isForward wsX4_isForward) := goodIn_app (goodIn_of _ (by decide +kernel)) ggX4_slot_X4_isForward
set_option maxRecDepth 20000 in
theorem ggX4_slot_X4_begins : GoodIn wsX4_slot wsX4_begins := goodIn_r _ [47, 2, 1, 48, 49, 50, 51, 52, 53, 54, 55, 56, 57, 58, 59, 60, 61, 62, 63] (by decide +kernel) (by decide +kernel)
set_option maxRecDepth 20000 in
theorem gX4_slot_X4_begins : GoodIn wsX4_slot (wsV RX4 90 RX4 yX4_begins wsX4_begins) := goodIn_app (goodIn_of _ (by decide +kernel)) ggX4_slot_X4_begins
theorem dX4_slot_0 : decode cX4_slot 0 = .ok (.aload_n 0, 1) := by decide +kernel
theorem dX4_slot_1 : decode cX4_slot 1 = .ok (.iload_n 1, 1) := by decide +kernel
theorem dX4_slot_2 : decode cX4_slot 2 = .ok (.invokevirtual 76, 3) := by decide +kernel
theorem dX4_slot_5 : decode cX4_slot 5 = .ok (.ifCond .ne 5, 3) := by decide +kernel
theorem dX4_slot_8 : decode cX4_slot 8 = .ok (.iconst (-1), 1) := by decide +kernel
theorem dX4_slot_9 : decode cX4_slot 9 = .ok (.ireturn, 1) := by decide +kernel
theorem dX4_slot_10 : decode cX4_slot 10 = .ok (.iload_n 2, 1) := by decide +kernel
theorem dX4_slot_11 : decode cX4_slot 11 = .ok (.iconst 0, 1) := by decide +kernel
theorem dX4_slot_12 : decode cX4_slot 12 = .ok (.bipush 6, 2) := by decide +kernel
theorem dX4_slot_14 : decode cX4_slot 14 = .ok (.invokestatic 59, 3) := by decide +kernel
theorem dX4_slot_17 : decode cX4_slot 17 = .ok (.ifCond .ne 6, 3) := by decide +kernel
theorem dX4_slot_20 : decode cX4_slot 20 = .ok (.bipush (-2), 2) := by decide +kernel
theorem dX4_slot_22 : decode cX4_slot 22 = .ok (.ireturn, 1) := by decide +kernel
theorem dX4_slot_23 : decode cX4_slot 23 = .ok (.iload_n 2, 1) := by decide +kernel
theorem dX4_slot_24 : decode cX4_slot 24 = .ok (.iconst 2, 1) := by decide +kernel
theorem dX4_slot_25 : decode cX4_slot 25 = .ok (.iconst 4, 1) := by decide +kernel
theorem dX4_slot_26 : decode cX4_slot 26 = .ok (.invokestatic 59, 3) := by decide +kernel
theorem dX4_slot_29 : decode cX4_slot 29 = .ok (.ifCond .eq 13, 3) := by decide +kernel
theorem dX4_slot_32 : decode cX4_slot 32 = .ok (.aload_n 0, 1) := by decide +kernel
theorem dX4_slot_33 : decode cX4_slot 33 = .ok (.invokevirtual 80, 3) := by decide +kernel
theorem dX4_slot_36 : decode cX4_slot 36 = .ok (.ifCond .ne 6, 3) := by decide +kernel
theorem dX4_slot_39 : decode cX4_slot 39 = .ok (.bipush (-3), 2) := by decide +kernel
theorem dX4_slot_41 : decode cX4_slot 41 = .ok (.ireturn, 1) := by decide +kernel
theorem dX4_slot_42 : decode cX4_slot 42 = .ok (.iload_n 2, 1) := by decide +kernel
theorem dX4_slot_43 : decode cX4_slot 43 = .ok (.tableswitch 88 0 5 #[37, 43, 50, 56, 62, 76], 37) := by decide +kernel
theorem dX4_slot_80 : decode cX4_slot 80 = .ok (.aload_n 0, 1) := by decide +kernel
theorem dX4_slot_81 : decode cX4_slot 81 = .ok (.iload_n 1, 1) := by decide +kernel
theorem dX4_slot_82 : decode cX4_slot 82 = .ok (.invokevirtual 69, 3) := by decide +kernel
theorem dX4_slot_85 : decode cX4_slot 85 = .ok (.ireturn, 1) := by decide +kernel
theorem dX4_slot_86 : decode cX4_slot 86 = .ok (.iload_n 1, 1) := by decide +kernel
theorem dX4_slot_87 : decode cX4_slot 87 = .ok (.aload_n 0, 1) := by decide +kernel
theorem dX4_slot_88 : decode cX4_slot 88 = .ok (.invokevirtual 56, 3) := by decide +kernel
theorem dX4_slot_91 : decode cX4_slot 91 = .ok (.idiv, 1) := by decide +kernel
theorem dX4_slot_92 : decode cX4_slot 92 = .ok (.ireturn, 1) := by decide +kernel
theorem dX4_slot_93 : decode cX4_slot 93 = .ok (.aload_n 0, 1) := by decide +kernel
theorem dX4_slot_94 : decode cX4_slot 94 = .ok (.iload_n 1, 1) := by decide +kernel
theorem dX4_slot_95 : decode cX4_slot 95 = .ok (.invokevirtual 73, 3) := by decide +kernel
theorem dX4_slot_98 : decode cX4_slot 98 = .ok (.ireturn, 1) := by decide +kernel
theorem dX4_slot_99 : decode cX4_slot 99 = .ok (.aload_n 0, 1) := by decide +kernel
theorem dX4_slot_100 : decode cX4_slot 100 = .ok (.iload_n 1, 1) := by decide +kernel
theorem dX4_slot_101 : decode cX4_slot 101 = .ok (.invokevirtual 84, 3) := by decide +kernel
theorem dX4_slot_104 : decode cX4_slot 104 = .ok (.ireturn, 1) := by decide +kernel
theorem dX4_slot_105 : decode cX4_slot 105 = .ok (.aload_n 0, 1) := by decide +kernel
theorem dX4_slot_106 : decode cX4_slot 106 = .ok (.iload_n 1, 1) := by decide +kernel
theorem dX4_slot_107 : decode cX4_slot 107 = .ok (.invokevirtual 87, 3) := by decide +kernel
theorem dX4_slot_110 : decode cX4_slot 110 = .ok (.ifCond .eq 7, 3) := by decide +kernel
theorem dX4_slot_113 : decode cX4_slot 113 = .ok (.iconst 1, 1) := by decide +kernel
theorem dX4_slot_114 : decode cX4_slot 114 = .ok (.goto 4, 3) := by decide +kernel
theorem dX4_slot_117 : decode cX4_slot 117 = .ok (.iconst 0, 1) := by decide +kernel
theorem dX4_slot_118 : decode cX4_slot 118 = .ok (.ireturn, 1) := by decide +kernel
theorem dX4_slot_119 : decode cX4_slot 119 = .ok (.iload_n 1, 1) := by decide +kernel
theorem dX4_slot_120 : decode cX4_slot 120 = .ok (.aload_n 0, 1) := by decide +kernel
theorem dX4_slot_121 : decode cX4_slot 121 = .ok (.getfield 19, 3) := by decide +kernel
theorem dX4_slot_124 : decode cX4_slot 124 = .ok (.iadd, 1) := by decide +kernel
theorem dX4_slot_125 : decode cX4_slot 125 = .ok (.aload_n 0, 1) := by decide +kernel
theorem dX4_slot_126 : decode cX4_slot 126 = .ok (.getfield 7, 3) := by decide +kernel
theorem dX4_slot_129 : decode cX4_slot 129 = .ok (.irem, 1) := by decide +kernel
theorem dX4_slot_130 : decode cX4_slot 130 = .ok (.ireturn, 1) := by decide +kernel
theorem dX4_slot_131 : decode cX4_slot 131 = .ok (.aload_n 0, 1) := by decide +kernel
theorem dX4_slot_132 : decode cX4_slot 132 = .ok (.iload_n 1, 1) := by decide +kernel
theorem dX4_slot_133 : decode cX4_slot 133 = .ok (.invokevirtual 90, 3) := by decide +kernel
theorem dX4_slot_136 : decode cX4_slot 136 = .ok (.ireturn, 1) := by decide +kernel
set_option maxRecDepth 20000 in
theorem ggX4_phase_X4_isPhase : GoodIn wsX4_phase wsX4_isPhase := goodIn_r _ [6, 7, 8, 9, 5, 10, 43, 44, 45, 46, 47, 48, 49, 50, 51, 52, 53, 54, 55, 56, 57, 58] (by decide +kernel) (by decide +kernel)
set_option maxRecDepth 20000 in
theorem gX4_phase_X4_isPhase : GoodIn wsX4_phase (wsV RX4 93 RX4 yX4_isPhase wsX4_isPhase) := goodIn_app (goodIn_of _ (by decide +kernel)) ggX4_phase_X4_isPhase
set_option maxRecDepth 20000 in
theorem ggX4_phase_X4_in : GoodIn wsX4_phase wsX4_in := goodIn_r _ [10] (by decide +kernel) (by decide +kernel)
set_option maxRecDepth 20000 in
theorem gX4_phase_X4_in : GoodIn wsX4_phase (va_wsS RX4 59 yX4_in wsX4_in) := goodIn_app (goodIn_of _ (by decide +kernel)) ggX4_phase_X4_in
set_option maxRecDepth 20000 in
theorem ggX4_phase_X4_isBalanced : GoodIn wsX4_phase wsX4_isBalanced := goodIn_r _ [14, 7, 15, 16, 17, 5, 18, 1, 19, 20, 21, 22, 23, 24, 25, 26, 43, 44, 45, 46, 47, 48, 49, 50, 51, 52, 53, 54, 55, 56, 57, 58] (by decide +kernel) (by decide +kernel)
set_option maxRecDepth 20000 in
theorem gX4_phase_X4_isBalanced : GoodIn wsX4_phase (wsV RX4 80 RX4 yX4_isBalanced wsX4_isBalanced) := goodIn_app (goodIn_of _ (by decide +kernel)) ggX4_phase_X4_isBalanced
set_option maxRecDepth 20000 in
theorem ggX4_phase_X4_phaseOf : GoodIn wsX4_phase wsX4_phaseOf := goodIn_r _ [30, 7, 31, 32, 33, 5, 34, 35, 36, 37, 38, 23, 1, 19, 20, 21, 22, 24, 25, 26, 15, 16, 17, 18, 43, 44, 45, 46, 47, 48, 49, 50, 51, 52, 53, 54, 55, 56, 57, 58] (by decide +kernel) (by decide +kernel)
set_option maxRecDepth 20000 in
theorem gX4_phase_X4_phaseOf : GoodIn wsX4_phase (wsV RX4 84 RX4 yX4_phaseOf wsX4_phaseOf) := goodIn_app (goodIn_of _ (by decide +kernel)) ggX4_phase_X4_phaseOf
set_option maxRecDepth 20000 in
theorem ggX4_phase_X4_isForward : GoodIn wsX4_phase wsX4_isForward := goodIn_r _ [42, 31, 32, 33, 5, 34, 7, 35, 36, 37, 38, 23, 1, 19, 20, 21, 22, 24, 25, 26, 15, 16, 17, 18, 43, 44, 45, 46, 47, 48, 49, 50, 51, 52, 53, 54, 55, 56, 57, 58] (by decide +kernel) (by decide +kernel)
set_option maxRecDepth 20000 in
theorem gX4_phase_X4_isForward : GoodIn wsX4_phase (wsV RX4 87 RX4 yX4_isForward wsX4_isForward) := goodIn_app (goodIn_of _ (by decide +kernel)) ggX4_phase_X4_isForward
theorem dX4_phase_0 : decode cX4_phase 0 = .ok (.aload_n 0, 1) := by decide +kernel
theorem dX4_phase_1 : decode cX4_phase 1 = .ok (.iload_n 1, 1) := by decide +kernel
theorem dX4_phase_2 : decode cX4_phase 2 = .ok (.invokevirtual 93, 3) := by decide +kernel
theorem dX4_phase_5 : decode cX4_phase 5 = .ok (.ifCond .ne 5, 3) := by decide +kernel
theorem dX4_phase_8 : decode cX4_phase 8 = .ok (.iconst (-1), 1) := by decide +kernel
theorem dX4_phase_9 : decode cX4_phase 9 = .ok (.ireturn, 1) := by decide +kernel
theorem dX4_phase_10 : decode cX4_phase 10 = .ok (.iload_n 2, 1) := by decide +kernel
theorem dX4_phase_11 : decode cX4_phase 11 = .ok (.iconst 0, 1) := by decide +kernel
theorem dX4_phase_12 : decode cX4_phase 12 = .ok (.iconst 2, 1) := by decide +kernel
theorem dX4_phase_13 : decode cX4_phase 13 = .ok (.invokestatic 59, 3) := by decide +kernel
theorem dX4_phase_16 : decode cX4_phase 16 = .ok (.ifCond .ne 6, 3) := by decide +kernel
theorem dX4_phase_19 : decode cX4_phase 19 = .ok (.bipush (-2), 2) := by decide +kernel
theorem dX4_phase_21 : decode cX4_phase 21 = .ok (.ireturn, 1) := by decide +kernel
theorem dX4_phase_22 : decode cX4_phase 22 = .ok (.aload_n 0, 1) := by decide +kernel
theorem dX4_phase_23 : decode cX4_phase 23 = .ok (.invokevirtual 80, 3) := by decide +kernel
theorem dX4_phase_26 : decode cX4_phase 26 = .ok (.ifCond .ne 6, 3) := by decide +kernel
theorem dX4_phase_29 : decode cX4_phase 29 = .ok (.bipush (-3), 2) := by decide +kernel
theorem dX4_phase_31 : decode cX4_phase 31 = .ok (.ireturn, 1) := by decide +kernel
theorem dX4_phase_32 : decode cX4_phase 32 = .ok (.iconst 0, 1) := by decide +kernel
theorem dX4_phase_33 : decode cX4_phase 33 = .ok (.istore_n 3, 1) := by decide +kernel
theorem dX4_phase_34 : decode cX4_phase 34 = .ok (.iconst 0, 1) := by decide +kernel
theorem dX4_phase_35 : decode cX4_phase 35 = .ok (.istore 4, 2) := by decide +kernel
theorem dX4_phase_37 : decode cX4_phase 37 = .ok (.iload 4, 2) := by decide +kernel
theorem dX4_phase_39 : decode cX4_phase 39 = .ok (.aload_n 0, 1) := by decide +kernel
theorem dX4_phase_40 : decode cX4_phase 40 = .ok (.getfield 7, 3) := by decide +kernel
theorem dX4_phase_43 : decode cX4_phase 43 = .ok (.if_icmp .ge 50, 3) := by decide +kernel
theorem dX4_phase_46 : decode cX4_phase 46 = .ok (.iload_n 3, 1) := by decide +kernel
theorem dX4_phase_47 : decode cX4_phase 47 = .ok (.aload_n 0, 1) := by decide +kernel
theorem dX4_phase_48 : decode cX4_phase 48 = .ok (.iload 4, 2) := by decide +kernel
theorem dX4_phase_50 : decode cX4_phase 50 = .ok (.invokevirtual 84, 3) := by decide +kernel
theorem dX4_phase_53 : decode cX4_phase 53 = .ok (.iload_n 1, 1) := by decide +kernel
theorem dX4_phase_54 : decode cX4_phase 54 = .ok (.if_icmp .ne 30, 3) := by decide +kernel
theorem dX4_phase_57 : decode cX4_phase 57 = .ok (.iload_n 2, 1) := by decide +kernel
theorem dX4_phase_58 : decode cX4_phase 58 = .ok (.ifCond .eq 22, 3) := by decide +kernel
theorem dX4_phase_61 : decode cX4_phase 61 = .ok (.aload_n 0, 1) := by decide +kernel
theorem dX4_phase_62 : decode cX4_phase 62 = .ok (.iload 4, 2) := by decide +kernel
theorem dX4_phase_64 : decode cX4_phase 64 = .ok (.invokevirtual 87, 3) := by decide +kernel
theorem dX4_phase_67 : decode cX4_phase 67 = .ok (.iload_n 2, 1) := by decide +kernel
theorem dX4_phase_68 : decode cX4_phase 68 = .ok (.iconst 1, 1) := by decide +kernel
theorem dX4_phase_69 : decode cX4_phase 69 = .ok (.if_icmp .ne 7, 3) := by decide +kernel
theorem dX4_phase_72 : decode cX4_phase 72 = .ok (.iconst 1, 1) := by decide +kernel
theorem dX4_phase_73 : decode cX4_phase 73 = .ok (.goto 4, 3) := by decide +kernel
theorem dX4_phase_76 : decode cX4_phase 76 = .ok (.iconst 0, 1) := by decide +kernel
theorem dX4_phase_77 : decode cX4_phase 77 = .ok (.if_icmp .ne 7, 3) := by decide +kernel
theorem dX4_phase_80 : decode cX4_phase 80 = .ok (.iconst 1, 1) := by decide +kernel
theorem dX4_phase_81 : decode cX4_phase 81 = .ok (.goto 4, 3) := by decide +kernel
theorem dX4_phase_84 : decode cX4_phase 84 = .ok (.iconst 0, 1) := by decide +kernel
theorem dX4_phase_85 : decode cX4_phase 85 = .ok (.iadd, 1) := by decide +kernel
theorem dX4_phase_86 : decode cX4_phase 86 = .ok (.istore_n 3, 1) := by decide +kernel
theorem dX4_phase_87 : decode cX4_phase 87 = .ok (.iinc 4 1, 3) := by decide +kernel
theorem dX4_phase_90 : decode cX4_phase 90 = .ok (.goto (-53), 3) := by decide +kernel
theorem dX4_phase_93 : decode cX4_phase 93 = .ok (.iload_n 3, 1) := by decide +kernel
theorem dX4_phase_94 : decode cX4_phase 94 = .ok (.ireturn, 1) := by decide +kernel
set_option maxRecDepth 20000 in
theorem ggX4_layer_X4_isSlot : GoodIn wsX4_layer wsX4_isSlot := goodIn_r _ [5, 6, 7, 8, 4, 9, 48, 49, 50, 51, 52, 53, 54, 55, 56, 57, 58, 59, 60, 61, 62, 63] (by decide +kernel) (by decide +kernel)
set_option maxRecDepth 20000 in
theorem gX4_layer_X4_isSlot : GoodIn wsX4_layer (wsV RX4 76 RX4 yX4_isSlot wsX4_isSlot) := goodIn_app (goodIn_of _ (by decide +kernel)) ggX4_layer_X4_isSlot
set_option maxRecDepth 20000 in
theorem ggX4_layer_X4_in : GoodIn wsX4_layer wsX4_in := goodIn_r _ [9] (by decide +kernel) (by decide +kernel)
set_option maxRecDepth 20000 in
theorem gX4_layer_X4_in : GoodIn wsX4_layer (va_wsS RX4 59 yX4_in wsX4_in) := goodIn_app (goodIn_of _ (by decide +kernel)) ggX4_layer_X4_in
set_option maxRecDepth 20000 in
theorem ggX4_layer_X4_isBalanced : GoodIn wsX4_layer wsX4_isBalanced := goodIn_r _ [13, 14, 15, 16, 17, 4, 18, 6, 19, 20, 21, 22, 23, 24, 25, 26, 48, 49, 50, 51, 52, 53, 54, 55, 56, 57, 58, 59, 60, 61, 62, 63] (by decide +kernel) (by decide +kernel)
set_option maxRecDepth 20000 in
theorem gX4_layer_X4_isBalanced : GoodIn wsX4_layer (wsV RX4 80 RX4 yX4_isBalanced wsX4_isBalanced) := goodIn_app (goodIn_of _ (by decide +kernel)) ggX4_layer_X4_isBalanced
set_option maxRecDepth 20000 in
theorem ggX4_layer_X4_begins : GoodIn wsX4_layer wsX4_begins := goodIn_r _ [30, 6, 31, 48, 49, 50, 51, 52, 53, 54, 55, 56, 57, 58, 59, 60, 61, 62, 63] (by decide +kernel) (by decide +kernel)
set_option maxRecDepth 20000 in
theorem gX4_layer_X4_begins : GoodIn wsX4_layer (wsV RX4 90 RX4 yX4_begins wsX4_begins) := goodIn_app (goodIn_of _ (by decide +kernel)) ggX4_layer_X4_begins
set_option maxRecDepth 20000 in
theorem ggX4_layer_X4_phaseOf : GoodIn wsX4_layer wsX4_phaseOf := goodIn_r _ [35, 14, 36, 37, 38, 4, 39, 40, 41, 42, 43, 23, 6, 19, 20, 21, 22, 24, 25, 26, 15, 16, 17, 18, 48, 49, 50, 51, 52, 53, 54, 55, 56, 57, 58, 59, 60, 61, 62, 63] (by decide +kernel) (by decide +kernel)
set_option maxRecDepth 20000 in
theorem gX4_layer_X4_phaseOf : GoodIn wsX4_layer (wsV RX4 84 RX4 yX4_phaseOf wsX4_phaseOf) := goodIn_app (goodIn_of _ (by decide +kernel)) ggX4_layer_X4_phaseOf
set_option maxRecDepth 20000 in
theorem ggX4_layer_X4_isForward : GoodIn wsX4_layer wsX4_isForward := goodIn_r _ [47, 36, 37, 38, 4, 39, 14, 40, 41, 42, 43, 23, 6, 19, 20, 21, 22, 24, 25, 26, 15, 16, 17, 18, 48, 49, 50, 51, 52, 53, 54, 55, 56, 57, 58, 59, 60, 61, 62, 63] (by decide +kernel) (by decide +kernel)
set_option maxRecDepth 20000 in
theorem gX4_layer_X4_isForward : GoodIn wsX4_layer (wsV RX4 87 RX4 yX4_isForward wsX4_isForward) := goodIn_app (goodIn_of _ (by decide +kernel)) ggX4_layer_X4_isForward
theorem dX4_layer_0 : decode cX4_layer 0 = .ok (.aload_n 0, 1) := by decide +kernel
theorem dX4_layer_1 : decode cX4_layer 1 = .ok (.iload_n 1, 1) := by decide +kernel
theorem dX4_layer_2 : decode cX4_layer 2 = .ok (.invokevirtual 76, 3) := by decide +kernel
theorem dX4_layer_5 : decode cX4_layer 5 = .ok (.ifCond .ne 5, 3) := by decide +kernel
theorem dX4_layer_8 : decode cX4_layer 8 = .ok (.iconst (-1), 1) := by decide +kernel
theorem dX4_layer_9 : decode cX4_layer 9 = .ok (.ireturn, 1) := by decide +kernel
theorem dX4_layer_10 : decode cX4_layer 10 = .ok (.iload_n 2, 1) := by decide +kernel
theorem dX4_layer_11 : decode cX4_layer 11 = .ok (.iconst 0, 1) := by decide +kernel
theorem dX4_layer_12 : decode cX4_layer 12 = .ok (.iconst 1, 1) := by decide +kernel
theorem dX4_layer_13 : decode cX4_layer 13 = .ok (.invokestatic 59, 3) := by decide +kernel
theorem dX4_layer_16 : decode cX4_layer 16 = .ok (.ifCond .ne 6, 3) := by decide +kernel
theorem dX4_layer_19 : decode cX4_layer 19 = .ok (.bipush (-2), 2) := by decide +kernel
theorem dX4_layer_21 : decode cX4_layer 21 = .ok (.ireturn, 1) := by decide +kernel
theorem dX4_layer_22 : decode cX4_layer 22 = .ok (.aload_n 0, 1) := by decide +kernel
theorem dX4_layer_23 : decode cX4_layer 23 = .ok (.invokevirtual 80, 3) := by decide +kernel
theorem dX4_layer_26 : decode cX4_layer 26 = .ok (.ifCond .ne 6, 3) := by decide +kernel
theorem dX4_layer_29 : decode cX4_layer 29 = .ok (.bipush (-3), 2) := by decide +kernel
theorem dX4_layer_31 : decode cX4_layer 31 = .ok (.ireturn, 1) := by decide +kernel
theorem dX4_layer_32 : decode cX4_layer 32 = .ok (.iload_n 2, 1) := by decide +kernel
theorem dX4_layer_33 : decode cX4_layer 33 = .ok (.ifCond .ne 7, 3) := by decide +kernel
theorem dX4_layer_36 : decode cX4_layer 36 = .ok (.iload_n 1, 1) := by decide +kernel
theorem dX4_layer_37 : decode cX4_layer 37 = .ok (.goto 8, 3) := by decide +kernel
theorem dX4_layer_40 : decode cX4_layer 40 = .ok (.aload_n 0, 1) := by decide +kernel
theorem dX4_layer_41 : decode cX4_layer 41 = .ok (.iload_n 1, 1) := by decide +kernel
theorem dX4_layer_42 : decode cX4_layer 42 = .ok (.invokevirtual 90, 3) := by decide +kernel
theorem dX4_layer_45 : decode cX4_layer 45 = .ok (.istore_n 3, 1) := by decide +kernel
theorem dX4_layer_46 : decode cX4_layer 46 = .ok (.bipush 10, 2) := by decide +kernel
theorem dX4_layer_48 : decode cX4_layer 48 = .ok (.aload_n 0, 1) := by decide +kernel
theorem dX4_layer_49 : decode cX4_layer 49 = .ok (.iload_n 3, 1) := by decide +kernel
theorem dX4_layer_50 : decode cX4_layer 50 = .ok (.invokevirtual 84, 3) := by decide +kernel
theorem dX4_layer_53 : decode cX4_layer 53 = .ok (.imul, 1) := by decide +kernel
theorem dX4_layer_54 : decode cX4_layer 54 = .ok (.aload_n 0, 1) := by decide +kernel
theorem dX4_layer_55 : decode cX4_layer 55 = .ok (.iload_n 3, 1) := by decide +kernel
theorem dX4_layer_56 : decode cX4_layer 56 = .ok (.invokevirtual 87, 3) := by decide +kernel
theorem dX4_layer_59 : decode cX4_layer 59 = .ok (.iload_n 2, 1) := by decide +kernel
theorem dX4_layer_60 : decode cX4_layer 60 = .ok (.ifCond .ne 7, 3) := by decide +kernel
theorem dX4_layer_63 : decode cX4_layer 63 = .ok (.iconst 1, 1) := by decide +kernel
theorem dX4_layer_64 : decode cX4_layer 64 = .ok (.goto 4, 3) := by decide +kernel
theorem dX4_layer_67 : decode cX4_layer 67 = .ok (.iconst 0, 1) := by decide +kernel
theorem dX4_layer_68 : decode cX4_layer 68 = .ok (.if_icmp .ne 7, 3) := by decide +kernel
theorem dX4_layer_71 : decode cX4_layer 71 = .ok (.iconst 1, 1) := by decide +kernel
theorem dX4_layer_72 : decode cX4_layer 72 = .ok (.goto 4, 3) := by decide +kernel
theorem dX4_layer_75 : decode cX4_layer 75 = .ok (.iconst 0, 1) := by decide +kernel
theorem dX4_layer_76 : decode cX4_layer 76 = .ok (.iadd, 1) := by decide +kernel
theorem dX4_layer_77 : decode cX4_layer 77 = .ok (.ireturn, 1) := by decide +kernel
set_option maxRecDepth 20000 in
theorem ggX4_each_X4_in : GoodIn wsX4_each wsX4_in := goodIn_r _ [7] (by decide +kernel) (by decide +kernel)
set_option maxRecDepth 20000 in
theorem gX4_each_X4_in : GoodIn wsX4_each (va_wsS RX4 59 yX4_in wsX4_in) := goodIn_app (goodIn_of _ (by decide +kernel)) ggX4_each_X4_in
set_option maxRecDepth 20000 in
theorem ggX4_each_X4_common : GoodIn wsX4_each wsX4_common := goodIn_r _ [10] (by decide +kernel) (by decide +kernel)
set_option maxRecDepth 20000 in
theorem gX4_each_X4_common : GoodIn wsX4_each (va_wsS RX4 48 yX4_common wsX4_common) := goodIn_app (goodIn_of _ (by decide +kernel)) ggX4_each_X4_common
theorem dX4_each_0 : decode cX4_each 0 = .ok (.iload_n 1, 1) := by decide +kernel
theorem dX4_each_1 : decode cX4_each 1 = .ok (.iconst 0, 1) := by decide +kernel
theorem dX4_each_2 : decode cX4_each 2 = .ok (.iconst 1, 1) := by decide +kernel
theorem dX4_each_3 : decode cX4_each 3 = .ok (.invokestatic 59, 3) := by decide +kernel
theorem dX4_each_6 : decode cX4_each 6 = .ok (.ifCond .ne 6, 3) := by decide +kernel
theorem dX4_each_9 : decode cX4_each 9 = .ok (.bipush (-2), 2) := by decide +kernel
theorem dX4_each_11 : decode cX4_each 11 = .ok (.ireturn, 1) := by decide +kernel
theorem dX4_each_12 : decode cX4_each 12 = .ok (.iconst 2, 1) := by decide +kernel
theorem dX4_each_13 : decode cX4_each 13 = .ok (.aload_n 0, 1) := by decide +kernel
theorem dX4_each_14 : decode cX4_each 14 = .ok (.getfield 13, 3) := by decide +kernel
theorem dX4_each_17 : decode cX4_each 17 = .ok (.imul, 1) := by decide +kernel
theorem dX4_each_18 : decode cX4_each 18 = .ok (.aload_n 0, 1) := by decide +kernel
theorem dX4_each_19 : decode cX4_each 19 = .ok (.getfield 16, 3) := by decide +kernel
theorem dX4_each_22 : decode cX4_each 22 = .ok (.imul, 1) := by decide +kernel
theorem dX4_each_23 : decode cX4_each 23 = .ok (.istore_n 2, 1) := by decide +kernel
theorem dX4_each_24 : decode cX4_each 24 = .ok (.aload_n 0, 1) := by decide +kernel
theorem dX4_each_25 : decode cX4_each 25 = .ok (.getfield 7, 3) := by decide +kernel
theorem dX4_each_28 : decode cX4_each 28 = .ok (.iload_n 2, 1) := by decide +kernel
theorem dX4_each_29 : decode cX4_each 29 = .ok (.invokestatic 48, 3) := by decide +kernel
theorem dX4_each_32 : decode cX4_each 32 = .ok (.istore_n 3, 1) := by decide +kernel
theorem dX4_each_33 : decode cX4_each 33 = .ok (.iload_n 1, 1) := by decide +kernel
theorem dX4_each_34 : decode cX4_each 34 = .ok (.ifCond .ne 12, 3) := by decide +kernel
theorem dX4_each_37 : decode cX4_each 37 = .ok (.aload_n 0, 1) := by decide +kernel
theorem dX4_each_38 : decode cX4_each 38 = .ok (.getfield 7, 3) := by decide +kernel
theorem dX4_each_41 : decode cX4_each 41 = .ok (.iload_n 3, 1) := by decide +kernel
theorem dX4_each_42 : decode cX4_each 42 = .ok (.idiv, 1) := by decide +kernel
theorem dX4_each_43 : decode cX4_each 43 = .ok (.goto 6, 3) := by decide +kernel
theorem dX4_each_46 : decode cX4_each 46 = .ok (.iload_n 2, 1) := by decide +kernel
theorem dX4_each_47 : decode cX4_each 47 = .ok (.iload_n 3, 1) := by decide +kernel
theorem dX4_each_48 : decode cX4_each 48 = .ok (.idiv, 1) := by decide +kernel
theorem dX4_each_49 : decode cX4_each 49 = .ok (.ireturn, 1) := by decide +kernel
set_option maxRecDepth 20000 in
theorem ggX4_layOwn_X4_star : GoodIn wsX4_layOwn wsX4_star := goodIn_r _ [5, 6, 7, 8, 9, 4, 10, 11, 12, 13, 14, 26, 27, 28, 29, 30, 31, 32, 33, 34, 35, 36, 37, 38, 39, 40, 41] (by decide +kernel) (by decide +kernel)
set_option maxRecDepth 20000 in
theorem gX4_layOwn_X4_star : GoodIn wsX4_layOwn (wsV RX4 56 RX4 yX4_star wsX4_star) := goodIn_app (goodIn_of _ (by decide +kernel)) ggX4_layOwn_X4_star
set_option maxRecDepth 20000 in
theorem ggX4_layOwn_X4_layDivisor : GoodIn wsX4_layOwn wsX4_layDivisor := goodIn_r _ [18, 19, 20, 21, 22, 23, 24, 4, 25, 26, 27, 28, 29, 30, 31, 32, 33, 34, 35, 36, 37, 38, 39, 40, 41] (by decide +kernel) (by decide +kernel)
set_option maxRecDepth 20000 in
theorem gX4_layOwn_X4_layDivisor : GoodIn wsX4_layOwn (wsV RX4 96 RX4 yX4_layDivisor wsX4_layDivisor) := goodIn_app (goodIn_of _ (by decide +kernel)) ggX4_layOwn_X4_layDivisor
theorem dX4_layOwn_0 : decode cX4_layOwn 0 = .ok (.aload_n 0, 1) := by decide +kernel
theorem dX4_layOwn_1 : decode cX4_layOwn 1 = .ok (.invokevirtual 56, 3) := by decide +kernel
theorem dX4_layOwn_4 : decode cX4_layOwn 4 = .ok (.istore_n 1, 1) := by decide +kernel
theorem dX4_layOwn_5 : decode cX4_layOwn 5 = .ok (.iconst 1, 1) := by decide +kernel
theorem dX4_layOwn_6 : decode cX4_layOwn 6 = .ok (.istore_n 2, 1) := by decide +kernel
theorem dX4_layOwn_7 : decode cX4_layOwn 7 = .ok (.iload_n 2, 1) := by decide +kernel
theorem dX4_layOwn_8 : decode cX4_layOwn 8 = .ok (.iload_n 1, 1) := by decide +kernel
theorem dX4_layOwn_9 : decode cX4_layOwn 9 = .ok (.if_icmp .gt 20, 3) := by decide +kernel
theorem dX4_layOwn_12 : decode cX4_layOwn 12 = .ok (.iload_n 1, 1) := by decide +kernel
theorem dX4_layOwn_13 : decode cX4_layOwn 13 = .ok (.iload_n 2, 1) := by decide +kernel
theorem dX4_layOwn_14 : decode cX4_layOwn 14 = .ok (.irem, 1) := by decide +kernel
theorem dX4_layOwn_15 : decode cX4_layOwn 15 = .ok (.ifCond .ne 8, 3) := by decide +kernel
theorem dX4_layOwn_18 : decode cX4_layOwn 18 = .ok (.aload_n 0, 1) := by decide +kernel
theorem dX4_layOwn_19 : decode cX4_layOwn 19 = .ok (.iload_n 2, 1) := by decide +kernel
theorem dX4_layOwn_20 : decode cX4_layOwn 20 = .ok (.invokevirtual 96, 3) := by decide +kernel
theorem dX4_layOwn_23 : decode cX4_layOwn 23 = .ok (.iinc 2 1, 3) := by decide +kernel
theorem dX4_layOwn_26 : decode cX4_layOwn 26 = .ok (.goto (-19), 3) := by decide +kernel
theorem dX4_layOwn_29 : decode cX4_layOwn 29 = .ok (.return_, 1) := by decide +kernel
set_option maxRecDepth 20000 in
theorem ggX4_layDivisor_X4_divide : GoodIn wsX4_layDivisor wsX4_divide := goodIn_r _ [8, 3, 1, 2, 9, 10, 11, 12, 13, 14, 15, 16, 17, 18, 19, 20, 21, 22, 23, 24] (by decide +kernel) (by decide +kernel)
set_option maxRecDepth 20000 in
theorem gX4_layDivisor_X4_divide : GoodIn wsX4_layDivisor (wsV RX4 100 RX4 yX4_divide wsX4_divide) := goodIn_app (goodIn_of _ (by decide +kernel)) ggX4_layDivisor_X4_divide
theorem dX4_layDivisor_0 : decode cX4_layDivisor 0 = .ok (.iconst 0, 1) := by decide +kernel
theorem dX4_layDivisor_1 : decode cX4_layDivisor 1 = .ok (.istore_n 2, 1) := by decide +kernel
theorem dX4_layDivisor_2 : decode cX4_layDivisor 2 = .ok (.iload_n 2, 1) := by decide +kernel
theorem dX4_layDivisor_3 : decode cX4_layDivisor 3 = .ok (.bipush 49, 2) := by decide +kernel
theorem dX4_layDivisor_5 : decode cX4_layDivisor 5 = .ok (.if_icmp .ge 33, 3) := by decide +kernel
theorem dX4_layDivisor_8 : decode cX4_layDivisor 8 = .ok (.aload_n 0, 1) := by decide +kernel
theorem dX4_layDivisor_9 : decode cX4_layDivisor 9 = .ok (.getfield 29, 3) := by decide +kernel
theorem dX4_layDivisor_12 : decode cX4_layDivisor 12 = .ok (.iload_n 2, 1) := by decide +kernel
theorem dX4_layDivisor_13 : decode cX4_layDivisor 13 = .ok (.iload_n 2, 1) := by decide +kernel
theorem dX4_layDivisor_14 : decode cX4_layDivisor 14 = .ok (.iload_n 1, 1) := by decide +kernel
theorem dX4_layDivisor_15 : decode cX4_layDivisor 15 = .ok (.if_icmp .ne 7, 3) := by decide +kernel
theorem dX4_layDivisor_18 : decode cX4_layDivisor 18 = .ok (.iconst 1, 1) := by decide +kernel
theorem dX4_layDivisor_19 : decode cX4_layDivisor 19 = .ok (.goto 12, 3) := by decide +kernel
theorem dX4_layDivisor_22 : decode cX4_layDivisor 22 = .ok (.iload_n 2, 1) := by decide +kernel
theorem dX4_layDivisor_23 : decode cX4_layDivisor 23 = .ok (.ifCond .ne 7, 3) := by decide +kernel
theorem dX4_layDivisor_26 : decode cX4_layDivisor 26 = .ok (.iconst (-1), 1) := by decide +kernel
theorem dX4_layDivisor_27 : decode cX4_layDivisor 27 = .ok (.goto 4, 3) := by decide +kernel
theorem dX4_layDivisor_30 : decode cX4_layDivisor 30 = .ok (.iconst 0, 1) := by decide +kernel
theorem dX4_layDivisor_31 : decode cX4_layDivisor 31 = .ok (.iastore, 1) := by decide +kernel
theorem dX4_layDivisor_32 : decode cX4_layDivisor 32 = .ok (.iinc 2 1, 3) := by decide +kernel
theorem dX4_layDivisor_35 : decode cX4_layDivisor 35 = .ok (.goto (-33), 3) := by decide +kernel
theorem dX4_layDivisor_38 : decode cX4_layDivisor 38 = .ok (.iload_n 1, 1) := by decide +kernel
theorem dX4_layDivisor_39 : decode cX4_layDivisor 39 = .ok (.istore_n 2, 1) := by decide +kernel
theorem dX4_layDivisor_40 : decode cX4_layDivisor 40 = .ok (.iconst 1, 1) := by decide +kernel
theorem dX4_layDivisor_41 : decode cX4_layDivisor 41 = .ok (.istore_n 3, 1) := by decide +kernel
theorem dX4_layDivisor_42 : decode cX4_layDivisor 42 = .ok (.iload_n 3, 1) := by decide +kernel
theorem dX4_layDivisor_43 : decode cX4_layDivisor 43 = .ok (.iload_n 1, 1) := by decide +kernel
theorem dX4_layDivisor_44 : decode cX4_layDivisor 44 = .ok (.if_icmp .ge 22, 3) := by decide +kernel
theorem dX4_layDivisor_47 : decode cX4_layDivisor 47 = .ok (.iload_n 1, 1) := by decide +kernel
theorem dX4_layDivisor_48 : decode cX4_layDivisor 48 = .ok (.iload_n 3, 1) := by decide +kernel
theorem dX4_layDivisor_49 : decode cX4_layDivisor 49 = .ok (.irem, 1) := by decide +kernel
theorem dX4_layDivisor_50 : decode cX4_layDivisor 50 = .ok (.ifCond .ne 10, 3) := by decide +kernel
theorem dX4_layDivisor_53 : decode cX4_layDivisor 53 = .ok (.aload_n 0, 1) := by decide +kernel
theorem dX4_layDivisor_54 : decode cX4_layDivisor 54 = .ok (.iload_n 2, 1) := by decide +kernel
theorem dX4_layDivisor_55 : decode cX4_layDivisor 55 = .ok (.iload_n 3, 1) := by decide +kernel
theorem dX4_layDivisor_56 : decode cX4_layDivisor 56 = .ok (.invokevirtual 100, 3) := by decide +kernel
theorem dX4_layDivisor_59 : decode cX4_layDivisor 59 = .ok (.istore_n 2, 1) := by decide +kernel
theorem dX4_layDivisor_60 : decode cX4_layDivisor 60 = .ok (.iinc 3 1, 3) := by decide +kernel
theorem dX4_layDivisor_63 : decode cX4_layDivisor 63 = .ok (.goto (-21), 3) := by decide +kernel
theorem dX4_layDivisor_66 : decode cX4_layDivisor 66 = .ok (.iconst 0, 1) := by decide +kernel
theorem dX4_layDivisor_67 : decode cX4_layDivisor 67 = .ok (.istore_n 3, 1) := by decide +kernel
theorem dX4_layDivisor_68 : decode cX4_layDivisor 68 = .ok (.iload_n 3, 1) := by decide +kernel
theorem dX4_layDivisor_69 : decode cX4_layDivisor 69 = .ok (.bipush 49, 2) := by decide +kernel
theorem dX4_layDivisor_71 : decode cX4_layDivisor 71 = .ok (.if_icmp .ge 35, 3) := by decide +kernel
theorem dX4_layDivisor_74 : decode cX4_layDivisor 74 = .ok (.aload_n 0, 1) := by decide +kernel
theorem dX4_layDivisor_75 : decode cX4_layDivisor 75 = .ok (.getfield 22, 3) := by decide +kernel
theorem dX4_layDivisor_78 : decode cX4_layDivisor 78 = .ok (.bipush 49, 2) := by decide +kernel
theorem dX4_layDivisor_80 : decode cX4_layDivisor 80 = .ok (.iload_n 1, 1) := by decide +kernel
theorem dX4_layDivisor_81 : decode cX4_layDivisor 81 = .ok (.imul, 1) := by decide +kernel
theorem dX4_layDivisor_82 : decode cX4_layDivisor 82 = .ok (.iload_n 3, 1) := by decide +kernel
theorem dX4_layDivisor_83 : decode cX4_layDivisor 83 = .ok (.iadd, 1) := by decide +kernel
theorem dX4_layDivisor_84 : decode cX4_layDivisor 84 = .ok (.iload_n 3, 1) := by decide +kernel
theorem dX4_layDivisor_85 : decode cX4_layDivisor 85 = .ok (.iload_n 2, 1) := by decide +kernel
theorem dX4_layDivisor_86 : decode cX4_layDivisor 86 = .ok (.if_icmp .gt 12, 3) := by decide +kernel
theorem dX4_layDivisor_89 : decode cX4_layDivisor 89 = .ok (.aload_n 0, 1) := by decide +kernel
theorem dX4_layDivisor_90 : decode cX4_layDivisor 90 = .ok (.getfield 29, 3) := by decide +kernel
theorem dX4_layDivisor_93 : decode cX4_layDivisor 93 = .ok (.iload_n 3, 1) := by decide +kernel
theorem dX4_layDivisor_94 : decode cX4_layDivisor 94 = .ok (.iaload, 1) := by decide +kernel
theorem dX4_layDivisor_95 : decode cX4_layDivisor 95 = .ok (.goto 4, 3) := by decide +kernel
theorem dX4_layDivisor_98 : decode cX4_layDivisor 98 = .ok (.iconst 0, 1) := by decide +kernel
theorem dX4_layDivisor_99 : decode cX4_layDivisor 99 = .ok (.iastore, 1) := by decide +kernel
theorem dX4_layDivisor_100 : decode cX4_layDivisor 100 = .ok (.iinc 3 1, 3) := by decide +kernel
theorem dX4_layDivisor_103 : decode cX4_layDivisor 103 = .ok (.goto (-35), 3) := by decide +kernel
theorem dX4_layDivisor_106 : decode cX4_layDivisor 106 = .ok (.aload_n 0, 1) := by decide +kernel
theorem dX4_layDivisor_107 : decode cX4_layDivisor 107 = .ok (.getfield 26, 3) := by decide +kernel
theorem dX4_layDivisor_110 : decode cX4_layDivisor 110 = .ok (.iload_n 1, 1) := by decide +kernel
theorem dX4_layDivisor_111 : decode cX4_layDivisor 111 = .ok (.iload_n 2, 1) := by decide +kernel
theorem dX4_layDivisor_112 : decode cX4_layDivisor 112 = .ok (.iastore, 1) := by decide +kernel
theorem dX4_layDivisor_113 : decode cX4_layDivisor 113 = .ok (.return_, 1) := by decide +kernel
theorem dX4_divide_0 : decode cX4_divide 0 = .ok (.aload_n 0, 1) := by decide +kernel
theorem dX4_divide_1 : decode cX4_divide 1 = .ok (.getfield 26, 3) := by decide +kernel
theorem dX4_divide_4 : decode cX4_divide 4 = .ok (.iload_n 2, 1) := by decide +kernel
theorem dX4_divide_5 : decode cX4_divide 5 = .ok (.iaload, 1) := by decide +kernel
theorem dX4_divide_6 : decode cX4_divide 6 = .ok (.istore_n 3, 1) := by decide +kernel
theorem dX4_divide_7 : decode cX4_divide 7 = .ok (.iload_n 1, 1) := by decide +kernel
theorem dX4_divide_8 : decode cX4_divide 8 = .ok (.istore 4, 2) := by decide +kernel
theorem dX4_divide_10 : decode cX4_divide 10 = .ok (.iload 4, 2) := by decide +kernel
theorem dX4_divide_12 : decode cX4_divide 12 = .ok (.iload_n 3, 1) := by decide +kernel
theorem dX4_divide_13 : decode cX4_divide 13 = .ok (.if_icmp .lt 63, 3) := by decide +kernel
theorem dX4_divide_16 : decode cX4_divide 16 = .ok (.aload_n 0, 1) := by decide +kernel
theorem dX4_divide_17 : decode cX4_divide 17 = .ok (.getfield 29, 3) := by decide +kernel
theorem dX4_divide_20 : decode cX4_divide 20 = .ok (.iload 4, 2) := by decide +kernel
theorem dX4_divide_22 : decode cX4_divide 22 = .ok (.iaload, 1) := by decide +kernel
theorem dX4_divide_23 : decode cX4_divide 23 = .ok (.istore 5, 2) := by decide +kernel
theorem dX4_divide_25 : decode cX4_divide 25 = .ok (.iconst 0, 1) := by decide +kernel
theorem dX4_divide_26 : decode cX4_divide 26 = .ok (.istore 6, 2) := by decide +kernel
theorem dX4_divide_28 : decode cX4_divide 28 = .ok (.iload 6, 2) := by decide +kernel
theorem dX4_divide_30 : decode cX4_divide 30 = .ok (.iload_n 3, 1) := by decide +kernel
theorem dX4_divide_31 : decode cX4_divide 31 = .ok (.if_icmp .ge 39, 3) := by decide +kernel
theorem dX4_divide_34 : decode cX4_divide 34 = .ok (.aload_n 0, 1) := by decide +kernel
theorem dX4_divide_35 : decode cX4_divide 35 = .ok (.getfield 29, 3) := by decide +kernel
theorem dX4_divide_38 : decode cX4_divide 38 = .ok (.iload 4, 2) := by decide +kernel
theorem dX4_divide_40 : decode cX4_divide 40 = .ok (.iload_n 3, 1) := by decide +kernel
theorem dX4_divide_41 : decode cX4_divide 41 = .ok (.isub, 1) := by decide +kernel
theorem dX4_divide_42 : decode cX4_divide 42 = .ok (.iload 6, 2) := by decide +kernel
theorem dX4_divide_44 : decode cX4_divide 44 = .ok (.iadd, 1) := by decide +kernel
theorem dX4_divide_45 : decode cX4_divide 45 = .ok (.dup2, 1) := by decide +kernel
theorem dX4_divide_46 : decode cX4_divide 46 = .ok (.iaload, 1) := by decide +kernel
theorem dX4_divide_47 : decode cX4_divide 47 = .ok (.iload 5, 2) := by decide +kernel
theorem dX4_divide_49 : decode cX4_divide 49 = .ok (.aload_n 0, 1) := by decide +kernel
theorem dX4_divide_50 : decode cX4_divide 50 = .ok (.getfield 22, 3) := by decide +kernel
theorem dX4_divide_53 : decode cX4_divide 53 = .ok (.bipush 49, 2) := by decide +kernel
theorem dX4_divide_55 : decode cX4_divide 55 = .ok (.iload_n 2, 1) := by decide +kernel
theorem dX4_divide_56 : decode cX4_divide 56 = .ok (.imul, 1) := by decide +kernel
theorem dX4_divide_57 : decode cX4_divide 57 = .ok (.iload 6, 2) := by decide +kernel
theorem dX4_divide_59 : decode cX4_divide 59 = .ok (.iadd, 1) := by decide +kernel
theorem dX4_divide_60 : decode cX4_divide 60 = .ok (.iaload, 1) := by decide +kernel
theorem dX4_divide_61 : decode cX4_divide 61 = .ok (.imul, 1) := by decide +kernel
theorem dX4_divide_62 : decode cX4_divide 62 = .ok (.isub, 1) := by decide +kernel
theorem dX4_divide_63 : decode cX4_divide 63 = .ok (.iastore, 1) := by decide +kernel
theorem dX4_divide_64 : decode cX4_divide 64 = .ok (.iinc 6 1, 3) := by decide +kernel
theorem dX4_divide_67 : decode cX4_divide 67 = .ok (.goto (-39), 3) := by decide +kernel
theorem dX4_divide_70 : decode cX4_divide 70 = .ok (.iinc 4 (-1), 3) := by decide +kernel
theorem dX4_divide_73 : decode cX4_divide 73 = .ok (.goto (-63), 3) := by decide +kernel
theorem dX4_divide_76 : decode cX4_divide 76 = .ok (.iconst 0, 1) := by decide +kernel
theorem dX4_divide_77 : decode cX4_divide 77 = .ok (.istore 4, 2) := by decide +kernel
theorem dX4_divide_79 : decode cX4_divide 79 = .ok (.iload 4, 2) := by decide +kernel
theorem dX4_divide_81 : decode cX4_divide 81 = .ok (.bipush 49, 2) := by decide +kernel
theorem dX4_divide_83 : decode cX4_divide 83 = .ok (.if_icmp .ge 37, 3) := by decide +kernel
theorem dX4_divide_86 : decode cX4_divide 86 = .ok (.aload_n 0, 1) := by decide +kernel
theorem dX4_divide_87 : decode cX4_divide 87 = .ok (.getfield 29, 3) := by decide +kernel
theorem dX4_divide_90 : decode cX4_divide 90 = .ok (.iload 4, 2) := by decide +kernel
theorem dX4_divide_92 : decode cX4_divide 92 = .ok (.iload 4, 2) := by decide +kernel
theorem dX4_divide_94 : decode cX4_divide 94 = .ok (.iload_n 1, 1) := by decide +kernel
theorem dX4_divide_95 : decode cX4_divide 95 = .ok (.iload_n 3, 1) := by decide +kernel
theorem dX4_divide_96 : decode cX4_divide 96 = .ok (.isub, 1) := by decide +kernel
theorem dX4_divide_97 : decode cX4_divide 97 = .ok (.if_icmp .gt 15, 3) := by decide +kernel
theorem dX4_divide_100 : decode cX4_divide 100 = .ok (.aload_n 0, 1) := by decide +kernel
theorem dX4_divide_101 : decode cX4_divide 101 = .ok (.getfield 29, 3) := by decide +kernel
theorem dX4_divide_104 : decode cX4_divide 104 = .ok (.iload 4, 2) := by decide +kernel
theorem dX4_divide_106 : decode cX4_divide 106 = .ok (.iload_n 3, 1) := by decide +kernel
theorem dX4_divide_107 : decode cX4_divide 107 = .ok (.iadd, 1) := by decide +kernel
theorem dX4_divide_108 : decode cX4_divide 108 = .ok (.iaload, 1) := by decide +kernel
theorem dX4_divide_109 : decode cX4_divide 109 = .ok (.goto 4, 3) := by decide +kernel
theorem dX4_divide_112 : decode cX4_divide 112 = .ok (.iconst 0, 1) := by decide +kernel
theorem dX4_divide_113 : decode cX4_divide 113 = .ok (.iastore, 1) := by decide +kernel
theorem dX4_divide_114 : decode cX4_divide 114 = .ok (.iinc 4 1, 3) := by decide +kernel
theorem dX4_divide_117 : decode cX4_divide 117 = .ok (.goto (-38), 3) := by decide +kernel
theorem dX4_divide_120 : decode cX4_divide 120 = .ok (.iload_n 1, 1) := by decide +kernel
theorem dX4_divide_121 : decode cX4_divide 121 = .ok (.iload_n 3, 1) := by decide +kernel
theorem dX4_divide_122 : decode cX4_divide 122 = .ok (.isub, 1) := by decide +kernel
theorem dX4_divide_123 : decode cX4_divide 123 = .ok (.ireturn, 1) := by decide +kernel
set_option maxRecDepth 20000 in
theorem ggX4_own_X4_layOwn : GoodIn wsX4_own wsX4_layOwn := goodIn_r _ [7, 8, 9, 10, 6, 11, 12, 13, 14, 15, 16, 17, 18, 19, 20, 21, 22, 23, 24, 25, 2, 1, 26, 27, 28, 29, 33, 34, 35, 36, 37, 38, 39, 40, 41, 42, 43, 44, 45, 46, 47, 48] (by decide +kernel) (by decide +kernel)
set_option maxRecDepth 20000 in
theorem gX4_own_X4_layOwn : GoodIn wsX4_own (wsV RX4 103 RX4 yX4_layOwn wsX4_layOwn) := goodIn_app (goodIn_of _ (by decide +kernel)) ggX4_own_X4_layOwn
set_option maxRecDepth 20000 in
theorem ggX4_own_X4_star : GoodIn wsX4_own wsX4_star := goodIn_r _ [11, 12, 13, 14, 15, 6, 16, 17, 18, 19, 20, 33, 34, 35, 36, 37, 38, 39, 40, 41, 42, 43, 44, 45, 46, 47, 48] (by decide +kernel) (by decide +kernel)
set_option maxRecDepth 20000 in
theorem gX4_own_X4_star : GoodIn wsX4_own (wsV RX4 56 RX4 yX4_star wsX4_star) := goodIn_app (goodIn_of _ (by decide +kernel)) ggX4_own_X4_star
set_option maxRecDepth 20000 in
theorem ggX4_own_X4_in : GoodIn wsX4_own wsX4_in := goodIn_r _ [32] (by decide +kernel) (by decide +kernel)
set_option maxRecDepth 20000 in
theorem gX4_own_X4_in : GoodIn wsX4_own (va_wsS RX4 59 yX4_in wsX4_in) := goodIn_app (goodIn_of _ (by decide +kernel)) ggX4_own_X4_in
theorem dX4_own_0 : decode cX4_own 0 = .ok (.aload_n 0, 1) := by decide +kernel
theorem dX4_own_1 : decode cX4_own 1 = .ok (.invokevirtual 103, 3) := by decide +kernel
theorem dX4_own_4 : decode cX4_own 4 = .ok (.aload_n 0, 1) := by decide +kernel
theorem dX4_own_5 : decode cX4_own 5 = .ok (.invokevirtual 56, 3) := by decide +kernel
theorem dX4_own_8 : decode cX4_own 8 = .ok (.istore_n 2, 1) := by decide +kernel
theorem dX4_own_9 : decode cX4_own 9 = .ok (.iload_n 1, 1) := by decide +kernel
theorem dX4_own_10 : decode cX4_own 10 = .ok (.iconst (-1), 1) := by decide +kernel
theorem dX4_own_11 : decode cX4_own 11 = .ok (.if_icmp .ne 12, 3) := by decide +kernel
theorem dX4_own_14 : decode cX4_own 14 = .ok (.aload_n 0, 1) := by decide +kernel
theorem dX4_own_15 : decode cX4_own 15 = .ok (.getfield 26, 3) := by decide +kernel
theorem dX4_own_18 : decode cX4_own 18 = .ok (.iload_n 2, 1) := by decide +kernel
theorem dX4_own_19 : decode cX4_own 19 = .ok (.iaload, 1) := by decide +kernel
theorem dX4_own_20 : decode cX4_own 20 = .ok (.goto 33, 3) := by decide +kernel
theorem dX4_own_23 : decode cX4_own 23 = .ok (.iload_n 1, 1) := by decide +kernel
theorem dX4_own_24 : decode cX4_own 24 = .ok (.iconst 0, 1) := by decide +kernel
theorem dX4_own_25 : decode cX4_own 25 = .ok (.aload_n 0, 1) := by decide +kernel
theorem dX4_own_26 : decode cX4_own 26 = .ok (.getfield 26, 3) := by decide +kernel
theorem dX4_own_29 : decode cX4_own 29 = .ok (.iload_n 2, 1) := by decide +kernel
theorem dX4_own_30 : decode cX4_own 30 = .ok (.iaload, 1) := by decide +kernel
theorem dX4_own_31 : decode cX4_own 31 = .ok (.invokestatic 59, 3) := by decide +kernel
theorem dX4_own_34 : decode cX4_own 34 = .ok (.ifCond .eq 17, 3) := by decide +kernel
theorem dX4_own_37 : decode cX4_own 37 = .ok (.aload_n 0, 1) := by decide +kernel
theorem dX4_own_38 : decode cX4_own 38 = .ok (.getfield 22, 3) := by decide +kernel
theorem dX4_own_41 : decode cX4_own 41 = .ok (.bipush 49, 2) := by decide +kernel
theorem dX4_own_43 : decode cX4_own 43 = .ok (.iload_n 2, 1) := by decide +kernel
theorem dX4_own_44 : decode cX4_own 44 = .ok (.imul, 1) := by decide +kernel
theorem dX4_own_45 : decode cX4_own 45 = .ok (.iload_n 1, 1) := by decide +kernel
theorem dX4_own_46 : decode cX4_own 46 = .ok (.iadd, 1) := by decide +kernel
theorem dX4_own_47 : decode cX4_own 47 = .ok (.iaload, 1) := by decide +kernel
theorem dX4_own_48 : decode cX4_own 48 = .ok (.goto 5, 3) := by decide +kernel
theorem dX4_own_51 : decode cX4_own 51 = .ok (.bipush (-6), 2) := by decide +kernel
theorem dX4_own_53 : decode cX4_own 53 = .ok (.ireturn, 1) := by decide +kernel
set_option maxRecDepth 20000 in
theorem ggX4_leaveOver_X4_star : GoodIn wsX4_leaveOver wsX4_star := goodIn_r _ [8, 9, 10, 11, 12, 7, 13, 14, 15, 16, 17, 18, 19, 20, 21, 22, 23, 24, 25, 26, 27, 28, 29, 30, 31, 32, 33] (by decide +kernel) (by decide +kernel)
set_option maxRecDepth 20000 in
theorem gX4_leaveOver_X4_star : GoodIn wsX4_leaveOver (wsV RX4 56 RX4 yX4_star wsX4_star) := goodIn_app (goodIn_of _ (by decide +kernel)) ggX4_leaveOver_X4_star
theorem dX4_leaveOver_0 : decode cX4_leaveOver 0 = .ok (.aload_n 0, 1) := by decide +kernel
theorem dX4_leaveOver_1 : decode cX4_leaveOver 1 = .ok (.invokevirtual 56, 3) := by decide +kernel
theorem dX4_leaveOver_4 : decode cX4_leaveOver 4 = .ok (.istore_n 2, 1) := by decide +kernel
theorem dX4_leaveOver_5 : decode cX4_leaveOver 5 = .ok (.aload_n 0, 1) := by decide +kernel
theorem dX4_leaveOver_6 : decode cX4_leaveOver 6 = .ok (.getfield 26, 3) := by decide +kernel
theorem dX4_leaveOver_9 : decode cX4_leaveOver 9 = .ok (.iload_n 2, 1) := by decide +kernel
theorem dX4_leaveOver_10 : decode cX4_leaveOver 10 = .ok (.iaload, 1) := by decide +kernel
theorem dX4_leaveOver_11 : decode cX4_leaveOver 11 = .ok (.istore_n 3, 1) := by decide +kernel
theorem dX4_leaveOver_12 : decode cX4_leaveOver 12 = .ok (.iload_n 2, 1) := by decide +kernel
theorem dX4_leaveOver_13 : decode cX4_leaveOver 13 = .ok (.iconst 1, 1) := by decide +kernel
theorem dX4_leaveOver_14 : decode cX4_leaveOver 14 = .ok (.isub, 1) := by decide +kernel
theorem dX4_leaveOver_15 : decode cX4_leaveOver 15 = .ok (.istore 4, 2) := by decide +kernel
theorem dX4_leaveOver_17 : decode cX4_leaveOver 17 = .ok (.iload 4, 2) := by decide +kernel
theorem dX4_leaveOver_19 : decode cX4_leaveOver 19 = .ok (.iload_n 3, 1) := by decide +kernel
theorem dX4_leaveOver_20 : decode cX4_leaveOver 20 = .ok (.if_icmp .lt 73, 3) := by decide +kernel
theorem dX4_leaveOver_23 : decode cX4_leaveOver 23 = .ok (.aload_n 0, 1) := by decide +kernel
theorem dX4_leaveOver_24 : decode cX4_leaveOver 24 = .ok (.getfield 32, 3) := by decide +kernel
theorem dX4_leaveOver_27 : decode cX4_leaveOver 27 = .ok (.bipush 49, 2) := by decide +kernel
theorem dX4_leaveOver_29 : decode cX4_leaveOver 29 = .ok (.iload_n 1, 1) := by decide +kernel
theorem dX4_leaveOver_30 : decode cX4_leaveOver 30 = .ok (.imul, 1) := by decide +kernel
theorem dX4_leaveOver_31 : decode cX4_leaveOver 31 = .ok (.iload 4, 2) := by decide +kernel
theorem dX4_leaveOver_33 : decode cX4_leaveOver 33 = .ok (.iadd, 1) := by decide +kernel
theorem dX4_leaveOver_34 : decode cX4_leaveOver 34 = .ok (.iaload, 1) := by decide +kernel
theorem dX4_leaveOver_35 : decode cX4_leaveOver 35 = .ok (.istore 5, 2) := by decide +kernel
theorem dX4_leaveOver_37 : decode cX4_leaveOver 37 = .ok (.iconst 0, 1) := by decide +kernel
theorem dX4_leaveOver_38 : decode cX4_leaveOver 38 = .ok (.istore 6, 2) := by decide +kernel
theorem dX4_leaveOver_40 : decode cX4_leaveOver 40 = .ok (.iload 6, 2) := by decide +kernel
theorem dX4_leaveOver_42 : decode cX4_leaveOver 42 = .ok (.iload_n 3, 1) := by decide +kernel
theorem dX4_leaveOver_43 : decode cX4_leaveOver 43 = .ok (.if_icmp .gt 44, 3) := by decide +kernel
theorem dX4_leaveOver_46 : decode cX4_leaveOver 46 = .ok (.aload_n 0, 1) := by decide +kernel
theorem dX4_leaveOver_47 : decode cX4_leaveOver 47 = .ok (.getfield 32, 3) := by decide +kernel
theorem dX4_leaveOver_50 : decode cX4_leaveOver 50 = .ok (.bipush 49, 2) := by decide +kernel
theorem dX4_leaveOver_52 : decode cX4_leaveOver 52 = .ok (.iload_n 1, 1) := by decide +kernel
theorem dX4_leaveOver_53 : decode cX4_leaveOver 53 = .ok (.imul, 1) := by decide +kernel
theorem dX4_leaveOver_54 : decode cX4_leaveOver 54 = .ok (.iload 4, 2) := by decide +kernel
theorem dX4_leaveOver_56 : decode cX4_leaveOver 56 = .ok (.iadd, 1) := by decide +kernel
theorem dX4_leaveOver_57 : decode cX4_leaveOver 57 = .ok (.iload_n 3, 1) := by decide +kernel
theorem dX4_leaveOver_58 : decode cX4_leaveOver 58 = .ok (.isub, 1) := by decide +kernel
theorem dX4_leaveOver_59 : decode cX4_leaveOver 59 = .ok (.iload 6, 2) := by decide +kernel
theorem dX4_leaveOver_61 : decode cX4_leaveOver 61 = .ok (.iadd, 1) := by decide +kernel
theorem dX4_leaveOver_62 : decode cX4_leaveOver 62 = .ok (.dup2, 1) := by decide +kernel
theorem dX4_leaveOver_63 : decode cX4_leaveOver 63 = .ok (.iaload, 1) := by decide +kernel
theorem dX4_leaveOver_64 : decode cX4_leaveOver 64 = .ok (.iload 5, 2) := by decide +kernel
theorem dX4_leaveOver_66 : decode cX4_leaveOver 66 = .ok (.aload_n 0, 1) := by decide +kernel
theorem dX4_leaveOver_67 : decode cX4_leaveOver 67 = .ok (.getfield 22, 3) := by decide +kernel
theorem dX4_leaveOver_70 : decode cX4_leaveOver 70 = .ok (.bipush 49, 2) := by decide +kernel
theorem dX4_leaveOver_72 : decode cX4_leaveOver 72 = .ok (.iload_n 2, 1) := by decide +kernel
theorem dX4_leaveOver_73 : decode cX4_leaveOver 73 = .ok (.imul, 1) := by decide +kernel
theorem dX4_leaveOver_74 : decode cX4_leaveOver 74 = .ok (.iload 6, 2) := by decide +kernel
theorem dX4_leaveOver_76 : decode cX4_leaveOver 76 = .ok (.iadd, 1) := by decide +kernel
theorem dX4_leaveOver_77 : decode cX4_leaveOver 77 = .ok (.iaload, 1) := by decide +kernel
theorem dX4_leaveOver_78 : decode cX4_leaveOver 78 = .ok (.imul, 1) := by decide +kernel
theorem dX4_leaveOver_79 : decode cX4_leaveOver 79 = .ok (.isub, 1) := by decide +kernel
theorem dX4_leaveOver_80 : decode cX4_leaveOver 80 = .ok (.iastore, 1) := by decide +kernel
theorem dX4_leaveOver_81 : decode cX4_leaveOver 81 = .ok (.iinc 6 1, 3) := by decide +kernel
theorem dX4_leaveOver_84 : decode cX4_leaveOver 84 = .ok (.goto (-44), 3) := by decide +kernel
theorem dX4_leaveOver_87 : decode cX4_leaveOver 87 = .ok (.iinc 4 (-1), 3) := by decide +kernel
theorem dX4_leaveOver_90 : decode cX4_leaveOver 90 = .ok (.goto (-73), 3) := by decide +kernel
theorem dX4_leaveOver_93 : decode cX4_leaveOver 93 = .ok (.return_, 1) := by decide +kernel
set_option maxRecDepth 20000 in
theorem ggX4_laySum_X4_star : GoodIn wsX4_laySum wsX4_star := goodIn_r _ [7, 2, 8, 9, 10, 6, 11, 12, 13, 14, 15, 52, 53, 54, 55, 56, 57, 58, 59, 60, 61, 62, 63, 64, 65, 66, 67] (by decide +kernel) (by decide +kernel)
set_option maxRecDepth 20000 in
theorem gX4_laySum_X4_star : GoodIn wsX4_laySum (wsV RX4 56 RX4 yX4_star wsX4_star) := goodIn_app (goodIn_of _ (by decide +kernel)) ggX4_laySum_X4_star
set_option maxRecDepth 20000 in
theorem ggX4_laySum_X4_layOwn : GoodIn wsX4_laySum wsX4_layOwn := goodIn_r _ [19, 3, 4, 5, 6, 7, 2, 8, 9, 10, 11, 12, 13, 14, 15, 20, 21, 22, 23, 24, 25, 26, 27, 28, 29, 30, 52, 53, 54, 55, 56, 57, 58, 59, 60, 61, 62, 63, 64, 65, 66, 67] (by decide +kernel) (by decide +kernel)
set_option maxRecDepth 20000 in
theorem gX4_laySum_X4_layOwn : GoodIn wsX4_laySum (wsV RX4 103 RX4 yX4_layOwn wsX4_layOwn) := goodIn_app (goodIn_of _ (by decide +kernel)) ggX4_laySum_X4_layOwn
set_option maxRecDepth 20000 in
theorem ggX4_laySum_X4_phaseOf : GoodIn wsX4_laySum wsX4_phaseOf := goodIn_r _ [34, 35, 36, 37, 38, 6, 39, 40, 41, 42, 43, 12, 2, 8, 9, 10, 11, 13, 14, 15, 3, 4, 5, 7, 52, 53, 54, 55, 56, 57, 58, 59, 60, 61, 62, 63, 64, 65, 66, 67] (by decide +kernel) (by decide +kernel)
set_option maxRecDepth 20000 in
theorem gX4_laySum_X4_phaseOf : GoodIn wsX4_laySum (wsV RX4 84 RX4 yX4_phaseOf wsX4_phaseOf) := goodIn_app (goodIn_of _ (by decide +kernel)) ggX4_laySum_X4_phaseOf
set_option maxRecDepth 20000 in
theorem ggX4_laySum_X4_isForward : GoodIn wsX4_laySum wsX4_isForward := goodIn_r _ [47, 36, 37, 38, 6, 39, 35, 40, 41, 42, 43, 12, 2, 8, 9, 10, 11, 13, 14, 15, 3, 4, 5, 7, 52, 53, 54, 55, 56, 57, 58, 59, 60, 61, 62, 63, 64, 65, 66, 67] (by decide +kernel) (by decide +kernel)
set_option maxRecDepth 20000 in
theorem gX4_laySum_X4_isForward : GoodIn wsX4_laySum (wsV RX4 87 RX4 yX4_isForward wsX4_isForward) := goodIn_app (goodIn_of _ (by decide +kernel)) ggX4_laySum_X4_isForward
set_option maxRecDepth 20000 in
theorem ggX4_laySum_X4_turn : GoodIn wsX4_laySum wsX4_turn := goodIn_r _ [43, 12, 2, 8, 9, 10, 6, 11, 13, 14, 15, 52, 53, 54, 55, 56, 57, 58, 59, 60, 61, 62, 63, 64, 65, 66, 67] (by decide +kernel) (by decide +kernel)
set_option maxRecDepth 20000 in
theorem gX4_laySum_X4_turn : GoodIn wsX4_laySum (wsV RX4 69 RX4 yX4_turn wsX4_turn) := goodIn_app (goodIn_of _ (by decide +kernel)) ggX4_laySum_X4_turn
end
section
set_option maxRecDepth 20000 in
theorem ggX4_laySum_X4_leaveOver : GoodIn wsX4_laySum wsX4_leaveOver := goodIn_r _ [51, 26, 1, 25, 3, 4, 5, 6, 7, 2, 8, 9, 10, 11, 12, 13, 14, 15, 52, 53, 54, 55, 56, 57, 58, 59, 60, 61, 62, 63, 64, 65, 66, 67] (by decide +kernel) (by decide +kernel)
set_option maxRecDepth 20000 in
theorem gX4_laySum_X4_leaveOver : GoodIn wsX4_laySum (wsV RX4 106 RX4 yX4_leaveOver wsX4_leaveOver) := goodIn_app (goodIn_of _ (by decide +kernel)) ggX4_laySum_X4_leaveOver
theorem dX4_laySum_0 : decode cX4_laySum 0 = .ok (.aload_n 0, 1) := by decide +kernel
theorem dX4_laySum_1 : decode cX4_laySum 1 = .ok (.invokevirtual 56, 3) := by decide +kernel
theorem dX4_laySum_4 : decode cX4_laySum 4 = .ok (.istore 5, 2) := by decide +kernel
theorem dX4_laySum_6 : decode cX4_laySum 6 = .ok (.aload_n 0, 1) := by decide +kernel
theorem dX4_laySum_7 : decode cX4_laySum 7 = .ok (.invokevirtual 103, 3) := by decide +kernel
theorem dX4_laySum_10 : decode cX4_laySum 10 = .ok (.iconst 0, 1) := by decide +kernel
theorem dX4_laySum_11 : decode cX4_laySum 11 = .ok (.istore 6, 2) := by decide +kernel
theorem dX4_laySum_13 : decode cX4_laySum 13 = .ok (.iload 6, 2) := by decide +kernel
theorem dX4_laySum_15 : decode cX4_laySum 15 = .ok (.bipush 49, 2) := by decide +kernel
theorem dX4_laySum_17 : decode cX4_laySum 17 = .ok (.if_icmp .ge 22, 3) := by decide +kernel
theorem dX4_laySum_20 : decode cX4_laySum 20 = .ok (.aload_n 0, 1) := by decide +kernel
theorem dX4_laySum_21 : decode cX4_laySum 21 = .ok (.getfield 32, 3) := by decide +kernel
theorem dX4_laySum_24 : decode cX4_laySum 24 = .ok (.bipush 49, 2) := by decide +kernel
theorem dX4_laySum_26 : decode cX4_laySum 26 = .ok (.iload_n 1, 1) := by decide +kernel
theorem dX4_laySum_27 : decode cX4_laySum 27 = .ok (.imul, 1) := by decide +kernel
theorem dX4_laySum_28 : decode cX4_laySum 28 = .ok (.iload 6, 2) := by decide +kernel
theorem dX4_laySum_30 : decode cX4_laySum 30 = .ok (.iadd, 1) := by decide +kernel
theorem dX4_laySum_31 : decode cX4_laySum 31 = .ok (.iconst 0, 1) := by decide +kernel
theorem dX4_laySum_32 : decode cX4_laySum 32 = .ok (.iastore, 1) := by decide +kernel
theorem dX4_laySum_33 : decode cX4_laySum 33 = .ok (.iinc 6 1, 3) := by decide +kernel
theorem dX4_laySum_36 : decode cX4_laySum 36 = .ok (.goto (-23), 3) := by decide +kernel
theorem dX4_laySum_39 : decode cX4_laySum 39 = .ok (.iconst 0, 1) := by decide +kernel
theorem dX4_laySum_40 : decode cX4_laySum 40 = .ok (.istore 6, 2) := by decide +kernel
theorem dX4_laySum_42 : decode cX4_laySum 42 = .ok (.iload 6, 2) := by decide +kernel
theorem dX4_laySum_44 : decode cX4_laySum 44 = .ok (.iload 5, 2) := by decide +kernel
theorem dX4_laySum_46 : decode cX4_laySum 46 = .ok (.if_icmp .ge 95, 3) := by decide +kernel
theorem dX4_laySum_49 : decode cX4_laySum 49 = .ok (.aload_n 0, 1) := by decide +kernel
theorem dX4_laySum_50 : decode cX4_laySum 50 = .ok (.iload 6, 2) := by decide +kernel
theorem dX4_laySum_52 : decode cX4_laySum 52 = .ok (.invokevirtual 84, 3) := by decide +kernel
theorem dX4_laySum_55 : decode cX4_laySum 55 = .ok (.iload_n 2, 1) := by decide +kernel
theorem dX4_laySum_56 : decode cX4_laySum 56 = .ok (.if_icmp .ne 79, 3) := by decide +kernel
theorem dX4_laySum_59 : decode cX4_laySum 59 = .ok (.aload_n 0, 1) := by decide +kernel
theorem dX4_laySum_60 : decode cX4_laySum 60 = .ok (.iload 6, 2) := by decide +kernel
theorem dX4_laySum_62 : decode cX4_laySum 62 = .ok (.invokevirtual 87, 3) := by decide +kernel
theorem dX4_laySum_65 : decode cX4_laySum 65 = .ok (.ifCond .eq 7, 3) := by decide +kernel
theorem dX4_laySum_68 : decode cX4_laySum 68 = .ok (.iconst 1, 1) := by decide +kernel
theorem dX4_laySum_69 : decode cX4_laySum 69 = .ok (.goto 4, 3) := by decide +kernel
theorem dX4_laySum_72 : decode cX4_laySum 72 = .ok (.iconst (-1), 1) := by decide +kernel
theorem dX4_laySum_73 : decode cX4_laySum 73 = .ok (.istore 7, 2) := by decide +kernel
theorem dX4_laySum_75 : decode cX4_laySum 75 = .ok (.aload_n 0, 1) := by decide +kernel
theorem dX4_laySum_76 : decode cX4_laySum 76 = .ok (.getfield 32, 3) := by decide +kernel
theorem dX4_laySum_79 : decode cX4_laySum 79 = .ok (.bipush 49, 2) := by decide +kernel
theorem dX4_laySum_81 : decode cX4_laySum 81 = .ok (.iload_n 1, 1) := by decide +kernel
theorem dX4_laySum_82 : decode cX4_laySum 82 = .ok (.imul, 1) := by decide +kernel
theorem dX4_laySum_83 : decode cX4_laySum 83 = .ok (.iload_n 3, 1) := by decide +kernel
theorem dX4_laySum_84 : decode cX4_laySum 84 = .ok (.aload_n 0, 1) := by decide +kernel
theorem dX4_laySum_85 : decode cX4_laySum 85 = .ok (.iload 6, 2) := by decide +kernel
theorem dX4_laySum_87 : decode cX4_laySum 87 = .ok (.invokevirtual 69, 3) := by decide +kernel
theorem dX4_laySum_90 : decode cX4_laySum 90 = .ok (.imul, 1) := by decide +kernel
theorem dX4_laySum_91 : decode cX4_laySum 91 = .ok (.iload 5, 2) := by decide +kernel
theorem dX4_laySum_93 : decode cX4_laySum 93 = .ok (.irem, 1) := by decide +kernel
theorem dX4_laySum_94 : decode cX4_laySum 94 = .ok (.iadd, 1) := by decide +kernel
theorem dX4_laySum_95 : decode cX4_laySum 95 = .ok (.dup2, 1) := by decide +kernel
theorem dX4_laySum_96 : decode cX4_laySum 96 = .ok (.iaload, 1) := by decide +kernel
theorem dX4_laySum_97 : decode cX4_laySum 97 = .ok (.iload 7, 2) := by decide +kernel
theorem dX4_laySum_99 : decode cX4_laySum 99 = .ok (.iadd, 1) := by decide +kernel
theorem dX4_laySum_100 : decode cX4_laySum 100 = .ok (.iastore, 1) := by decide +kernel
theorem dX4_laySum_101 : decode cX4_laySum 101 = .ok (.aload_n 0, 1) := by decide +kernel
theorem dX4_laySum_102 : decode cX4_laySum 102 = .ok (.getfield 32, 3) := by decide +kernel
theorem dX4_laySum_105 : decode cX4_laySum 105 = .ok (.bipush 49, 2) := by decide +kernel
theorem dX4_laySum_107 : decode cX4_laySum 107 = .ok (.iload_n 1, 1) := by decide +kernel
theorem dX4_laySum_108 : decode cX4_laySum 108 = .ok (.imul, 1) := by decide +kernel
theorem dX4_laySum_109 : decode cX4_laySum 109 = .ok (.iload_n 3, 1) := by decide +kernel
theorem dX4_laySum_110 : decode cX4_laySum 110 = .ok (.aload_n 0, 1) := by decide +kernel
theorem dX4_laySum_111 : decode cX4_laySum 111 = .ok (.iload 6, 2) := by decide +kernel
theorem dX4_laySum_113 : decode cX4_laySum 113 = .ok (.iload 4, 2) := by decide +kernel
theorem dX4_laySum_115 : decode cX4_laySum 115 = .ok (.iadd, 1) := by decide +kernel
theorem dX4_laySum_116 : decode cX4_laySum 116 = .ok (.aload_n 0, 1) := by decide +kernel
theorem dX4_laySum_117 : decode cX4_laySum 117 = .ok (.getfield 7, 3) := by decide +kernel
theorem dX4_laySum_120 : decode cX4_laySum 120 = .ok (.irem, 1) := by decide +kernel
theorem dX4_laySum_121 : decode cX4_laySum 121 = .ok (.invokevirtual 69, 3) := by decide +kernel
theorem dX4_laySum_124 : decode cX4_laySum 124 = .ok (.imul, 1) := by decide +kernel
theorem dX4_laySum_125 : decode cX4_laySum 125 = .ok (.iload 5, 2) := by decide +kernel
theorem dX4_laySum_127 : decode cX4_laySum 127 = .ok (.irem, 1) := by decide +kernel
theorem dX4_laySum_128 : decode cX4_laySum 128 = .ok (.iadd, 1) := by decide +kernel
theorem dX4_laySum_129 : decode cX4_laySum 129 = .ok (.dup2, 1) := by decide +kernel
theorem dX4_laySum_130 : decode cX4_laySum 130 = .ok (.iaload, 1) := by decide +kernel
theorem dX4_laySum_131 : decode cX4_laySum 131 = .ok (.iload 7, 2) := by decide +kernel
theorem dX4_laySum_133 : decode cX4_laySum 133 = .ok (.isub, 1) := by decide +kernel
theorem dX4_laySum_134 : decode cX4_laySum 134 = .ok (.iastore, 1) := by decide +kernel
theorem dX4_laySum_135 : decode cX4_laySum 135 = .ok (.iinc 6 1, 3) := by decide +kernel
theorem dX4_laySum_138 : decode cX4_laySum 138 = .ok (.goto (-96), 3) := by decide +kernel
theorem dX4_laySum_141 : decode cX4_laySum 141 = .ok (.aload_n 0, 1) := by decide +kernel
theorem dX4_laySum_142 : decode cX4_laySum 142 = .ok (.iload_n 1, 1) := by decide +kernel
theorem dX4_laySum_143 : decode cX4_laySum 143 = .ok (.invokevirtual 106, 3) := by decide +kernel
theorem dX4_laySum_146 : decode cX4_laySum 146 = .ok (.return_, 1) := by decide +kernel
set_option maxRecDepth 20000 in
theorem ggX4_sum_X4_isPhase : GoodIn wsX4_sum wsX4_isPhase := goodIn_r _ [11, 12, 13, 14, 10, 15, 71, 72, 73, 74, 75, 76, 77, 78, 79, 80, 81, 82, 83, 84, 85, 86] (by decide +kernel) (by decide +kernel)
set_option maxRecDepth 20000 in
theorem gX4_sum_X4_isPhase : GoodIn wsX4_sum (wsV RX4 93 RX4 yX4_isPhase wsX4_isPhase) := goodIn_app (goodIn_of _ (by decide +kernel)) ggX4_sum_X4_isPhase
set_option maxRecDepth 20000 in
theorem ggX4_sum_X4_layOwn : GoodIn wsX4_sum wsX4_layOwn := goodIn_r _ [19, 20, 21, 22, 10, 23, 24, 25, 26, 27, 28, 29, 30, 31, 32, 33, 34, 35, 36, 37, 38, 2, 39, 40, 41, 42, 71, 72, 73, 74, 75, 76, 77, 78, 79, 80, 81, 82, 83, 84, 85, 86] (by decide +kernel) (by decide +kernel)
set_option maxRecDepth 20000 in
theorem gX4_sum_X4_layOwn : GoodIn wsX4_sum (wsV RX4 103 RX4 yX4_layOwn wsX4_layOwn) := goodIn_app (goodIn_of _ (by decide +kernel)) ggX4_sum_X4_layOwn
set_option maxRecDepth 20000 in
theorem ggX4_sum_X4_in : GoodIn wsX4_sum wsX4_in := goodIn_r _ [15] (by decide +kernel) (by decide +kernel)
set_option maxRecDepth 20000 in
theorem gX4_sum_X4_in : GoodIn wsX4_sum (va_wsS RX4 59 yX4_in wsX4_in) := goodIn_app (goodIn_of _ (by decide +kernel)) ggX4_sum_X4_in
set_option maxRecDepth 20000 in
theorem ggX4_sum_X4_star : GoodIn wsX4_sum wsX4_star := goodIn_r _ [23, 24, 25, 26, 27, 10, 28, 29, 30, 31, 32, 71, 72, 73, 74, 75, 76, 77, 78, 79, 80, 81, 82, 83, 84, 85, 86] (by decide +kernel) (by decide +kernel)
set_option maxRecDepth 20000 in
theorem gX4_sum_X4_star : GoodIn wsX4_sum (wsV RX4 56 RX4 yX4_star wsX4_star) := goodIn_app (goodIn_of _ (by decide +kernel)) ggX4_sum_X4_star
set_option maxRecDepth 20000 in
theorem ggX4_sum_X4_isBalanced : GoodIn wsX4_sum wsX4_isBalanced := goodIn_r _ [46, 12, 20, 21, 22, 10, 23, 24, 25, 26, 27, 28, 29, 30, 31, 32, 71, 72, 73, 74, 75, 76, 77, 78, 79, 80, 81, 82, 83, 84, 85, 86] (by decide +kernel) (by decide +kernel)
set_option maxRecDepth 20000 in
theorem gX4_sum_X4_isBalanced : GoodIn wsX4_sum (wsV RX4 80 RX4 yX4_isBalanced wsX4_isBalanced) := goodIn_app (goodIn_of _ (by decide +kernel)) ggX4_sum_X4_isBalanced
set_option maxRecDepth 20000 in
theorem ggX4_sum_X4_laySum : GoodIn wsX4_sum wsX4_laySum := goodIn_r _ [50, 6, 24, 20, 21, 22, 10, 23, 25, 26, 27, 28, 29, 30, 31, 32, 16, 17, 18, 19, 33, 34, 35, 36, 37, 38, 2, 39, 40, 41, 42, 51, 52, 53, 54, 12, 55, 56, 57, 58, 59, 60, 61, 62, 63, 64, 65, 66, 67, 68, 69, 70, 71, 72, 73, 74, 75, 76, 77, 78, 79, 80, 81, 82, 83, 84, 85, 86] (by decide +kernel) (by decide +kernel)
set_option maxRecDepth 20000 in
theorem gX4_sum_X4_laySum : GoodIn wsX4_sum (wsV RX4 112 RX4 yX4_laySum wsX4_laySum) := goodIn_app (goodIn_of _ (by decide +kernel)) ggX4_sum_X4_laySum
theorem dX4_sum_0 : decode cX4_sum 0 = .ok (.aload_n 0, 1) := by decide +kernel
theorem dX4_sum_1 : decode cX4_sum 1 = .ok (.iload_n 1, 1) := by decide +kernel
theorem dX4_sum_2 : decode cX4_sum 2 = .ok (.invokevirtual 93, 3) := by decide +kernel
theorem dX4_sum_5 : decode cX4_sum 5 = .ok (.ifCond .ne 6, 3) := by decide +kernel
theorem dX4_sum_8 : decode cX4_sum 8 = .ok (.ldc 109, 2) := by decide +kernel
theorem dX4_sum_10 : decode cX4_sum 10 = .ok (.ireturn, 1) := by decide +kernel
theorem dX4_sum_11 : decode cX4_sum 11 = .ok (.aload_n 0, 1) := by decide +kernel
theorem dX4_sum_12 : decode cX4_sum 12 = .ok (.invokevirtual 103, 3) := by decide +kernel
theorem dX4_sum_15 : decode cX4_sum 15 = .ok (.iload_n 2, 1) := by decide +kernel
theorem dX4_sum_16 : decode cX4_sum 16 = .ok (.iconst 1, 1) := by decide +kernel
theorem dX4_sum_17 : decode cX4_sum 17 = .ok (.bipush 99, 2) := by decide +kernel
theorem dX4_sum_19 : decode cX4_sum 19 = .ok (.invokestatic 59, 3) := by decide +kernel
theorem dX4_sum_22 : decode cX4_sum 22 = .ok (.ifCond .eq 22, 3) := by decide +kernel
theorem dX4_sum_25 : decode cX4_sum 25 = .ok (.iload_n 3, 1) := by decide +kernel
theorem dX4_sum_26 : decode cX4_sum 26 = .ok (.iconst 0, 1) := by decide +kernel
theorem dX4_sum_27 : decode cX4_sum 27 = .ok (.aload_n 0, 1) := by decide +kernel
theorem dX4_sum_28 : decode cX4_sum 28 = .ok (.getfield 26, 3) := by decide +kernel
theorem dX4_sum_31 : decode cX4_sum 31 = .ok (.aload_n 0, 1) := by decide +kernel
theorem dX4_sum_32 : decode cX4_sum 32 = .ok (.invokevirtual 56, 3) := by decide +kernel
theorem dX4_sum_35 : decode cX4_sum 35 = .ok (.iaload, 1) := by decide +kernel
theorem dX4_sum_36 : decode cX4_sum 36 = .ok (.iconst 1, 1) := by decide +kernel
theorem dX4_sum_37 : decode cX4_sum 37 = .ok (.isub, 1) := by decide +kernel
theorem dX4_sum_38 : decode cX4_sum 38 = .ok (.invokestatic 59, 3) := by decide +kernel
theorem dX4_sum_41 : decode cX4_sum 41 = .ok (.ifCond .ne 6, 3) := by decide +kernel
theorem dX4_sum_44 : decode cX4_sum 44 = .ok (.ldc 110, 2) := by decide +kernel
theorem dX4_sum_46 : decode cX4_sum 46 = .ok (.ireturn, 1) := by decide +kernel
theorem dX4_sum_47 : decode cX4_sum 47 = .ok (.aload_n 0, 1) := by decide +kernel
theorem dX4_sum_48 : decode cX4_sum 48 = .ok (.invokevirtual 80, 3) := by decide +kernel
theorem dX4_sum_51 : decode cX4_sum 51 = .ok (.ifCond .ne 6, 3) := by decide +kernel
theorem dX4_sum_54 : decode cX4_sum 54 = .ok (.ldc 111, 2) := by decide +kernel
theorem dX4_sum_56 : decode cX4_sum 56 = .ok (.ireturn, 1) := by decide +kernel
theorem dX4_sum_57 : decode cX4_sum 57 = .ok (.aload_n 0, 1) := by decide +kernel
theorem dX4_sum_58 : decode cX4_sum 58 = .ok (.iconst 0, 1) := by decide +kernel
theorem dX4_sum_59 : decode cX4_sum 59 = .ok (.iload_n 1, 1) := by decide +kernel
theorem dX4_sum_60 : decode cX4_sum 60 = .ok (.iload_n 2, 1) := by decide +kernel
theorem dX4_sum_61 : decode cX4_sum 61 = .ok (.aload_n 0, 1) := by decide +kernel
theorem dX4_sum_62 : decode cX4_sum 62 = .ok (.getfield 19, 3) := by decide +kernel
theorem dX4_sum_65 : decode cX4_sum 65 = .ok (.invokevirtual 112, 3) := by decide +kernel
theorem dX4_sum_68 : decode cX4_sum 68 = .ok (.aload_n 0, 1) := by decide +kernel
theorem dX4_sum_69 : decode cX4_sum 69 = .ok (.getfield 32, 3) := by decide +kernel
theorem dX4_sum_72 : decode cX4_sum 72 = .ok (.iload_n 3, 1) := by decide +kernel
theorem dX4_sum_73 : decode cX4_sum 73 = .ok (.iaload, 1) := by decide +kernel
theorem dX4_sum_74 : decode cX4_sum 74 = .ok (.ireturn, 1) := by decide +kernel
set_option maxRecDepth 20000 in
theorem ggX4_isNone_X4_laySum : GoodIn wsX4_isNone wsX4_laySum := goodIn_r _ [6, 1, 7, 8, 9, 10, 5, 11, 12, 13, 14, 15, 16, 17, 18, 19, 20, 21, 22, 23, 24, 25, 26, 27, 28, 29, 30, 31, 32, 33, 34, 35, 36, 37, 38, 39, 40, 41, 42, 43, 44, 45, 46, 47, 48, 49, 50, 51, 52, 53, 54, 55, 56, 57, 58, 59, 60, 61, 62, 63, 64, 65, 66, 67, 68, 69, 70, 71] (by decide +kernel) (by decide +kernel)
set_option maxRecDepth 20000 in
theorem gX4_isNone_X4_laySum : GoodIn wsX4_isNone (wsV RX4 112 RX4 yX4_laySum wsX4_laySum) := goodIn_app (goodIn_of _ (by decide +kernel)) ggX4_isNone_X4_laySum
theorem dX4_isNone_0 : decode cX4_isNone 0 = .ok (.aload_n 0, 1) := by decide +kernel
theorem dX4_isNone_1 : decode cX4_isNone 1 = .ok (.iconst 0, 1) := by decide +kernel
theorem dX4_isNone_2 : decode cX4_isNone 2 = .ok (.iconst 0, 1) := by decide +kernel
theorem dX4_isNone_3 : decode cX4_isNone 3 = .ok (.iload_n 1, 1) := by decide +kernel
theorem dX4_isNone_4 : decode cX4_isNone 4 = .ok (.iload_n 2, 1) := by decide +kernel
theorem dX4_isNone_5 : decode cX4_isNone 5 = .ok (.invokevirtual 112, 3) := by decide +kernel
theorem dX4_isNone_8 : decode cX4_isNone 8 = .ok (.iconst 1, 1) := by decide +kernel
theorem dX4_isNone_9 : decode cX4_isNone 9 = .ok (.istore_n 3, 1) := by decide +kernel
theorem dX4_isNone_10 : decode cX4_isNone 10 = .ok (.iconst 0, 1) := by decide +kernel
theorem dX4_isNone_11 : decode cX4_isNone 11 = .ok (.istore 4, 2) := by decide +kernel
theorem dX4_isNone_13 : decode cX4_isNone 13 = .ok (.iload 4, 2) := by decide +kernel
theorem dX4_isNone_15 : decode cX4_isNone 15 = .ok (.bipush 49, 2) := by decide +kernel
theorem dX4_isNone_17 : decode cX4_isNone 17 = .ok (.if_icmp .ge 29, 3) := by decide +kernel
theorem dX4_isNone_20 : decode cX4_isNone 20 = .ok (.iload_n 3, 1) := by decide +kernel
theorem dX4_isNone_21 : decode cX4_isNone 21 = .ok (.ifCond .eq 17, 3) := by decide +kernel
theorem dX4_isNone_24 : decode cX4_isNone 24 = .ok (.aload_n 0, 1) := by decide +kernel
theorem dX4_isNone_25 : decode cX4_isNone 25 = .ok (.getfield 32, 3) := by decide +kernel
theorem dX4_isNone_28 : decode cX4_isNone 28 = .ok (.iload 4, 2) := by decide +kernel
theorem dX4_isNone_30 : decode cX4_isNone 30 = .ok (.iaload, 1) := by decide +kernel
theorem dX4_isNone_31 : decode cX4_isNone 31 = .ok (.ifCond .ne 7, 3) := by decide +kernel
theorem dX4_isNone_34 : decode cX4_isNone 34 = .ok (.iconst 1, 1) := by decide +kernel
theorem dX4_isNone_35 : decode cX4_isNone 35 = .ok (.goto 4, 3) := by decide +kernel
theorem dX4_isNone_38 : decode cX4_isNone 38 = .ok (.iconst 0, 1) := by decide +kernel
theorem dX4_isNone_39 : decode cX4_isNone 39 = .ok (.istore_n 3, 1) := by decide +kernel
theorem dX4_isNone_40 : decode cX4_isNone 40 = .ok (.iinc 4 1, 3) := by decide +kernel
theorem dX4_isNone_43 : decode cX4_isNone 43 = .ok (.goto (-30), 3) := by decide +kernel
theorem dX4_isNone_46 : decode cX4_isNone 46 = .ok (.iload_n 3, 1) := by decide +kernel
theorem dX4_isNone_47 : decode cX4_isNone 47 = .ok (.ireturn, 1) := by decide +kernel
set_option maxRecDepth 20000 in
theorem ggX4_vanishes_X4_in : GoodIn wsX4_vanishes wsX4_in := goodIn_r _ [5] (by decide +kernel) (by decide +kernel)
set_option maxRecDepth 20000 in
theorem gX4_vanishes_X4_in : GoodIn wsX4_vanishes (va_wsS RX4 59 yX4_in wsX4_in) := goodIn_app (goodIn_of _ (by decide +kernel)) ggX4_vanishes_X4_in
set_option maxRecDepth 20000 in
theorem ggX4_vanishes_X4_isBalanced : GoodIn wsX4_vanishes wsX4_isBalanced := goodIn_r _ [9, 10, 11, 12, 13, 4, 14, 15, 16, 17, 18, 19, 20, 21, 22, 23, 68, 69, 70, 71, 72, 73, 74, 75, 76, 77, 78, 79, 80, 81, 82, 83] (by decide +kernel) (by decide +kernel)
set_option maxRecDepth 20000 in
theorem gX4_vanishes_X4_isBalanced : GoodIn wsX4_vanishes (wsV RX4 80 RX4 yX4_isBalanced wsX4_isBalanced) := goodIn_app (goodIn_of _ (by decide +kernel)) ggX4_vanishes_X4_isBalanced
set_option maxRecDepth 20000 in
theorem ggX4_vanishes_X4_isNone : GoodIn wsX4_vanishes wsX4_isNone := goodIn_r _ [27, 28, 29, 30, 31, 4, 32, 15, 11, 12, 13, 14, 16, 17, 18, 19, 20, 21, 22, 23, 33, 34, 35, 36, 37, 38, 39, 40, 41, 42, 43, 44, 45, 46, 47, 48, 49, 50, 51, 10, 52, 53, 54, 55, 56, 57, 58, 59, 60, 61, 62, 63, 64, 65, 66, 67, 68, 69, 70, 71, 72, 73, 74, 75, 76, 77, 78, 79, 80, 81, 82, 83] (by decide +kernel) (by decide +kernel)
set_option maxRecDepth 20000 in
theorem gX4_vanishes_X4_isNone : GoodIn wsX4_vanishes (wsV RX4 116 RX4 yX4_isNone wsX4_isNone) := goodIn_app (goodIn_of _ (by decide +kernel)) ggX4_vanishes_X4_isNone
theorem dX4_vanishes_0 : decode cX4_vanishes 0 = .ok (.iload_n 1, 1) := by decide +kernel
theorem dX4_vanishes_1 : decode cX4_vanishes 1 = .ok (.iconst 1, 1) := by decide +kernel
theorem dX4_vanishes_2 : decode cX4_vanishes 2 = .ok (.bipush 99, 2) := by decide +kernel
theorem dX4_vanishes_4 : decode cX4_vanishes 4 = .ok (.invokestatic 59, 3) := by decide +kernel
theorem dX4_vanishes_7 : decode cX4_vanishes 7 = .ok (.ifCond .ne 6, 3) := by decide +kernel
theorem dX4_vanishes_10 : decode cX4_vanishes 10 = .ok (.bipush (-2), 2) := by decide +kernel
theorem dX4_vanishes_12 : decode cX4_vanishes 12 = .ok (.ireturn, 1) := by decide +kernel
theorem dX4_vanishes_13 : decode cX4_vanishes 13 = .ok (.aload_n 0, 1) := by decide +kernel
theorem dX4_vanishes_14 : decode cX4_vanishes 14 = .ok (.invokevirtual 80, 3) := by decide +kernel
theorem dX4_vanishes_17 : decode cX4_vanishes 17 = .ok (.ifCond .ne 8, 3) := by decide +kernel
theorem dX4_vanishes_20 : decode cX4_vanishes 20 = .ok (.bipush (-3), 2) := by decide +kernel
theorem dX4_vanishes_22 : decode cX4_vanishes 22 = .ok (.goto 20, 3) := by decide +kernel
theorem dX4_vanishes_25 : decode cX4_vanishes 25 = .ok (.aload_n 0, 1) := by decide +kernel
theorem dX4_vanishes_26 : decode cX4_vanishes 26 = .ok (.iload_n 1, 1) := by decide +kernel
theorem dX4_vanishes_27 : decode cX4_vanishes 27 = .ok (.aload_n 0, 1) := by decide +kernel
theorem dX4_vanishes_28 : decode cX4_vanishes 28 = .ok (.getfield 19, 3) := by decide +kernel
theorem dX4_vanishes_31 : decode cX4_vanishes 31 = .ok (.invokevirtual 116, 3) := by decide +kernel
theorem dX4_vanishes_34 : decode cX4_vanishes 34 = .ok (.ifCond .eq 7, 3) := by decide +kernel
theorem dX4_vanishes_37 : decode cX4_vanishes 37 = .ok (.iconst 1, 1) := by decide +kernel
theorem dX4_vanishes_38 : decode cX4_vanishes 38 = .ok (.goto 4, 3) := by decide +kernel
theorem dX4_vanishes_41 : decode cX4_vanishes 41 = .ok (.iconst 0, 1) := by decide +kernel
theorem dX4_vanishes_42 : decode cX4_vanishes 42 = .ok (.ireturn, 1) := by decide +kernel
set_option maxRecDepth 20000 in
theorem ggX4_choose_X4_in : GoodIn wsX4_choose wsX4_in := goodIn_r _ [4] (by decide +kernel) (by decide +kernel)
set_option maxRecDepth 20000 in
theorem gX4_choose_X4_in : GoodIn wsX4_choose (va_wsS RX4 59 yX4_in wsX4_in) := goodIn_app (goodIn_of _ (by decide +kernel)) ggX4_choose_X4_in
set_option maxRecDepth 20000 in
theorem ggX4_choose_X4_isBalanced : GoodIn wsX4_choose wsX4_isBalanced := goodIn_r _ [8, 9, 10, 11, 12, 3, 13, 14, 15, 16, 17, 18, 19, 20, 21, 22, 74, 75, 76, 77, 78, 79, 80, 81, 82, 83, 84, 85, 86, 87, 88, 89] (by decide +kernel) (by decide +kernel)
set_option maxRecDepth 20000 in
theorem gX4_choose_X4_isBalanced : GoodIn wsX4_choose (wsV RX4 80 RX4 yX4_isBalanced wsX4_isBalanced) := goodIn_app (goodIn_of _ (by decide +kernel)) ggX4_choose_X4_isBalanced
set_option maxRecDepth 20000 in
theorem ggX4_choose_X4_pitch : GoodIn wsX4_choose wsX4_pitch := goodIn_r _ [26, 14, 19, 27, 28, 3, 29, 74, 75, 76, 77, 78, 79, 80, 81, 82, 83, 84, 85, 86, 87, 88, 89] (by decide +kernel) (by decide +kernel)
set_option maxRecDepth 20000 in
theorem gX4_choose_X4_pitch : GoodIn wsX4_choose (wsV RX4 66 RX4 yX4_pitch wsX4_pitch) := goodIn_app (goodIn_of _ (by decide +kernel)) ggX4_choose_X4_pitch
set_option maxRecDepth 20000 in
theorem ggX4_choose_X4_isNone : GoodIn wsX4_choose wsX4_isNone := goodIn_r _ [33, 34, 35, 36, 37, 3, 38, 14, 10, 11, 12, 13, 15, 16, 17, 18, 19, 20, 21, 22, 39, 40, 41, 42, 43, 44, 45, 46, 47, 48, 49, 50, 51, 52, 53, 54, 55, 56, 57, 9, 58, 59, 60, 61, 62, 63, 64, 65, 66, 67, 68, 69, 70, 71, 72, 73, 74, 75, 76, 77, 78, 79, 80, 81, 82, 83, 84, 85, 86, 87, 88, 89] (by decide +kernel) (by decide +kernel)
set_option maxRecDepth 20000 in
theorem gX4_choose_X4_isNone : GoodIn wsX4_choose (wsV RX4 116 RX4 yX4_isNone wsX4_isNone) := goodIn_app (goodIn_of _ (by decide +kernel)) ggX4_choose_X4_isNone
theorem dX4_choose_0 : decode cX4_choose 0 = .ok (.iload_n 1, 1) := by decide +kernel
theorem dX4_choose_1 : decode cX4_choose 1 = .ok (.iconst 1, 1) := by decide +kernel
theorem dX4_choose_2 : decode cX4_choose 2 = .ok (.bipush 99, 2) := by decide +kernel
theorem dX4_choose_4 : decode cX4_choose 4 = .ok (.invokestatic 59, 3) := by decide +kernel
theorem dX4_choose_7 : decode cX4_choose 7 = .ok (.ifCond .ne 6, 3) := by decide +kernel
theorem dX4_choose_10 : decode cX4_choose 10 = .ok (.bipush (-2), 2) := by decide +kernel
theorem dX4_choose_12 : decode cX4_choose 12 = .ok (.ireturn, 1) := by decide +kernel
theorem dX4_choose_13 : decode cX4_choose 13 = .ok (.aload_n 0, 1) := by decide +kernel
theorem dX4_choose_14 : decode cX4_choose 14 = .ok (.invokevirtual 80, 3) := by decide +kernel
theorem dX4_choose_17 : decode cX4_choose 17 = .ok (.ifCond .ne 6, 3) := by decide +kernel
theorem dX4_choose_20 : decode cX4_choose 20 = .ok (.bipush (-3), 2) := by decide +kernel
theorem dX4_choose_22 : decode cX4_choose 22 = .ok (.ireturn, 1) := by decide +kernel
theorem dX4_choose_23 : decode cX4_choose 23 = .ok (.aload_n 0, 1) := by decide +kernel
theorem dX4_choose_24 : decode cX4_choose 24 = .ok (.invokevirtual 66, 3) := by decide +kernel
theorem dX4_choose_27 : decode cX4_choose 27 = .ok (.istore_n 2, 1) := by decide +kernel
theorem dX4_choose_28 : decode cX4_choose 28 = .ok (.iload_n 2, 1) := by decide +kernel
theorem dX4_choose_29 : decode cX4_choose 29 = .ok (.ifCond .le 20, 3) := by decide +kernel
theorem dX4_choose_32 : decode cX4_choose 32 = .ok (.aload_n 0, 1) := by decide +kernel
theorem dX4_choose_33 : decode cX4_choose 33 = .ok (.iload_n 1, 1) := by decide +kernel
theorem dX4_choose_34 : decode cX4_choose 34 = .ok (.iload_n 2, 1) := by decide +kernel
theorem dX4_choose_35 : decode cX4_choose 35 = .ok (.invokevirtual 116, 3) := by decide +kernel
theorem dX4_choose_38 : decode cX4_choose 38 = .ok (.ifCond .eq 5, 3) := by decide +kernel
theorem dX4_choose_41 : decode cX4_choose 41 = .ok (.iload_n 2, 1) := by decide +kernel
theorem dX4_choose_42 : decode cX4_choose 42 = .ok (.ireturn, 1) := by decide +kernel
theorem dX4_choose_43 : decode cX4_choose 43 = .ok (.iinc 2 (-1), 3) := by decide +kernel
theorem dX4_choose_46 : decode cX4_choose 46 = .ok (.goto (-18), 3) := by decide +kernel
theorem dX4_choose_49 : decode cX4_choose 49 = .ok (.bipush (-6), 2) := by decide +kernel
theorem dX4_choose_51 : decode cX4_choose 51 = .ok (.ireturn, 1) := by decide +kernel
set_option maxRecDepth 20000 in
theorem ggX4_turned_X4_isPhase : GoodIn wsX4_turned wsX4_isPhase := goodIn_r _ [7, 8, 9, 10, 6, 11, 68, 69, 70, 71, 72, 73, 74, 75, 76, 77, 78, 79, 80, 81, 82, 83] (by decide +kernel) (by decide +kernel)
set_option maxRecDepth 20000 in
theorem gX4_turned_X4_isPhase : GoodIn wsX4_turned (wsV RX4 93 RX4 yX4_isPhase wsX4_isPhase) := goodIn_app (goodIn_of _ (by decide +kernel)) ggX4_turned_X4_isPhase
set_option maxRecDepth 20000 in
theorem ggX4_turned_X4_in : GoodIn wsX4_turned wsX4_in := goodIn_r _ [11] (by decide +kernel) (by decide +kernel)
set_option maxRecDepth 20000 in
theorem gX4_turned_X4_in : GoodIn wsX4_turned (va_wsS RX4 59 yX4_in wsX4_in) := goodIn_app (goodIn_of _ (by decide +kernel)) ggX4_turned_X4_in
set_option maxRecDepth 20000 in
theorem ggX4_turned_X4_isBalanced : GoodIn wsX4_turned wsX4_isBalanced := goodIn_r _ [15, 8, 16, 17, 18, 6, 19, 20, 21, 22, 23, 24, 25, 26, 27, 28, 68, 69, 70, 71, 72, 73, 74, 75, 76, 77, 78, 79, 80, 81, 82, 83] (by decide +kernel) (by decide +kernel)
set_option maxRecDepth 20000 in
theorem gX4_turned_X4_isBalanced : GoodIn wsX4_turned (wsV RX4 80 RX4 yX4_isBalanced wsX4_isBalanced) := goodIn_app (goodIn_of _ (by decide +kernel)) ggX4_turned_X4_isBalanced
set_option maxRecDepth 20000 in
theorem ggX4_turned_X4_laySum : GoodIn wsX4_turned wsX4_laySum := goodIn_r _ [32, 2, 20, 16, 17, 18, 6, 19, 21, 22, 23, 24, 25, 26, 27, 28, 33, 34, 35, 36, 37, 38, 39, 40, 41, 42, 43, 44, 45, 46, 47, 48, 49, 50, 51, 8, 52, 53, 54, 55, 56, 57, 58, 59, 60, 61, 62, 63, 64, 65, 66, 67, 68, 69, 70, 71, 72, 73, 74, 75, 76, 77, 78, 79, 80, 81, 82, 83] (by decide +kernel) (by decide +kernel)
set_option maxRecDepth 20000 in
theorem gX4_turned_X4_laySum : GoodIn wsX4_turned (wsV RX4 112 RX4 yX4_laySum wsX4_laySum) := goodIn_app (goodIn_of _ (by decide +kernel)) ggX4_turned_X4_laySum
set_option maxRecDepth 20000 in
theorem ggX4_turned_X4_star : GoodIn wsX4_turned wsX4_star := goodIn_r _ [19, 20, 21, 22, 23, 6, 24, 25, 26, 27, 28, 68, 69, 70, 71, 72, 73, 74, 75, 76, 77, 78, 79, 80, 81, 82, 83] (by decide +kernel) (by decide +kernel)
set_option maxRecDepth 20000 in
theorem gX4_turned_X4_star : GoodIn wsX4_turned (wsV RX4 56 RX4 yX4_star wsX4_star) := goodIn_app (goodIn_of _ (by decide +kernel)) ggX4_turned_X4_star
set_option maxRecDepth 20000 in
theorem ggX4_turned_X4_leaveOver : GoodIn wsX4_turned wsX4_leaveOver := goodIn_r _ [67, 43, 2, 42, 16, 17, 18, 6, 19, 20, 21, 22, 23, 24, 25, 26, 27, 28, 68, 69, 70, 71, 72, 73, 74, 75, 76, 77, 78, 79, 80, 81, 82, 83] (by decide +kernel) (by decide +kernel)
set_option maxRecDepth 20000 in
theorem gX4_turned_X4_leaveOver : GoodIn wsX4_turned (wsV RX4 106 RX4 yX4_leaveOver wsX4_leaveOver) := goodIn_app (goodIn_of _ (by decide +kernel)) ggX4_turned_X4_leaveOver
theorem dX4_turned_0 : decode cX4_turned 0 = .ok (.aload_n 0, 1) := by decide +kernel
theorem dX4_turned_1 : decode cX4_turned 1 = .ok (.iload_n 1, 1) := by decide +kernel
theorem dX4_turned_2 : decode cX4_turned 2 = .ok (.invokevirtual 93, 3) := by decide +kernel
theorem dX4_turned_5 : decode cX4_turned 5 = .ok (.ifCond .eq 11, 3) := by decide +kernel
theorem dX4_turned_8 : decode cX4_turned 8 = .ok (.aload_n 0, 1) := by decide +kernel
theorem dX4_turned_9 : decode cX4_turned 9 = .ok (.iload_n 2, 1) := by decide +kernel
theorem dX4_turned_10 : decode cX4_turned 10 = .ok (.invokevirtual 93, 3) := by decide +kernel
theorem dX4_turned_13 : decode cX4_turned 13 = .ok (.ifCond .ne 5, 3) := by decide +kernel
theorem dX4_turned_16 : decode cX4_turned 16 = .ok (.iconst (-1), 1) := by decide +kernel
theorem dX4_turned_17 : decode cX4_turned 17 = .ok (.ireturn, 1) := by decide +kernel
theorem dX4_turned_18 : decode cX4_turned 18 = .ok (.iload_n 3, 1) := by decide +kernel
theorem dX4_turned_19 : decode cX4_turned 19 = .ok (.iconst 1, 1) := by decide +kernel
theorem dX4_turned_20 : decode cX4_turned 20 = .ok (.bipush 99, 2) := by decide +kernel
theorem dX4_turned_22 : decode cX4_turned 22 = .ok (.invokestatic 59, 3) := by decide +kernel
theorem dX4_turned_25 : decode cX4_turned 25 = .ok (.ifCond .ne 6, 3) := by decide +kernel
theorem dX4_turned_28 : decode cX4_turned 28 = .ok (.bipush (-2), 2) := by decide +kernel
theorem dX4_turned_30 : decode cX4_turned 30 = .ok (.ireturn, 1) := by decide +kernel
theorem dX4_turned_31 : decode cX4_turned 31 = .ok (.aload_n 0, 1) := by decide +kernel
theorem dX4_turned_32 : decode cX4_turned 32 = .ok (.invokevirtual 80, 3) := by decide +kernel
theorem dX4_turned_35 : decode cX4_turned 35 = .ok (.ifCond .ne 6, 3) := by decide +kernel
theorem dX4_turned_38 : decode cX4_turned 38 = .ok (.bipush (-3), 2) := by decide +kernel
theorem dX4_turned_40 : decode cX4_turned 40 = .ok (.ireturn, 1) := by decide +kernel
theorem dX4_turned_41 : decode cX4_turned 41 = .ok (.aload_n 0, 1) := by decide +kernel
theorem dX4_turned_42 : decode cX4_turned 42 = .ok (.iconst 0, 1) := by decide +kernel
theorem dX4_turned_43 : decode cX4_turned 43 = .ok (.iload_n 1, 1) := by decide +kernel
theorem dX4_turned_44 : decode cX4_turned 44 = .ok (.iload_n 3, 1) := by decide +kernel
theorem dX4_turned_45 : decode cX4_turned 45 = .ok (.aload_n 0, 1) := by decide +kernel
theorem dX4_turned_46 : decode cX4_turned 46 = .ok (.getfield 19, 3) := by decide +kernel
theorem dX4_turned_49 : decode cX4_turned 49 = .ok (.invokevirtual 112, 3) := by decide +kernel
theorem dX4_turned_52 : decode cX4_turned 52 = .ok (.aload_n 0, 1) := by decide +kernel
theorem dX4_turned_53 : decode cX4_turned 53 = .ok (.iconst 1, 1) := by decide +kernel
theorem dX4_turned_54 : decode cX4_turned 54 = .ok (.iload_n 2, 1) := by decide +kernel
theorem dX4_turned_55 : decode cX4_turned 55 = .ok (.iload_n 3, 1) := by decide +kernel
theorem dX4_turned_56 : decode cX4_turned 56 = .ok (.aload_n 0, 1) := by decide +kernel
theorem dX4_turned_57 : decode cX4_turned 57 = .ok (.getfield 19, 3) := by decide +kernel
theorem dX4_turned_60 : decode cX4_turned 60 = .ok (.invokevirtual 112, 3) := by decide +kernel
theorem dX4_turned_63 : decode cX4_turned 63 = .ok (.aload_n 0, 1) := by decide +kernel
theorem dX4_turned_64 : decode cX4_turned 64 = .ok (.invokevirtual 56, 3) := by decide +kernel
theorem dX4_turned_67 : decode cX4_turned 67 = .ok (.istore 4, 2) := by decide +kernel
theorem dX4_turned_69 : decode cX4_turned 69 = .ok (.iconst 0, 1) := by decide +kernel
theorem dX4_turned_70 : decode cX4_turned 70 = .ok (.istore 5, 2) := by decide +kernel
theorem dX4_turned_72 : decode cX4_turned 72 = .ok (.iload 5, 2) := by decide +kernel
theorem dX4_turned_74 : decode cX4_turned 74 = .ok (.iload 4, 2) := by decide +kernel
theorem dX4_turned_76 : decode cX4_turned 76 = .ok (.if_icmp .ge 125, 3) := by decide +kernel
theorem dX4_turned_79 : decode cX4_turned 79 = .ok (.iconst 1, 1) := by decide +kernel
theorem dX4_turned_80 : decode cX4_turned 80 = .ok (.istore 6, 2) := by decide +kernel
theorem dX4_turned_82 : decode cX4_turned 82 = .ok (.iconst 0, 1) := by decide +kernel
theorem dX4_turned_83 : decode cX4_turned 83 = .ok (.istore 7, 2) := by decide +kernel
theorem dX4_turned_85 : decode cX4_turned 85 = .ok (.iload 7, 2) := by decide +kernel
theorem dX4_turned_87 : decode cX4_turned 87 = .ok (.bipush 49, 2) := by decide +kernel
theorem dX4_turned_89 : decode cX4_turned 89 = .ok (.if_icmp .ge 41, 3) := by decide +kernel
theorem dX4_turned_92 : decode cX4_turned 92 = .ok (.iload 6, 2) := by decide +kernel
theorem dX4_turned_94 : decode cX4_turned 94 = .ok (.ifCond .eq 27, 3) := by decide +kernel
theorem dX4_turned_97 : decode cX4_turned 97 = .ok (.aload_n 0, 1) := by decide +kernel
theorem dX4_turned_98 : decode cX4_turned 98 = .ok (.getfield 32, 3) := by decide +kernel
theorem dX4_turned_101 : decode cX4_turned 101 = .ok (.iload 7, 2) := by decide +kernel
theorem dX4_turned_103 : decode cX4_turned 103 = .ok (.iaload, 1) := by decide +kernel
theorem dX4_turned_104 : decode cX4_turned 104 = .ok (.aload_n 0, 1) := by decide +kernel
theorem dX4_turned_105 : decode cX4_turned 105 = .ok (.getfield 32, 3) := by decide +kernel
theorem dX4_turned_108 : decode cX4_turned 108 = .ok (.bipush 49, 2) := by decide +kernel
theorem dX4_turned_110 : decode cX4_turned 110 = .ok (.iload 7, 2) := by decide +kernel
theorem dX4_turned_112 : decode cX4_turned 112 = .ok (.iadd, 1) := by decide +kernel
theorem dX4_turned_113 : decode cX4_turned 113 = .ok (.iaload, 1) := by decide +kernel
theorem dX4_turned_114 : decode cX4_turned 114 = .ok (.if_icmp .ne 7, 3) := by decide +kernel
theorem dX4_turned_117 : decode cX4_turned 117 = .ok (.iconst 1, 1) := by decide +kernel
theorem dX4_turned_118 : decode cX4_turned 118 = .ok (.goto 4, 3) := by decide +kernel
theorem dX4_turned_121 : decode cX4_turned 121 = .ok (.iconst 0, 1) := by decide +kernel
theorem dX4_turned_122 : decode cX4_turned 122 = .ok (.istore 6, 2) := by decide +kernel
theorem dX4_turned_124 : decode cX4_turned 124 = .ok (.iinc 7 1, 3) := by decide +kernel
theorem dX4_turned_127 : decode cX4_turned 127 = .ok (.goto (-42), 3) := by decide +kernel
theorem dX4_turned_130 : decode cX4_turned 130 = .ok (.iload 6, 2) := by decide +kernel
theorem dX4_turned_132 : decode cX4_turned 132 = .ok (.ifCond .eq 6, 3) := by decide +kernel
theorem dX4_turned_135 : decode cX4_turned 135 = .ok (.iload 5, 2) := by decide +kernel
theorem dX4_turned_137 : decode cX4_turned 137 = .ok (.ireturn, 1) := by decide +kernel
theorem dX4_turned_138 : decode cX4_turned 138 = .ok (.iload 4, 2) := by decide +kernel
theorem dX4_turned_140 : decode cX4_turned 140 = .ok (.istore 7, 2) := by decide +kernel
theorem dX4_turned_142 : decode cX4_turned 142 = .ok (.iload 7, 2) := by decide +kernel
theorem dX4_turned_144 : decode cX4_turned 144 = .ok (.ifCond .le 25, 3) := by decide +kernel
theorem dX4_turned_147 : decode cX4_turned 147 = .ok (.aload_n 0, 1) := by decide +kernel
theorem dX4_turned_148 : decode cX4_turned 148 = .ok (.getfield 32, 3) := by decide +kernel
theorem dX4_turned_151 : decode cX4_turned 151 = .ok (.iload 7, 2) := by decide +kernel
theorem dX4_turned_153 : decode cX4_turned 153 = .ok (.aload_n 0, 1) := by decide +kernel
theorem dX4_turned_154 : decode cX4_turned 154 = .ok (.getfield 32, 3) := by decide +kernel
theorem dX4_turned_157 : decode cX4_turned 157 = .ok (.iload 7, 2) := by decide +kernel
theorem dX4_turned_159 : decode cX4_turned 159 = .ok (.iconst 1, 1) := by decide +kernel
theorem dX4_turned_160 : decode cX4_turned 160 = .ok (.isub, 1) := by decide +kernel
theorem dX4_turned_161 : decode cX4_turned 161 = .ok (.iaload, 1) := by decide +kernel
theorem dX4_turned_162 : decode cX4_turned 162 = .ok (.iastore, 1) := by decide +kernel
theorem dX4_turned_163 : decode cX4_turned 163 = .ok (.iinc 7 (-1), 3) := by decide +kernel
theorem dX4_turned_166 : decode cX4_turned 166 = .ok (.goto (-24), 3) := by decide +kernel
theorem dX4_turned_169 : decode cX4_turned 169 = .ok (.aload_n 0, 1) := by decide +kernel
theorem dX4_turned_170 : decode cX4_turned 170 = .ok (.getfield 32, 3) := by decide +kernel
theorem dX4_turned_173 : decode cX4_turned 173 = .ok (.iconst 0, 1) := by decide +kernel
theorem dX4_turned_174 : decode cX4_turned 174 = .ok (.aload_n 0, 1) := by decide +kernel
theorem dX4_turned_175 : decode cX4_turned 175 = .ok (.getfield 32, 3) := by decide +kernel
theorem dX4_turned_178 : decode cX4_turned 178 = .ok (.iload 4, 2) := by decide +kernel
theorem dX4_turned_180 : decode cX4_turned 180 = .ok (.iaload, 1) := by decide +kernel
theorem dX4_turned_181 : decode cX4_turned 181 = .ok (.iastore, 1) := by decide +kernel
theorem dX4_turned_182 : decode cX4_turned 182 = .ok (.aload_n 0, 1) := by decide +kernel
theorem dX4_turned_183 : decode cX4_turned 183 = .ok (.getfield 32, 3) := by decide +kernel
theorem dX4_turned_186 : decode cX4_turned 186 = .ok (.iload 4, 2) := by decide +kernel
theorem dX4_turned_188 : decode cX4_turned 188 = .ok (.iconst 0, 1) := by decide +kernel
theorem dX4_turned_189 : decode cX4_turned 189 = .ok (.iastore, 1) := by decide +kernel
theorem dX4_turned_190 : decode cX4_turned 190 = .ok (.aload_n 0, 1) := by decide +kernel
theorem dX4_turned_191 : decode cX4_turned 191 = .ok (.iconst 0, 1) := by decide +kernel
theorem dX4_turned_192 : decode cX4_turned 192 = .ok (.invokevirtual 106, 3) := by decide +kernel
theorem dX4_turned_195 : decode cX4_turned 195 = .ok (.iinc 5 1, 3) := by decide +kernel
theorem dX4_turned_198 : decode cX4_turned 198 = .ok (.goto (-126), 3) := by decide +kernel
theorem dX4_turned_201 : decode cX4_turned 201 = .ok (.bipush (-6), 2) := by decide +kernel
theorem dX4_turned_203 : decode cX4_turned 203 = .ok (.ireturn, 1) := by decide +kernel
theorem dX4_wayOf_0 : decode cX4_wayOf 0 = .ok (.iload_n 1, 1) := by decide +kernel
theorem dX4_wayOf_1 : decode cX4_wayOf 1 = .ok (.iload_n 2, 1) := by decide +kernel
theorem dX4_wayOf_2 : decode cX4_wayOf 2 = .ok (.if_icmp .ge 9, 3) := by decide +kernel
theorem dX4_wayOf_5 : decode cX4_wayOf 5 = .ok (.iload_n 2, 1) := by decide +kernel
theorem dX4_wayOf_6 : decode cX4_wayOf 6 = .ok (.iload_n 1, 1) := by decide +kernel
theorem dX4_wayOf_7 : decode cX4_wayOf 7 = .ok (.isub, 1) := by decide +kernel
theorem dX4_wayOf_8 : decode cX4_wayOf 8 = .ok (.goto 6, 3) := by decide +kernel
theorem dX4_wayOf_11 : decode cX4_wayOf 11 = .ok (.iload_n 1, 1) := by decide +kernel
theorem dX4_wayOf_12 : decode cX4_wayOf 12 = .ok (.iload_n 2, 1) := by decide +kernel
theorem dX4_wayOf_13 : decode cX4_wayOf 13 = .ok (.isub, 1) := by decide +kernel
theorem dX4_wayOf_14 : decode cX4_wayOf 14 = .ok (.istore_n 3, 1) := by decide +kernel
theorem dX4_wayOf_15 : decode cX4_wayOf 15 = .ok (.iload_n 3, 1) := by decide +kernel
theorem dX4_wayOf_16 : decode cX4_wayOf 16 = .ok (.aload_n 0, 1) := by decide +kernel
theorem dX4_wayOf_17 : decode cX4_wayOf 17 = .ok (.getfield 7, 3) := by decide +kernel
theorem dX4_wayOf_20 : decode cX4_wayOf 20 = .ok (.iload_n 3, 1) := by decide +kernel
theorem dX4_wayOf_21 : decode cX4_wayOf 21 = .ok (.isub, 1) := by decide +kernel
theorem dX4_wayOf_22 : decode cX4_wayOf 22 = .ok (.if_icmp .ge 7, 3) := by decide +kernel
theorem dX4_wayOf_25 : decode cX4_wayOf 25 = .ok (.iload_n 3, 1) := by decide +kernel
theorem dX4_wayOf_26 : decode cX4_wayOf 26 = .ok (.goto 9, 3) := by decide +kernel
theorem dX4_wayOf_29 : decode cX4_wayOf 29 = .ok (.aload_n 0, 1) := by decide +kernel
theorem dX4_wayOf_30 : decode cX4_wayOf 30 = .ok (.getfield 7, 3) := by decide +kernel
theorem dX4_wayOf_33 : decode cX4_wayOf 33 = .ok (.iload_n 3, 1) := by decide +kernel
theorem dX4_wayOf_34 : decode cX4_wayOf 34 = .ok (.isub, 1) := by decide +kernel
theorem dX4_wayOf_35 : decode cX4_wayOf 35 = .ok (.ireturn, 1) := by decide +kernel
set_option maxRecDepth 20000 in
theorem ggX4_join_X4_phaseOf : GoodIn wsX4_join wsX4_phaseOf := goodIn_r _ [12, 13, 14, 15, 16, 11, 17, 18, 19, 20, 21, 22, 3, 23, 24, 25, 26, 27, 28, 29, 30, 31, 32, 33, 42, 43, 44, 45, 46, 47, 48, 49, 50, 51, 52, 53, 54, 55, 56, 57] (by decide +kernel) (by decide +kernel)
set_option maxRecDepth 20000 in
theorem gX4_join_X4_phaseOf : GoodIn wsX4_join (wsV RX4 84 RX4 yX4_phaseOf wsX4_phaseOf) := goodIn_app (goodIn_of _ (by decide +kernel)) ggX4_join_X4_phaseOf
set_option maxRecDepth 20000 in
theorem ggX4_join_X4_isForward : GoodIn wsX4_join wsX4_isForward := goodIn_r _ [37, 14, 15, 16, 11, 17, 13, 18, 19, 20, 21, 22, 3, 23, 24, 25, 26, 27, 28, 29, 30, 31, 32, 33, 42, 43, 44, 45, 46, 47, 48, 49, 50, 51, 52, 53, 54, 55, 56, 57] (by decide +kernel) (by decide +kernel)
set_option maxRecDepth 20000 in
theorem gX4_join_X4_isForward : GoodIn wsX4_join (wsV RX4 87 RX4 yX4_isForward wsX4_isForward) := goodIn_app (goodIn_of _ (by decide +kernel)) ggX4_join_X4_isForward
set_option maxRecDepth 20000 in
theorem ggX4_join_X4_wayOf : GoodIn wsX4_join wsX4_wayOf := goodIn_r _ [41, 3, 42, 43, 44, 45, 46, 47, 48, 49, 50, 51, 52, 53, 54, 55, 56, 57] (by decide +kernel) (by decide +kernel)
set_option maxRecDepth 20000 in
theorem gX4_join_X4_wayOf : GoodIn wsX4_join (wsV RX4 132 RX4 yX4_wayOf wsX4_wayOf) := goodIn_app (goodIn_of _ (by decide +kernel)) ggX4_join_X4_wayOf
theorem dX4_join_0 : decode cX4_join 0 = .ok (.aload_n 0, 1) := by decide +kernel
theorem dX4_join_1 : decode cX4_join 1 = .ok (.iconst 0, 1) := by decide +kernel
theorem dX4_join_2 : decode cX4_join 2 = .ok (.putfield 120, 3) := by decide +kernel
theorem dX4_join_5 : decode cX4_join 5 = .ok (.aload_n 0, 1) := by decide +kernel
theorem dX4_join_6 : decode cX4_join 6 = .ok (.iconst 0, 1) := by decide +kernel
theorem dX4_join_7 : decode cX4_join 7 = .ok (.putfield 123, 3) := by decide +kernel
theorem dX4_join_10 : decode cX4_join 10 = .ok (.iconst 0, 1) := by decide +kernel
theorem dX4_join_11 : decode cX4_join 11 = .ok (.istore_n 2, 1) := by decide +kernel
theorem dX4_join_12 : decode cX4_join 12 = .ok (.iload_n 2, 1) := by decide +kernel
theorem dX4_join_13 : decode cX4_join 13 = .ok (.aload_n 0, 1) := by decide +kernel
theorem dX4_join_14 : decode cX4_join 14 = .ok (.getfield 7, 3) := by decide +kernel
theorem dX4_join_17 : decode cX4_join 17 = .ok (.if_icmp .ge 78, 3) := by decide +kernel
theorem dX4_join_20 : decode cX4_join 20 = .ok (.aload_n 0, 1) := by decide +kernel
theorem dX4_join_21 : decode cX4_join 21 = .ok (.iload_n 2, 1) := by decide +kernel
theorem dX4_join_22 : decode cX4_join 22 = .ok (.invokevirtual 84, 3) := by decide +kernel
theorem dX4_join_25 : decode cX4_join 25 = .ok (.iload_n 1, 1) := by decide +kernel
theorem dX4_join_26 : decode cX4_join 26 = .ok (.if_icmp .ne 34, 3) := by decide +kernel
theorem dX4_join_29 : decode cX4_join 29 = .ok (.aload_n 0, 1) := by decide +kernel
theorem dX4_join_30 : decode cX4_join 30 = .ok (.iload_n 2, 1) := by decide +kernel
theorem dX4_join_31 : decode cX4_join 31 = .ok (.invokevirtual 87, 3) := by decide +kernel
theorem dX4_join_34 : decode cX4_join 34 = .ok (.ifCond .eq 26, 3) := by decide +kernel
theorem dX4_join_37 : decode cX4_join 37 = .ok (.aload_n 0, 1) := by decide +kernel
theorem dX4_join_38 : decode cX4_join 38 = .ok (.getfield 35, 3) := by decide +kernel
theorem dX4_join_41 : decode cX4_join 41 = .ok (.aload_n 0, 1) := by decide +kernel
theorem dX4_join_42 : decode cX4_join 42 = .ok (.getfield 120, 3) := by decide +kernel
theorem dX4_join_45 : decode cX4_join 45 = .ok (.iload_n 2, 1) := by decide +kernel
theorem dX4_join_46 : decode cX4_join 46 = .ok (.iastore, 1) := by decide +kernel
theorem dX4_join_47 : decode cX4_join 47 = .ok (.aload_n 0, 1) := by decide +kernel
theorem dX4_join_48 : decode cX4_join 48 = .ok (.dup, 1) := by decide +kernel
theorem dX4_join_49 : decode cX4_join 49 = .ok (.getfield 120, 3) := by decide +kernel
theorem dX4_join_52 : decode cX4_join 52 = .ok (.iconst 1, 1) := by decide +kernel
theorem dX4_join_53 : decode cX4_join 53 = .ok (.iadd, 1) := by decide +kernel
theorem dX4_join_54 : decode cX4_join 54 = .ok (.putfield 120, 3) := by decide +kernel
theorem dX4_join_57 : decode cX4_join 57 = .ok (.goto 32, 3) := by decide +kernel
theorem dX4_join_60 : decode cX4_join 60 = .ok (.aload_n 0, 1) := by decide +kernel
theorem dX4_join_61 : decode cX4_join 61 = .ok (.iload_n 2, 1) := by decide +kernel
theorem dX4_join_62 : decode cX4_join 62 = .ok (.invokevirtual 84, 3) := by decide +kernel
theorem dX4_join_65 : decode cX4_join 65 = .ok (.iload_n 1, 1) := by decide +kernel
theorem dX4_join_66 : decode cX4_join 66 = .ok (.if_icmp .ne 23, 3) := by decide +kernel
theorem dX4_join_69 : decode cX4_join 69 = .ok (.aload_n 0, 1) := by decide +kernel
theorem dX4_join_70 : decode cX4_join 70 = .ok (.getfield 38, 3) := by decide +kernel
theorem dX4_join_73 : decode cX4_join 73 = .ok (.aload_n 0, 1) := by decide +kernel
theorem dX4_join_74 : decode cX4_join 74 = .ok (.getfield 123, 3) := by decide +kernel
theorem dX4_join_77 : decode cX4_join 77 = .ok (.iload_n 2, 1) := by decide +kernel
theorem dX4_join_78 : decode cX4_join 78 = .ok (.iastore, 1) := by decide +kernel
theorem dX4_join_79 : decode cX4_join 79 = .ok (.aload_n 0, 1) := by decide +kernel
theorem dX4_join_80 : decode cX4_join 80 = .ok (.dup, 1) := by decide +kernel
theorem dX4_join_81 : decode cX4_join 81 = .ok (.getfield 123, 3) := by decide +kernel
theorem dX4_join_84 : decode cX4_join 84 = .ok (.iconst 1, 1) := by decide +kernel
theorem dX4_join_85 : decode cX4_join 85 = .ok (.iadd, 1) := by decide +kernel
theorem dX4_join_86 : decode cX4_join 86 = .ok (.putfield 123, 3) := by decide +kernel
theorem dX4_join_89 : decode cX4_join 89 = .ok (.iinc 2 1, 3) := by decide +kernel
theorem dX4_join_92 : decode cX4_join 92 = .ok (.goto (-80), 3) := by decide +kernel
theorem dX4_join_95 : decode cX4_join 95 = .ok (.aload_n 0, 1) := by decide +kernel
theorem dX4_join_96 : decode cX4_join 96 = .ok (.getfield 120, 3) := by decide +kernel
theorem dX4_join_99 : decode cX4_join 99 = .ok (.aload_n 0, 1) := by decide +kernel
theorem dX4_join_100 : decode cX4_join 100 = .ok (.getfield 123, 3) := by decide +kernel
theorem dX4_join_103 : decode cX4_join 103 = .ok (.if_icmp .eq 5, 3) := by decide +kernel
theorem dX4_join_106 : decode cX4_join 106 = .ok (.iconst 0, 1) := by decide +kernel
theorem dX4_join_107 : decode cX4_join 107 = .ok (.ireturn, 1) := by decide +kernel
theorem dX4_join_108 : decode cX4_join 108 = .ok (.aload_n 0, 1) := by decide +kernel
theorem dX4_join_109 : decode cX4_join 109 = .ok (.iconst 0, 1) := by decide +kernel
theorem dX4_join_110 : decode cX4_join 110 = .ok (.putfield 126, 3) := by decide +kernel
theorem dX4_join_113 : decode cX4_join 113 = .ok (.aload_n 0, 1) := by decide +kernel
theorem dX4_join_114 : decode cX4_join 114 = .ok (.iconst 0, 1) := by decide +kernel
theorem dX4_join_115 : decode cX4_join 115 = .ok (.putfield 129, 3) := by decide +kernel
theorem dX4_join_118 : decode cX4_join 118 = .ok (.iconst 0, 1) := by decide +kernel
theorem dX4_join_119 : decode cX4_join 119 = .ok (.istore_n 2, 1) := by decide +kernel
theorem dX4_join_120 : decode cX4_join 120 = .ok (.iload_n 2, 1) := by decide +kernel
theorem dX4_join_121 : decode cX4_join 121 = .ok (.aload_n 0, 1) := by decide +kernel
theorem dX4_join_122 : decode cX4_join 122 = .ok (.getfield 120, 3) := by decide +kernel
theorem dX4_join_125 : decode cX4_join 125 = .ok (.if_icmp .ge 79, 3) := by decide +kernel
theorem dX4_join_128 : decode cX4_join 128 = .ok (.iconst 0, 1) := by decide +kernel
theorem dX4_join_129 : decode cX4_join 129 = .ok (.istore_n 3, 1) := by decide +kernel
theorem dX4_join_130 : decode cX4_join 130 = .ok (.iconst 0, 1) := by decide +kernel
theorem dX4_join_131 : decode cX4_join 131 = .ok (.istore 4, 2) := by decide +kernel
theorem dX4_join_133 : decode cX4_join 133 = .ok (.iload 4, 2) := by decide +kernel
theorem dX4_join_135 : decode cX4_join 135 = .ok (.aload_n 0, 1) := by decide +kernel
theorem dX4_join_136 : decode cX4_join 136 = .ok (.getfield 120, 3) := by decide +kernel
theorem dX4_join_139 : decode cX4_join 139 = .ok (.if_icmp .ge 37, 3) := by decide +kernel
theorem dX4_join_142 : decode cX4_join 142 = .ok (.iload_n 3, 1) := by decide +kernel
theorem dX4_join_143 : decode cX4_join 143 = .ok (.aload_n 0, 1) := by decide +kernel
theorem dX4_join_144 : decode cX4_join 144 = .ok (.aload_n 0, 1) := by decide +kernel
theorem dX4_join_145 : decode cX4_join 145 = .ok (.getfield 35, 3) := by decide +kernel
theorem dX4_join_148 : decode cX4_join 148 = .ok (.iload 4, 2) := by decide +kernel
theorem dX4_join_150 : decode cX4_join 150 = .ok (.iaload, 1) := by decide +kernel
theorem dX4_join_151 : decode cX4_join 151 = .ok (.aload_n 0, 1) := by decide +kernel
theorem dX4_join_152 : decode cX4_join 152 = .ok (.getfield 38, 3) := by decide +kernel
theorem dX4_join_155 : decode cX4_join 155 = .ok (.iload 4, 2) := by decide +kernel
theorem dX4_join_157 : decode cX4_join 157 = .ok (.iload_n 2, 1) := by decide +kernel
theorem dX4_join_158 : decode cX4_join 158 = .ok (.iadd, 1) := by decide +kernel
theorem dX4_join_159 : decode cX4_join 159 = .ok (.aload_n 0, 1) := by decide +kernel
theorem dX4_join_160 : decode cX4_join 160 = .ok (.getfield 123, 3) := by decide +kernel
theorem dX4_join_163 : decode cX4_join 163 = .ok (.irem, 1) := by decide +kernel
theorem dX4_join_164 : decode cX4_join 164 = .ok (.iaload, 1) := by decide +kernel
theorem dX4_join_165 : decode cX4_join 165 = .ok (.invokevirtual 132, 3) := by decide +kernel
theorem dX4_join_168 : decode cX4_join 168 = .ok (.iadd, 1) := by decide +kernel
theorem dX4_join_169 : decode cX4_join 169 = .ok (.istore_n 3, 1) := by decide +kernel
theorem dX4_join_170 : decode cX4_join 170 = .ok (.iinc 4 1, 3) := by decide +kernel
theorem dX4_join_173 : decode cX4_join 173 = .ok (.goto (-40), 3) := by decide +kernel
theorem dX4_join_176 : decode cX4_join 176 = .ok (.iload_n 2, 1) := by decide +kernel
theorem dX4_join_177 : decode cX4_join 177 = .ok (.ifCond .eq 11, 3) := by decide +kernel
theorem dX4_join_180 : decode cX4_join 180 = .ok (.iload_n 3, 1) := by decide +kernel
theorem dX4_join_181 : decode cX4_join 181 = .ok (.aload_n 0, 1) := by decide +kernel
theorem dX4_join_182 : decode cX4_join 182 = .ok (.getfield 126, 3) := by decide +kernel
theorem dX4_join_185 : decode cX4_join 185 = .ok (.if_icmp .ge 13, 3) := by decide +kernel
theorem dX4_join_188 : decode cX4_join 188 = .ok (.aload_n 0, 1) := by decide +kernel
theorem dX4_join_189 : decode cX4_join 189 = .ok (.iload_n 3, 1) := by decide +kernel
theorem dX4_join_190 : decode cX4_join 190 = .ok (.putfield 126, 3) := by decide +kernel
theorem dX4_join_193 : decode cX4_join 193 = .ok (.aload_n 0, 1) := by decide +kernel
theorem dX4_join_194 : decode cX4_join 194 = .ok (.iload_n 2, 1) := by decide +kernel
theorem dX4_join_195 : decode cX4_join 195 = .ok (.putfield 129, 3) := by decide +kernel
theorem dX4_join_198 : decode cX4_join 198 = .ok (.iinc 2 1, 3) := by decide +kernel
theorem dX4_join_201 : decode cX4_join 201 = .ok (.goto (-81), 3) := by decide +kernel
theorem dX4_join_204 : decode cX4_join 204 = .ok (.iconst 1, 1) := by decide +kernel
theorem dX4_join_205 : decode cX4_join 205 = .ok (.ireturn, 1) := by decide +kernel
set_option maxRecDepth 20000 in
theorem ggX4_joined_X4_isPhase : GoodIn wsX4_joined wsX4_isPhase := goodIn_r _ [8, 9, 10, 11, 7, 12, 57, 58, 59, 60, 61, 62, 63, 64, 65, 66, 67, 68, 69, 70, 71, 72] (by decide +kernel) (by decide +kernel)
set_option maxRecDepth 20000 in
theorem gX4_joined_X4_isPhase : GoodIn wsX4_joined (wsV RX4 93 RX4 yX4_isPhase wsX4_isPhase) := goodIn_app (goodIn_of _ (by decide +kernel)) ggX4_joined_X4_isPhase
set_option maxRecDepth 20000 in
theorem ggX4_joined_X4_in : GoodIn wsX4_joined wsX4_in := goodIn_r _ [12] (by decide +kernel) (by decide +kernel)
set_option maxRecDepth 20000 in
theorem gX4_joined_X4_in : GoodIn wsX4_joined (va_wsS RX4 59 yX4_in wsX4_in) := goodIn_app (goodIn_of _ (by decide +kernel)) ggX4_joined_X4_in
set_option maxRecDepth 20000 in
theorem ggX4_joined_X4_isBalanced : GoodIn wsX4_joined wsX4_isBalanced := goodIn_r _ [16, 9, 17, 18, 19, 7, 20, 21, 22, 23, 24, 25, 26, 27, 28, 29, 57, 58, 59, 60, 61, 62, 63, 64, 65, 66, 67, 68, 69, 70, 71, 72] (by decide +kernel) (by decide +kernel)
set_option maxRecDepth 20000 in
theorem gX4_joined_X4_isBalanced : GoodIn wsX4_joined (wsV RX4 80 RX4 yX4_isBalanced wsX4_isBalanced) := goodIn_app (goodIn_of _ (by decide +kernel)) ggX4_joined_X4_isBalanced
set_option maxRecDepth 20000 in
theorem ggX4_joined_X4_join : GoodIn wsX4_joined wsX4_join := goodIn_r _ [33, 3, 34, 21, 35, 36, 1, 2, 37, 38, 39, 7, 40, 9, 41, 42, 43, 44, 45, 46, 47, 48, 26, 22, 23, 24, 25, 27, 28, 29, 17, 18, 19, 20, 49, 50, 51, 52, 53, 54, 55, 56, 57, 58, 59, 60, 61, 62, 63, 64, 65, 66, 67, 68, 69, 70, 71, 72] (by decide +kernel) (by decide +kernel)
set_option maxRecDepth 20000 in
theorem gX4_joined_X4_join : GoodIn wsX4_joined (wsV RX4 135 RX4 yX4_join wsX4_join) := goodIn_app (goodIn_of _ (by decide +kernel)) ggX4_joined_X4_join
theorem dX4_joined_0 : decode cX4_joined 0 = .ok (.aload_n 0, 1) := by decide +kernel
theorem dX4_joined_1 : decode cX4_joined 1 = .ok (.iload_n 1, 1) := by decide +kernel
theorem dX4_joined_2 : decode cX4_joined 2 = .ok (.invokevirtual 93, 3) := by decide +kernel
theorem dX4_joined_5 : decode cX4_joined 5 = .ok (.ifCond .ne 5, 3) := by decide +kernel
theorem dX4_joined_8 : decode cX4_joined 8 = .ok (.iconst (-1), 1) := by decide +kernel
theorem dX4_joined_9 : decode cX4_joined 9 = .ok (.ireturn, 1) := by decide +kernel
theorem dX4_joined_10 : decode cX4_joined 10 = .ok (.iload_n 2, 1) := by decide +kernel
theorem dX4_joined_11 : decode cX4_joined 11 = .ok (.iconst 0, 1) := by decide +kernel
theorem dX4_joined_12 : decode cX4_joined 12 = .ok (.iconst 2, 1) := by decide +kernel
theorem dX4_joined_13 : decode cX4_joined 13 = .ok (.invokestatic 59, 3) := by decide +kernel
theorem dX4_joined_16 : decode cX4_joined 16 = .ok (.ifCond .ne 6, 3) := by decide +kernel
theorem dX4_joined_19 : decode cX4_joined 19 = .ok (.bipush (-2), 2) := by decide +kernel
theorem dX4_joined_21 : decode cX4_joined 21 = .ok (.ireturn, 1) := by decide +kernel
theorem dX4_joined_22 : decode cX4_joined 22 = .ok (.aload_n 0, 1) := by decide +kernel
theorem dX4_joined_23 : decode cX4_joined 23 = .ok (.invokevirtual 80, 3) := by decide +kernel
theorem dX4_joined_26 : decode cX4_joined 26 = .ok (.ifCond .ne 6, 3) := by decide +kernel
theorem dX4_joined_29 : decode cX4_joined 29 = .ok (.bipush (-3), 2) := by decide +kernel
theorem dX4_joined_31 : decode cX4_joined 31 = .ok (.ireturn, 1) := by decide +kernel
theorem dX4_joined_32 : decode cX4_joined 32 = .ok (.aload_n 0, 1) := by decide +kernel
theorem dX4_joined_33 : decode cX4_joined 33 = .ok (.iload_n 1, 1) := by decide +kernel
theorem dX4_joined_34 : decode cX4_joined 34 = .ok (.invokevirtual 135, 3) := by decide +kernel
theorem dX4_joined_37 : decode cX4_joined 37 = .ok (.ifCond .ne 6, 3) := by decide +kernel
theorem dX4_joined_40 : decode cX4_joined 40 = .ok (.bipush (-5), 2) := by decide +kernel
theorem dX4_joined_42 : decode cX4_joined 42 = .ok (.ireturn, 1) := by decide +kernel
theorem dX4_joined_43 : decode cX4_joined 43 = .ok (.iload_n 2, 1) := by decide +kernel
theorem dX4_joined_44 : decode cX4_joined 44 = .ok (.ifCond .ne 10, 3) := by decide +kernel
theorem dX4_joined_47 : decode cX4_joined 47 = .ok (.aload_n 0, 1) := by decide +kernel
theorem dX4_joined_48 : decode cX4_joined 48 = .ok (.getfield 126, 3) := by decide +kernel
theorem dX4_joined_51 : decode cX4_joined 51 = .ok (.goto 19, 3) := by decide +kernel
theorem dX4_joined_54 : decode cX4_joined 54 = .ok (.iload_n 2, 1) := by decide +kernel
theorem dX4_joined_55 : decode cX4_joined 55 = .ok (.iconst 1, 1) := by decide +kernel
theorem dX4_joined_56 : decode cX4_joined 56 = .ok (.if_icmp .ne 10, 3) := by decide +kernel
theorem dX4_joined_59 : decode cX4_joined 59 = .ok (.aload_n 0, 1) := by decide +kernel
theorem dX4_joined_60 : decode cX4_joined 60 = .ok (.getfield 129, 3) := by decide +kernel
theorem dX4_joined_63 : decode cX4_joined 63 = .ok (.goto 7, 3) := by decide +kernel
theorem dX4_joined_66 : decode cX4_joined 66 = .ok (.aload_n 0, 1) := by decide +kernel
theorem dX4_joined_67 : decode cX4_joined 67 = .ok (.getfield 120, 3) := by decide +kernel
theorem dX4_joined_70 : decode cX4_joined 70 = .ok (.ireturn, 1) := by decide +kernel
set_option maxRecDepth 20000 in
theorem ggX4_partner_X4_isSlot : GoodIn wsX4_partner wsX4_isSlot := goodIn_r _ [10, 11, 12, 13, 9, 14, 57, 58, 59, 60, 61, 62, 63, 64, 65, 66, 67, 68, 69, 70, 71, 72] (by decide +kernel) (by decide +kernel)
set_option maxRecDepth 20000 in
theorem gX4_partner_X4_isSlot : GoodIn wsX4_partner (wsV RX4 76 RX4 yX4_isSlot wsX4_isSlot) := goodIn_app (goodIn_of _ (by decide +kernel)) ggX4_partner_X4_isSlot
set_option maxRecDepth 20000 in
theorem ggX4_partner_X4_isBalanced : GoodIn wsX4_partner wsX4_isBalanced := goodIn_r _ [18, 19, 20, 21, 22, 9, 23, 11, 24, 25, 26, 27, 28, 29, 30, 31, 57, 58, 59, 60, 61, 62, 63, 64, 65, 66, 67, 68, 69, 70, 71, 72] (by decide +kernel) (by decide +kernel)
set_option maxRecDepth 20000 in
theorem gX4_partner_X4_isBalanced : GoodIn wsX4_partner (wsV RX4 80 RX4 yX4_isBalanced wsX4_isBalanced) := goodIn_app (goodIn_of _ (by decide +kernel)) ggX4_partner_X4_isBalanced
set_option maxRecDepth 20000 in
theorem ggX4_partner_X4_phaseOf : GoodIn wsX4_partner wsX4_phaseOf := goodIn_r _ [35, 19, 36, 37, 38, 9, 39, 40, 41, 42, 43, 28, 11, 24, 25, 26, 27, 29, 30, 31, 20, 21, 22, 23, 57, 58, 59, 60, 61, 62, 63, 64, 65, 66, 67, 68, 69, 70, 71, 72] (by decide +kernel) (by decide +kernel)
set_option maxRecDepth 20000 in
theorem gX4_partner_X4_phaseOf : GoodIn wsX4_partner (wsV RX4 84 RX4 yX4_phaseOf wsX4_phaseOf) := goodIn_app (goodIn_of _ (by decide +kernel)) ggX4_partner_X4_phaseOf
set_option maxRecDepth 20000 in
theorem ggX4_partner_X4_join : GoodIn wsX4_partner wsX4_join := goodIn_r _ [47, 1, 4, 11, 5, 2, 48, 3, 32, 33, 34, 9, 35, 19, 36, 37, 38, 39, 40, 41, 42, 43, 28, 24, 25, 26, 27, 29, 30, 31, 20, 21, 22, 23, 49, 50, 51, 52, 53, 54, 55, 56, 57, 58, 59, 60, 61, 62, 63, 64, 65, 66, 67, 68, 69, 70, 71, 72] (by decide +kernel) (by decide +kernel)
set_option maxRecDepth 20000 in
theorem gX4_partner_X4_join : GoodIn wsX4_partner (wsV RX4 135 RX4 yX4_join wsX4_join) := goodIn_app (goodIn_of _ (by decide +kernel)) ggX4_partner_X4_join
theorem dX4_partner_0 : decode cX4_partner 0 = .ok (.aload_n 0, 1) := by decide +kernel
theorem dX4_partner_1 : decode cX4_partner 1 = .ok (.iload_n 1, 1) := by decide +kernel
theorem dX4_partner_2 : decode cX4_partner 2 = .ok (.invokevirtual 76, 3) := by decide +kernel
theorem dX4_partner_5 : decode cX4_partner 5 = .ok (.ifCond .ne 5, 3) := by decide +kernel
theorem dX4_partner_8 : decode cX4_partner 8 = .ok (.iconst (-1), 1) := by decide +kernel
theorem dX4_partner_9 : decode cX4_partner 9 = .ok (.ireturn, 1) := by decide +kernel
theorem dX4_partner_10 : decode cX4_partner 10 = .ok (.aload_n 0, 1) := by decide +kernel
theorem dX4_partner_11 : decode cX4_partner 11 = .ok (.invokevirtual 80, 3) := by decide +kernel
theorem dX4_partner_14 : decode cX4_partner 14 = .ok (.ifCond .ne 6, 3) := by decide +kernel
theorem dX4_partner_17 : decode cX4_partner 17 = .ok (.bipush (-3), 2) := by decide +kernel
theorem dX4_partner_19 : decode cX4_partner 19 = .ok (.ireturn, 1) := by decide +kernel
theorem dX4_partner_20 : decode cX4_partner 20 = .ok (.aload_n 0, 1) := by decide +kernel
theorem dX4_partner_21 : decode cX4_partner 21 = .ok (.aload_n 0, 1) := by decide +kernel
theorem dX4_partner_22 : decode cX4_partner 22 = .ok (.iload_n 1, 1) := by decide +kernel
theorem dX4_partner_23 : decode cX4_partner 23 = .ok (.invokevirtual 84, 3) := by decide +kernel
theorem dX4_partner_26 : decode cX4_partner 26 = .ok (.invokevirtual 135, 3) := by decide +kernel
theorem dX4_partner_29 : decode cX4_partner 29 = .ok (.ifCond .ne 6, 3) := by decide +kernel
theorem dX4_partner_32 : decode cX4_partner 32 = .ok (.bipush (-5), 2) := by decide +kernel
theorem dX4_partner_34 : decode cX4_partner 34 = .ok (.ireturn, 1) := by decide +kernel
theorem dX4_partner_35 : decode cX4_partner 35 = .ok (.bipush (-6), 2) := by decide +kernel
theorem dX4_partner_37 : decode cX4_partner 37 = .ok (.istore_n 2, 1) := by decide +kernel
theorem dX4_partner_38 : decode cX4_partner 38 = .ok (.iconst 0, 1) := by decide +kernel
theorem dX4_partner_39 : decode cX4_partner 39 = .ok (.istore_n 3, 1) := by decide +kernel
theorem dX4_partner_40 : decode cX4_partner 40 = .ok (.iload_n 3, 1) := by decide +kernel
theorem dX4_partner_41 : decode cX4_partner 41 = .ok (.aload_n 0, 1) := by decide +kernel
theorem dX4_partner_42 : decode cX4_partner 42 = .ok (.getfield 120, 3) := by decide +kernel
theorem dX4_partner_45 : decode cX4_partner 45 = .ok (.if_icmp .ge 59, 3) := by decide +kernel
theorem dX4_partner_48 : decode cX4_partner 48 = .ok (.aload_n 0, 1) := by decide +kernel
theorem dX4_partner_49 : decode cX4_partner 49 = .ok (.getfield 38, 3) := by decide +kernel
theorem dX4_partner_52 : decode cX4_partner 52 = .ok (.iload_n 3, 1) := by decide +kernel
theorem dX4_partner_53 : decode cX4_partner 53 = .ok (.aload_n 0, 1) := by decide +kernel
theorem dX4_partner_54 : decode cX4_partner 54 = .ok (.getfield 129, 3) := by decide +kernel
theorem dX4_partner_57 : decode cX4_partner 57 = .ok (.iadd, 1) := by decide +kernel
theorem dX4_partner_58 : decode cX4_partner 58 = .ok (.aload_n 0, 1) := by decide +kernel
theorem dX4_partner_59 : decode cX4_partner 59 = .ok (.getfield 123, 3) := by decide +kernel
theorem dX4_partner_62 : decode cX4_partner 62 = .ok (.irem, 1) := by decide +kernel
theorem dX4_partner_63 : decode cX4_partner 63 = .ok (.iaload, 1) := by decide +kernel
theorem dX4_partner_64 : decode cX4_partner 64 = .ok (.istore 4, 2) := by decide +kernel
theorem dX4_partner_66 : decode cX4_partner 66 = .ok (.aload_n 0, 1) := by decide +kernel
theorem dX4_partner_67 : decode cX4_partner 67 = .ok (.getfield 35, 3) := by decide +kernel
theorem dX4_partner_70 : decode cX4_partner 70 = .ok (.iload_n 3, 1) := by decide +kernel
theorem dX4_partner_71 : decode cX4_partner 71 = .ok (.iaload, 1) := by decide +kernel
theorem dX4_partner_72 : decode cX4_partner 72 = .ok (.iload_n 1, 1) := by decide +kernel
theorem dX4_partner_73 : decode cX4_partner 73 = .ok (.if_icmp .ne 8, 3) := by decide +kernel
theorem dX4_partner_76 : decode cX4_partner 76 = .ok (.iload 4, 2) := by decide +kernel
theorem dX4_partner_78 : decode cX4_partner 78 = .ok (.goto 19, 3) := by decide +kernel
theorem dX4_partner_81 : decode cX4_partner 81 = .ok (.iload 4, 2) := by decide +kernel
theorem dX4_partner_83 : decode cX4_partner 83 = .ok (.iload_n 1, 1) := by decide +kernel
theorem dX4_partner_84 : decode cX4_partner 84 = .ok (.if_icmp .ne 12, 3) := by decide +kernel
theorem dX4_partner_87 : decode cX4_partner 87 = .ok (.aload_n 0, 1) := by decide +kernel
theorem dX4_partner_88 : decode cX4_partner 88 = .ok (.getfield 35, 3) := by decide +kernel
theorem dX4_partner_91 : decode cX4_partner 91 = .ok (.iload_n 3, 1) := by decide +kernel
theorem dX4_partner_92 : decode cX4_partner 92 = .ok (.iaload, 1) := by decide +kernel
theorem dX4_partner_93 : decode cX4_partner 93 = .ok (.goto 4, 3) := by decide +kernel
theorem dX4_partner_96 : decode cX4_partner 96 = .ok (.iload_n 2, 1) := by decide +kernel
theorem dX4_partner_97 : decode cX4_partner 97 = .ok (.istore_n 2, 1) := by decide +kernel
theorem dX4_partner_98 : decode cX4_partner 98 = .ok (.iinc 3 1, 3) := by decide +kernel
theorem dX4_partner_101 : decode cX4_partner 101 = .ok (.goto (-61), 3) := by decide +kernel
theorem dX4_partner_104 : decode cX4_partner 104 = .ok (.iload_n 2, 1) := by decide +kernel
theorem dX4_partner_105 : decode cX4_partner 105 = .ok (.ireturn, 1) := by decide +kernel
set_option maxRecDepth 20000 in
theorem ggX4_path_X4_isSlot : GoodIn wsX4_path wsX4_isSlot := goodIn_r _ [5, 6, 7, 8, 4, 9, 22, 23, 24, 25, 26, 27, 28, 29, 30, 31, 32, 33, 34, 35, 36, 37] (by decide +kernel) (by decide +kernel)
set_option maxRecDepth 20000 in
theorem gX4_path_X4_isSlot : GoodIn wsX4_path (wsV RX4 76 RX4 yX4_isSlot wsX4_isSlot) := goodIn_app (goodIn_of _ (by decide +kernel)) ggX4_path_X4_isSlot
set_option maxRecDepth 20000 in
theorem ggX4_path_X4_in : GoodIn wsX4_path wsX4_in := goodIn_r _ [9] (by decide +kernel) (by decide +kernel)
set_option maxRecDepth 20000 in
theorem gX4_path_X4_in : GoodIn wsX4_path (va_wsS RX4 59 yX4_in wsX4_in) := goodIn_app (goodIn_of _ (by decide +kernel)) ggX4_path_X4_in
set_option maxRecDepth 20000 in
theorem ggX4_path_X4_copies : GoodIn wsX4_path wsX4_copies := goodIn_r _ [13, 6, 14, 15, 16, 4, 17, 22, 23, 24, 25, 26, 27, 28, 29, 30, 31, 32, 33, 34, 35, 36, 37] (by decide +kernel) (by decide +kernel)
set_option maxRecDepth 20000 in
theorem gX4_path_X4_copies : GoodIn wsX4_path (wsV RX4 52 RX4 yX4_copies wsX4_copies) := goodIn_app (goodIn_of _ (by decide +kernel)) ggX4_path_X4_copies
set_option maxRecDepth 20000 in
theorem ggX4_path_X4_star : GoodIn wsX4_path wsX4_star := goodIn_r _ [21, 6, 10, 11, 12, 4, 13, 14, 15, 16, 17, 22, 23, 24, 25, 26, 27, 28, 29, 30, 31, 32, 33, 34, 35, 36, 37] (by decide +kernel) (by decide +kernel)
set_option maxRecDepth 20000 in
theorem gX4_path_X4_star : GoodIn wsX4_path (wsV RX4 56 RX4 yX4_star wsX4_star) := goodIn_app (goodIn_of _ (by decide +kernel)) ggX4_path_X4_star
theorem dX4_path_0 : decode cX4_path 0 = .ok (.aload_n 0, 1) := by decide +kernel
theorem dX4_path_1 : decode cX4_path 1 = .ok (.iload_n 1, 1) := by decide +kernel
theorem dX4_path_2 : decode cX4_path 2 = .ok (.invokevirtual 76, 3) := by decide +kernel
theorem dX4_path_5 : decode cX4_path 5 = .ok (.ifCond .ne 5, 3) := by decide +kernel
theorem dX4_path_8 : decode cX4_path 8 = .ok (.iconst (-1), 1) := by decide +kernel
theorem dX4_path_9 : decode cX4_path 9 = .ok (.ireturn, 1) := by decide +kernel
theorem dX4_path_10 : decode cX4_path 10 = .ok (.iload_n 2, 1) := by decide +kernel
theorem dX4_path_11 : decode cX4_path 11 = .ok (.iconst 1, 1) := by decide +kernel
theorem dX4_path_12 : decode cX4_path 12 = .ok (.bipush 10, 2) := by decide +kernel
theorem dX4_path_14 : decode cX4_path 14 = .ok (.invokestatic 59, 3) := by decide +kernel
theorem dX4_path_17 : decode cX4_path 17 = .ok (.ifCond .ne 6, 3) := by decide +kernel
theorem dX4_path_20 : decode cX4_path 20 = .ok (.bipush (-2), 2) := by decide +kernel
theorem dX4_path_22 : decode cX4_path 22 = .ok (.ireturn, 1) := by decide +kernel
theorem dX4_path_23 : decode cX4_path 23 = .ok (.aload_n 0, 1) := by decide +kernel
theorem dX4_path_24 : decode cX4_path 24 = .ok (.invokevirtual 52, 3) := by decide +kernel
theorem dX4_path_27 : decode cX4_path 27 = .ok (.iload_n 2, 1) := by decide +kernel
theorem dX4_path_28 : decode cX4_path 28 = .ok (.irem, 1) := by decide +kernel
theorem dX4_path_29 : decode cX4_path 29 = .ok (.ifCond .ne 14, 3) := by decide +kernel
theorem dX4_path_32 : decode cX4_path 32 = .ok (.iload_n 1, 1) := by decide +kernel
theorem dX4_path_33 : decode cX4_path 33 = .ok (.aload_n 0, 1) := by decide +kernel
theorem dX4_path_34 : decode cX4_path 34 = .ok (.invokevirtual 56, 3) := by decide +kernel
theorem dX4_path_37 : decode cX4_path 37 = .ok (.idiv, 1) := by decide +kernel
theorem dX4_path_38 : decode cX4_path 38 = .ok (.iload_n 2, 1) := by decide +kernel
theorem dX4_path_39 : decode cX4_path 39 = .ok (.irem, 1) := by decide +kernel
theorem dX4_path_40 : decode cX4_path 40 = .ok (.goto 5, 3) := by decide +kernel
theorem dX4_path_43 : decode cX4_path 43 = .ok (.bipush (-5), 2) := by decide +kernel
theorem dX4_path_45 : decode cX4_path 45 = .ok (.ireturn, 1) := by decide +kernel
set_option maxRecDepth 20000 in
theorem ggX4_image_X4_in : GoodIn wsX4_image wsX4_in := goodIn_r _ [10] (by decide +kernel) (by decide +kernel)
set_option maxRecDepth 20000 in
theorem gX4_image_X4_in : GoodIn wsX4_image (va_wsS RX4 59 yX4_in wsX4_in) := goodIn_app (goodIn_of _ (by decide +kernel)) ggX4_image_X4_in
theorem dX4_image_0 : decode cX4_image 0 = .ok (.iload_n 1, 1) := by decide +kernel
theorem dX4_image_1 : decode cX4_image 1 = .ok (.iconst 0, 1) := by decide +kernel
theorem dX4_image_2 : decode cX4_image 2 = .ok (.iconst 1, 1) := by decide +kernel
theorem dX4_image_3 : decode cX4_image 3 = .ok (.invokestatic 59, 3) := by decide +kernel
theorem dX4_image_6 : decode cX4_image 6 = .ok (.ifCond .ne 6, 3) := by decide +kernel
theorem dX4_image_9 : decode cX4_image 9 = .ok (.bipush (-2), 2) := by decide +kernel
theorem dX4_image_11 : decode cX4_image 11 = .ok (.ireturn, 1) := by decide +kernel
theorem dX4_image_12 : decode cX4_image 12 = .ok (.aload_n 0, 1) := by decide +kernel
theorem dX4_image_13 : decode cX4_image 13 = .ok (.getfield 41, 3) := by decide +kernel
theorem dX4_image_16 : decode cX4_image 16 = .ok (.iconst 4, 1) := by decide +kernel
theorem dX4_image_17 : decode cX4_image 17 = .ok (.iload_n 1, 1) := by decide +kernel
theorem dX4_image_18 : decode cX4_image 18 = .ok (.imul, 1) := by decide +kernel
theorem dX4_image_19 : decode cX4_image 19 = .ok (.aload_n 0, 1) := by decide +kernel
theorem dX4_image_20 : decode cX4_image 20 = .ok (.getfield 7, 3) := by decide +kernel
theorem dX4_image_23 : decode cX4_image 23 = .ok (.iastore, 1) := by decide +kernel
theorem dX4_image_24 : decode cX4_image 24 = .ok (.aload_n 0, 1) := by decide +kernel
theorem dX4_image_25 : decode cX4_image 25 = .ok (.getfield 41, 3) := by decide +kernel
theorem dX4_image_28 : decode cX4_image 28 = .ok (.iconst 4, 1) := by decide +kernel
theorem dX4_image_29 : decode cX4_image 29 = .ok (.iload_n 1, 1) := by decide +kernel
theorem dX4_image_30 : decode cX4_image 30 = .ok (.imul, 1) := by decide +kernel
theorem dX4_image_31 : decode cX4_image 31 = .ok (.iconst 1, 1) := by decide +kernel
theorem dX4_image_32 : decode cX4_image 32 = .ok (.iadd, 1) := by decide +kernel
theorem dX4_image_33 : decode cX4_image 33 = .ok (.aload_n 0, 1) := by decide +kernel
theorem dX4_image_34 : decode cX4_image 34 = .ok (.getfield 13, 3) := by decide +kernel
theorem dX4_image_37 : decode cX4_image 37 = .ok (.iastore, 1) := by decide +kernel
theorem dX4_image_38 : decode cX4_image 38 = .ok (.aload_n 0, 1) := by decide +kernel
theorem dX4_image_39 : decode cX4_image 39 = .ok (.getfield 41, 3) := by decide +kernel
theorem dX4_image_42 : decode cX4_image 42 = .ok (.iconst 4, 1) := by decide +kernel
theorem dX4_image_43 : decode cX4_image 43 = .ok (.iload_n 1, 1) := by decide +kernel
theorem dX4_image_44 : decode cX4_image 44 = .ok (.imul, 1) := by decide +kernel
theorem dX4_image_45 : decode cX4_image 45 = .ok (.iconst 2, 1) := by decide +kernel
theorem dX4_image_46 : decode cX4_image 46 = .ok (.iadd, 1) := by decide +kernel
theorem dX4_image_47 : decode cX4_image 47 = .ok (.aload_n 0, 1) := by decide +kernel
theorem dX4_image_48 : decode cX4_image 48 = .ok (.getfield 16, 3) := by decide +kernel
theorem dX4_image_51 : decode cX4_image 51 = .ok (.iastore, 1) := by decide +kernel
theorem dX4_image_52 : decode cX4_image 52 = .ok (.aload_n 0, 1) := by decide +kernel
theorem dX4_image_53 : decode cX4_image 53 = .ok (.getfield 41, 3) := by decide +kernel
theorem dX4_image_56 : decode cX4_image 56 = .ok (.iconst 4, 1) := by decide +kernel
theorem dX4_image_57 : decode cX4_image 57 = .ok (.iload_n 1, 1) := by decide +kernel
theorem dX4_image_58 : decode cX4_image 58 = .ok (.imul, 1) := by decide +kernel
theorem dX4_image_59 : decode cX4_image 59 = .ok (.iconst 3, 1) := by decide +kernel
theorem dX4_image_60 : decode cX4_image 60 = .ok (.iadd, 1) := by decide +kernel
theorem dX4_image_61 : decode cX4_image 61 = .ok (.aload_n 0, 1) := by decide +kernel
theorem dX4_image_62 : decode cX4_image 62 = .ok (.getfield 19, 3) := by decide +kernel
theorem dX4_image_65 : decode cX4_image 65 = .ok (.iastore, 1) := by decide +kernel
theorem dX4_image_66 : decode cX4_image 66 = .ok (.aload_n 0, 1) := by decide +kernel
theorem dX4_image_67 : decode cX4_image 67 = .ok (.getfield 44, 3) := by decide +kernel
theorem dX4_image_70 : decode cX4_image 70 = .ok (.iload_n 1, 1) := by decide +kernel
theorem dX4_image_71 : decode cX4_image 71 = .ok (.iconst 1, 1) := by decide +kernel
theorem dX4_image_72 : decode cX4_image 72 = .ok (.bastore, 1) := by decide +kernel
theorem dX4_image_73 : decode cX4_image 73 = .ok (.iconst 1, 1) := by decide +kernel
theorem dX4_image_74 : decode cX4_image 74 = .ok (.ireturn, 1) := by decide +kernel
set_option maxRecDepth 20000 in
theorem ggX4_restore_X4_in : GoodIn wsX4_restore wsX4_in := goodIn_r _ [10] (by decide +kernel) (by decide +kernel)
set_option maxRecDepth 20000 in
theorem gX4_restore_X4_in : GoodIn wsX4_restore (va_wsS RX4 59 yX4_in wsX4_in) := goodIn_app (goodIn_of _ (by decide +kernel)) ggX4_restore_X4_in
theorem dX4_restore_0 : decode cX4_restore 0 = .ok (.iload_n 1, 1) := by decide +kernel
theorem dX4_restore_1 : decode cX4_restore 1 = .ok (.iconst 0, 1) := by decide +kernel
theorem dX4_restore_2 : decode cX4_restore 2 = .ok (.iconst 1, 1) := by decide +kernel
theorem dX4_restore_3 : decode cX4_restore 3 = .ok (.invokestatic 59, 3) := by decide +kernel
theorem dX4_restore_6 : decode cX4_restore 6 = .ok (.ifCond .ne 6, 3) := by decide +kernel
theorem dX4_restore_9 : decode cX4_restore 9 = .ok (.bipush (-2), 2) := by decide +kernel
theorem dX4_restore_11 : decode cX4_restore 11 = .ok (.ireturn, 1) := by decide +kernel
theorem dX4_restore_12 : decode cX4_restore 12 = .ok (.aload_n 0, 1) := by decide +kernel
theorem dX4_restore_13 : decode cX4_restore 13 = .ok (.getfield 44, 3) := by decide +kernel
theorem dX4_restore_16 : decode cX4_restore 16 = .ok (.iload_n 1, 1) := by decide +kernel
theorem dX4_restore_17 : decode cX4_restore 17 = .ok (.baload, 1) := by decide +kernel
theorem dX4_restore_18 : decode cX4_restore 18 = .ok (.ifCond .ne 6, 3) := by decide +kernel
theorem dX4_restore_21 : decode cX4_restore 21 = .ok (.bipush (-3), 2) := by decide +kernel
theorem dX4_restore_23 : decode cX4_restore 23 = .ok (.ireturn, 1) := by decide +kernel
theorem dX4_restore_24 : decode cX4_restore 24 = .ok (.aload_n 0, 1) := by decide +kernel
theorem dX4_restore_25 : decode cX4_restore 25 = .ok (.aload_n 0, 1) := by decide +kernel
theorem dX4_restore_26 : decode cX4_restore 26 = .ok (.getfield 41, 3) := by decide +kernel
theorem dX4_restore_29 : decode cX4_restore 29 = .ok (.iconst 4, 1) := by decide +kernel
theorem dX4_restore_30 : decode cX4_restore 30 = .ok (.iload_n 1, 1) := by decide +kernel
theorem dX4_restore_31 : decode cX4_restore 31 = .ok (.imul, 1) := by decide +kernel
theorem dX4_restore_32 : decode cX4_restore 32 = .ok (.iaload, 1) := by decide +kernel
theorem dX4_restore_33 : decode cX4_restore 33 = .ok (.putfield 7, 3) := by decide +kernel
theorem dX4_restore_36 : decode cX4_restore 36 = .ok (.aload_n 0, 1) := by decide +kernel
theorem dX4_restore_37 : decode cX4_restore 37 = .ok (.aload_n 0, 1) := by decide +kernel
theorem dX4_restore_38 : decode cX4_restore 38 = .ok (.getfield 41, 3) := by decide +kernel
theorem dX4_restore_41 : decode cX4_restore 41 = .ok (.iconst 4, 1) := by decide +kernel
theorem dX4_restore_42 : decode cX4_restore 42 = .ok (.iload_n 1, 1) := by decide +kernel
theorem dX4_restore_43 : decode cX4_restore 43 = .ok (.imul, 1) := by decide +kernel
theorem dX4_restore_44 : decode cX4_restore 44 = .ok (.iconst 1, 1) := by decide +kernel
theorem dX4_restore_45 : decode cX4_restore 45 = .ok (.iadd, 1) := by decide +kernel
theorem dX4_restore_46 : decode cX4_restore 46 = .ok (.iaload, 1) := by decide +kernel
theorem dX4_restore_47 : decode cX4_restore 47 = .ok (.putfield 13, 3) := by decide +kernel
theorem dX4_restore_50 : decode cX4_restore 50 = .ok (.aload_n 0, 1) := by decide +kernel
theorem dX4_restore_51 : decode cX4_restore 51 = .ok (.aload_n 0, 1) := by decide +kernel
theorem dX4_restore_52 : decode cX4_restore 52 = .ok (.getfield 41, 3) := by decide +kernel
theorem dX4_restore_55 : decode cX4_restore 55 = .ok (.iconst 4, 1) := by decide +kernel
theorem dX4_restore_56 : decode cX4_restore 56 = .ok (.iload_n 1, 1) := by decide +kernel
theorem dX4_restore_57 : decode cX4_restore 57 = .ok (.imul, 1) := by decide +kernel
theorem dX4_restore_58 : decode cX4_restore 58 = .ok (.iconst 2, 1) := by decide +kernel
theorem dX4_restore_59 : decode cX4_restore 59 = .ok (.iadd, 1) := by decide +kernel
theorem dX4_restore_60 : decode cX4_restore 60 = .ok (.iaload, 1) := by decide +kernel
theorem dX4_restore_61 : decode cX4_restore 61 = .ok (.putfield 16, 3) := by decide +kernel
theorem dX4_restore_64 : decode cX4_restore 64 = .ok (.aload_n 0, 1) := by decide +kernel
theorem dX4_restore_65 : decode cX4_restore 65 = .ok (.aload_n 0, 1) := by decide +kernel
theorem dX4_restore_66 : decode cX4_restore 66 = .ok (.getfield 41, 3) := by decide +kernel
theorem dX4_restore_69 : decode cX4_restore 69 = .ok (.iconst 4, 1) := by decide +kernel
theorem dX4_restore_70 : decode cX4_restore 70 = .ok (.iload_n 1, 1) := by decide +kernel
theorem dX4_restore_71 : decode cX4_restore 71 = .ok (.imul, 1) := by decide +kernel
theorem dX4_restore_72 : decode cX4_restore 72 = .ok (.iconst 3, 1) := by decide +kernel
theorem dX4_restore_73 : decode cX4_restore 73 = .ok (.iadd, 1) := by decide +kernel
theorem dX4_restore_74 : decode cX4_restore 74 = .ok (.iaload, 1) := by decide +kernel
theorem dX4_restore_75 : decode cX4_restore 75 = .ok (.putfield 19, 3) := by decide +kernel
theorem dX4_restore_78 : decode cX4_restore 78 = .ok (.iconst 1, 1) := by decide +kernel
theorem dX4_restore_79 : decode cX4_restore 79 = .ok (.ireturn, 1) := by decide +kernel
set_option maxRecDepth 20000 in
theorem ggX4_told_X4_copies : GoodIn wsX4_told wsX4_copies := goodIn_r _ [9, 1, 2, 10, 11, 8, 12, 21, 22, 23, 24, 25, 26, 27, 28, 29, 30, 31, 32, 33, 34, 35, 36] (by decide +kernel) (by decide +kernel)
set_option maxRecDepth 20000 in
theorem gX4_told_X4_copies : GoodIn wsX4_told (wsV RX4 52 RX4 yX4_copies wsX4_copies) := goodIn_app (goodIn_of _ (by decide +kernel)) ggX4_told_X4_copies
set_option maxRecDepth 20000 in
theorem ggX4_told_X4_star : GoodIn wsX4_told wsX4_star := goodIn_r _ [16, 1, 5, 6, 7, 8, 9, 2, 10, 11, 12, 21, 22, 23, 24, 25, 26, 27, 28, 29, 30, 31, 32, 33, 34, 35, 36] (by decide +kernel) (by decide +kernel)
set_option maxRecDepth 20000 in
theorem gX4_told_X4_star : GoodIn wsX4_told (wsV RX4 56 RX4 yX4_star wsX4_star) := goodIn_app (goodIn_of _ (by decide +kernel)) ggX4_told_X4_star
set_option maxRecDepth 20000 in
theorem ggX4_told_X4_isBalanced : GoodIn wsX4_told wsX4_isBalanced := goodIn_r _ [20, 3, 13, 14, 15, 8, 16, 1, 5, 6, 7, 9, 2, 10, 11, 12, 21, 22, 23, 24, 25, 26, 27, 28, 29, 30, 31, 32, 33, 34, 35, 36] (by decide +kernel) (by decide +kernel)
set_option maxRecDepth 20000 in
theorem gX4_told_X4_isBalanced : GoodIn wsX4_told (wsV RX4 80 RX4 yX4_isBalanced wsX4_isBalanced) := goodIn_app (goodIn_of _ (by decide +kernel)) ggX4_told_X4_isBalanced
theorem dX4_told_0 : decode cX4_told 0 = .ok (.iload_n 1, 1) := by decide +kernel
theorem dX4_told_1 : decode cX4_told 1 = .ok (.tableswitch 86 0 6 #[43, 48, 53, 58, 63, 68, 73], 43) := by decide +kernel
theorem dX4_told_44 : decode cX4_told 44 = .ok (.aload_n 0, 1) := by decide +kernel
theorem dX4_told_45 : decode cX4_told 45 = .ok (.getfield 7, 3) := by decide +kernel
theorem dX4_told_48 : decode cX4_told 48 = .ok (.ireturn, 1) := by decide +kernel
theorem dX4_told_49 : decode cX4_told 49 = .ok (.aload_n 0, 1) := by decide +kernel
theorem dX4_told_50 : decode cX4_told 50 = .ok (.getfield 13, 3) := by decide +kernel
theorem dX4_told_53 : decode cX4_told 53 = .ok (.ireturn, 1) := by decide +kernel
theorem dX4_told_54 : decode cX4_told 54 = .ok (.aload_n 0, 1) := by decide +kernel
theorem dX4_told_55 : decode cX4_told 55 = .ok (.getfield 16, 3) := by decide +kernel
theorem dX4_told_58 : decode cX4_told 58 = .ok (.ireturn, 1) := by decide +kernel
theorem dX4_told_59 : decode cX4_told 59 = .ok (.aload_n 0, 1) := by decide +kernel
theorem dX4_told_60 : decode cX4_told 60 = .ok (.getfield 19, 3) := by decide +kernel
theorem dX4_told_63 : decode cX4_told 63 = .ok (.ireturn, 1) := by decide +kernel
theorem dX4_told_64 : decode cX4_told 64 = .ok (.aload_n 0, 1) := by decide +kernel
theorem dX4_told_65 : decode cX4_told 65 = .ok (.invokevirtual 52, 3) := by decide +kernel
theorem dX4_told_68 : decode cX4_told 68 = .ok (.ireturn, 1) := by decide +kernel
theorem dX4_told_69 : decode cX4_told 69 = .ok (.aload_n 0, 1) := by decide +kernel
theorem dX4_told_70 : decode cX4_told 70 = .ok (.invokevirtual 56, 3) := by decide +kernel
theorem dX4_told_73 : decode cX4_told 73 = .ok (.ireturn, 1) := by decide +kernel
theorem dX4_told_74 : decode cX4_told 74 = .ok (.aload_n 0, 1) := by decide +kernel
theorem dX4_told_75 : decode cX4_told 75 = .ok (.invokevirtual 80, 3) := by decide +kernel
theorem dX4_told_78 : decode cX4_told 78 = .ok (.ifCond .eq 7, 3) := by decide +kernel
theorem dX4_told_81 : decode cX4_told 81 = .ok (.iconst 1, 1) := by decide +kernel
theorem dX4_told_82 : decode cX4_told 82 = .ok (.goto 4, 3) := by decide +kernel
theorem dX4_told_85 : decode cX4_told 85 = .ok (.iconst 0, 1) := by decide +kernel
theorem dX4_told_86 : decode cX4_told 86 = .ok (.ireturn, 1) := by decide +kernel
theorem dX4_told_87 : decode cX4_told 87 = .ok (.bipush (-2), 2) := by decide +kernel
theorem dX4_told_89 : decode cX4_told 89 = .ok (.ireturn, 1) := by decide +kernel
end
section
/-! ===== this claim's own small kit: one table world, contracts that only read, contracts that write their own cells ===== -/
abbrev cls5 : List vw_C := [(RX0, TX0, 6), (RX1, TX1, 6), (RX2, TX2, 3), (RX3, TX3, 6), (RX4, TX4, 16)]
abbrev tys2 (cI cZ : ClassId) : List (ClassId × FieldType) := [(cI, .int), (cZ, .boolean)]
/-- the private members of nest mates that are called: (who calls, entry, what) -/
def nst : List (String × Nat × MethodName) := [(RX0, 52, yX3_put), (RX0, 56, yX3_at), (RX0, 67, yX3_leftOver), (RX1, 22, yX3_commonDivisor), (RX1, 31, yX3_cut), (RX1, 41, yX3_leftOver), (RX2, 54, yX3_at), (RX2, 33, yX3_cut), (RX2, 29, yX3_leftOver), (RX2, 25, yX3_put), (RX3, 25, yX0_init), (RX3, 9, yX1_init), (RX3, 18, yX2_init)]
def NW (U : State) : Prop := ∀ q ∈ nst, va_Nw (.methodLinkNest q.1 q.2.1 q.2.2 "SlotStar") U
theorem NW.warm {s U : State} (hW : s.WarmedH U.vm) (h : NW s) : NW U := fun q hq => (h q hq).warmM hW
def TW (D : va_G) (cI cZ : ClassId) (U : State) : Prop := va_K D cls5 (tys2 cI cZ) U ∧ NW U
theorem TW.warm {D : va_G} {cI cZ : ClassId} {s U : State} (hW : s.WarmedH U.vm) (h : TW D cI cZ s) : TW D cI cZ U := ⟨va_K.moved hW.alike h.1, h.2.warm hW⟩
theorem TW.calling {D : va_G} {cI cZ : ClassId} {U : State} {g : JFrame} {mk : MethodId} {a : Array Value} (h : TW D cI cZ U) : TW D cI cZ (U.calling g mk a) := ⟨va_K.moved (u := U) (U := U.calling g mk a) (Vm.Alike.refl U.vm) h.1, fun q hq => va_Nw.same (u := U) (U := U.calling g mk a) rfl rfl (h.2 q hq)⟩
def PcW (D : va_G) (cI cZ : ClassId) (ws : va_W) (As : List Value) : Array Value → State → Prop := fun a U => a = As.toArray ∧ TW D cI cZ U ∧ va_P D cls5 ws U.heap
def PcX (D : va_G) (cI cZ : ClassId) (ws : va_W) (As : List Value) : Array Value → State → Prop := fun a U => a = As.toArray ∧ TW D cI cZ U ∧ va_P D cls5 ws U.heap ∧ va_D (fun _ => True) ws
def va_M (ws : va_W) : Nat → Prop := fun q => ∃ (k : Nat) (e : va_E), ws[k]? = some (q, e)
def QcM (D : va_G) (ws ws' : va_W) (v : Option Value) : Array Value → State → Outcome → State → Prop := fun _ st o t => o = .returned v ∧ va_P D cls5 ws' t.heap ∧ va_F (va_M ws) st t
/-- a contract that only reads -/
def RO (l : Launch) (y : MethodName) (wy : List Cond) (rm : Room) (D : va_G) (cI cZ : ClassId) (ws : va_W) (As : List Value) (r : Int32) : Prop := Met l y wy rm (PcW D cI cZ ws As) (QcRead r) 0 0 (fun _ => False)
/-- a contract that writes the cells ws, and leaves ws' there -/
def MU (l : Launch) (y : MethodName) (wy : List Cond) (rm : Room) (D : va_G) (cI cZ : ClassId) (ws : va_W) (As : List Value) (v : Option Value) (ws' : va_W) : Prop := Met l y wy rm (PcX D cI cZ ws As) (QcM D ws ws' v) 0 0 (va_M ws)
theorem PcW.blind {D : va_G} {cI cZ : ClassId} {ws : va_W} {As : List Value} : FrameBlind (PcW D cI cZ ws As) := fun _ _ _ _ h => ⟨h.1, h.2.1.calling, h.2.2⟩
theorem PcX.blind {D : va_G} {cI cZ : ClassId} {ws : va_W} {As : List Value} : FrameBlind (PcX D cI cZ ws As) := fun _ _ _ _ h => ⟨h.1, h.2.1.calling, h.2.2.1, h.2.2.2⟩
theorem ro_start {l : Launch} {y : MethodName} {wy wy' : List Cond} {rm : Room} {D : va_G} {cI cZ : ClassId} {ws : va_W} {As : List Value} {r : Int32} {cc : ByteArray} {maxL : Nat} {ret : Option FieldType}
    (hy : plainName y.cls = true) (hw : wy = Cond.code y cc maxL ret :: wy') (hA : (lg_sl As).length ≤ maxL)
    (body : ∀ (p : Program) (e : Env) (s : State) (m : MethodId) (args : Array Value) (below : List Frame) (meth : Method) (c : Code), p.tables.exec = Jvm.exec → c.code = cc → meth.sig.returnType = ret → c.maxLocals = maxL → meth.locks = false → (∀ w ∈ wy, w.before args s = true) → s.vm.findClass y.cls = some m.cls → TW D cI cZ s → va_P D cls5 ws s.heap → ∀ ls : Array Slot, lv_has ls maxL (lv_args 0 As) →
      W p l e (headSpec wy rm).room s m args below meth c s.heap [] 0 0 (MQ below (QcRead r) args s 0 0 (fun _ => False)) (F0 m 0 ls [])) : RO l y wy rm D cI cZ ws As r := by
  refine Met.ofW (cc := cc) (maxL := maxL) (ret := ret) hy hw ?_
  intro p e s m args below meth c s₁ B hml hv
  obtain ⟨rfl, hT, hP⟩ := hv
  have hl := lv_entry As (n := maxL) hA
  rw [lg_entry_eq]
  exact body p e s m _ below meth c B.exec B.bytes B.returns hml B.notSynchronized (atoms_spec (ws := wy) B.pre) (findClass_of_methodNamed B.named) hT hP _ hl
theorem va_D.ofM {ws : va_W} {A : Nat → Prop} (h : va_D A ws) : va_D (va_M ws) ws := ⟨h.1, fun k q hk => ⟨k, q.2, hk⟩⟩
theorem mu_start {l : Launch} {y : MethodName} {wy wy' : List Cond} {rm : Room} {D : va_G} {cI cZ : ClassId} {ws ws' : va_W} {As : List Value} {v : Option Value} {cc : ByteArray} {maxL : Nat} {ret : Option FieldType}
    (hy : plainName y.cls = true) (hw : wy = Cond.code y cc maxL ret :: wy') (hA : (lg_sl As).length ≤ maxL)
    (body : ∀ (p : Program) (e : Env) (s : State) (m : MethodId) (args : Array Value) (below : List Frame) (meth : Method) (c : Code), p.tables.exec = Jvm.exec → c.code = cc → meth.sig.returnType = ret → c.maxLocals = maxL → meth.locks = false → (∀ w ∈ wy, w.before args s = true) → s.vm.findClass y.cls = some m.cls → TW D cI cZ s → va_P D cls5 ws s.heap → va_D (va_M ws) ws → va_S (va_M ws) s.heap s.heap [] → ∀ ls : Array Slot, lv_has ls maxL (lv_args 0 As) →
      W p l e (headSpec wy rm).room s m args below meth c s.heap [] 0 0 (MQ below (QcM D ws ws' v) args s 0 0 (va_M ws)) (F0 m 0 ls [])) : MU l y wy rm D cI cZ ws As v ws' := by
  refine Met.ofW (cc := cc) (maxL := maxL) (ret := ret) hy hw ?_
  intro p e s m args below meth c s₁ B hml hv
  obtain ⟨rfl, hT, hP, hD⟩ := hv
  have hl := lv_entry As (n := maxL) hA
  rw [lg_entry_eq]
  exact body p e s m _ below meth c B.exec B.bytes B.returns hml B.notSynchronized (atoms_spec (ws := wy) B.pre) (findClass_of_methodNamed B.named) hT hP hD.ofM va_S.rf _ hl
theorem nar_b {v : Int32} (h : v = 0 ∨ v = 1) : narrow .boolean (.int v) = .int v := by rcases h with rfl | rfl <;> rfl
def putAll : va_W → List Nat → va_W → va_W
  | W, i :: is, x :: xs => putAll (W.set i x) is xs
  | W, _, _ => W
theorem putAll_get : ∀ (is : List Nat) (xs W : va_W) (k : Nat) (q : Nat × va_E), is.length = xs.length → (putAll W is xs)[k]? = some q → (∃ j : Nat, is[j]? = some k ∧ xs[j]? = some q) ∨ (k ∉ is ∧ W[k]? = some q)
  | [], xs, W, k, q, hl, h => by
    cases xs with
    | nil => exact Or.inr ⟨by simp, h⟩
    | cons a b => simp at hl
  | i :: is, [], W, k, q, hl, h => by simp at hl
  | i :: is, x :: xs, W, k, q, hl, h => by
    have hl' : is.length = xs.length := by simpa using hl
    rcases putAll_get is xs (W.set i x) k q hl' h with ⟨j, h1, h2⟩ | ⟨h1, h2⟩
    · exact Or.inl ⟨j + 1, by simpa using h1, by simpa using h2⟩
    · by_cases hk : k = i
      · subst hk
        have hlt : k < (W.set k x).length := (List.getElem?_eq_some_iff.mp h2).1
        rw [List.length_set] at hlt
        rw [List.getElem?_set_self hlt] at h2
        exact Or.inl ⟨0, by simp, by simpa using h2⟩
      · rw [List.getElem?_set_ne (Ne.symm hk)] at h2
        exact Or.inr ⟨by simp [hk, h1], h2⟩
section CK
variable {p : Program} {l : Launch} {e : Env} {R : Room} {s : State} {m : MethodId} {args : Array Value} {below : List Frame} {meth : Method} {c : Code} {H : Heap} {locs : List Loc} {cells slots : Nat} {Q : State → Prop}
variable {D : va_G} {cI cZ : ClassId} {W0 W1 wc wc' : va_W} {cc bytes : ByteArray} {nL maxL n index pc : Nat} {own C : String} {y : MethodName} {ret : Option FieldType} {rm : Room} {Ts wy wy' : List Cond} {As rest st0 st1 : List Value} {a : Array Value} {ls : Array Slot} {r : Int32} {b ci q0 : Nat} {v : Option Value} {A : Nat → Prop} {fs : List Value} {qc : vw_C}
/-- what a caller stands on -/
abbrev okName (y : MethodName) (n : Nat) : Prop := y.cls ≠ "java/lang/invoke/MethodHandle" ∧ y.cls ≠ "java/lang/invoke/VarHandle" ∧ (parseMethodDescriptor y.desc).map (fun d => d.parameters.length) = some n
theorem ro_S (S : CallFix p m c cc nL s args Ts own) (hT : TW D cI cZ s) (hP : va_P D cls5 W0 H) (hM : RO l y wy rm D cI cZ wc As r) (hG : GoodIn Ts (va_wsS own index y wy)) (hw : wy = Cond.code y bytes maxL ret :: wy') (hd : okName y n) (is : List Nat) (hs : is.filterMap (fun i => W0[i]?) = wc) (hsz : ls.size = nL) (hst : st0 = As.reverse ++ rest) (hn : As.length = n) (hrs : (rest.map fun v => v.category).sum ≤ 8)
    (hR : rm.frames + 1 ≤ R.frames ∧ 8 + (maxL + 11) + rm.locals ≤ R.locals) (hz : rm.cells = 0 ∧ rm.slots = 0) (hc : cells ≤ R.cells ∧ slots ≤ R.slots) (hdg : decode cc pc = .ok (.invokestatic index, 3))
    (kk : W p l e R s m args below meth c H locs cells slots Q (F0 m (pc + 3) ls (.int r :: rest))) : W p l e R s m args below meth c H locs cells slots Q (F0 m pc ls st0) :=
  W.callR (W.runS (g := F0 m pc ls st0) S hM (va_cwS n S.2.2.2.2 hG hw hz.1 hz.2 hd hR) ⟨PcW.blind, fun U hU hW => ⟨rfl, hT.warm hW, by rw [hU]; exact hP.sub is hs⟩⟩ rfl hn hsz hst (lv_room hrs) hdg hc) kk
theorem ro_N (S : CallFix p m c cc nL s args Ts own) (hT : TW D cI cZ s) (hP : va_P D cls5 W0 H) (hM : RO l y wy rm D cI cZ wc As r) (hq : (own, index, y) ∈ nst) (hG : GoodIn Ts wy) (hi : (Cond.initialized y.cls).before args s = true) (hst' : (Cond.static y).before args s = true) (hw : wy = Cond.code y bytes maxL ret :: wy') (hd : okName y n) (is : List Nat) (hs : is.filterMap (fun i => W0[i]?) = wc) (hsz : ls.size = nL) (hst : st0 = As.reverse ++ rest) (hn : As.length = n) (hrs : (rest.map fun v => v.category).sum ≤ 8)
    (hR : rm.frames + 1 ≤ R.frames ∧ 8 + (maxL + 11) + rm.locals ≤ R.locals) (hz : rm.cells = 0 ∧ rm.slots = 0) (hc : cells ≤ R.cells ∧ slots ≤ R.slots) (hdg : decode cc pc = .ok (.invokestatic index, 3))
    (kk : W p l e R s m args below meth c H locs cells slots Q (F0 m (pc + 3) ls (.int r :: rest))) : W p l e R s m args below meth c H locs cells slots Q (F0 m pc ls st0) := by
  have hr := va_runSN (H := H) (locs := locs) (cells := cells) (slots := slots) (g := F0 m pc ls st0) (e := e) (R := R) (below := below) (meth := meth) (rest := rest) (host := "SlotStar") S hM ⟨va_cnB n S.2.2.2.2 hG hw hz.1 hz.2 (hT.2 _ hq) hi hd hR, hst', trivial⟩ ⟨PcW.blind, fun U hU hW => ⟨rfl, hT.warm hW, by rw [hU]; exact hP.sub is hs⟩⟩ rfl hn hsz hst (lv_room hrs) hdg hc
  intro T hT' X
  obtain ⟨v, st₀, t, T', L, h0, X', hL, e1, e2, ⟨hv, hh⟩, st⟩ := hr T hT' X
  cases hv
  obtain ⟨t2, a1, b1⟩ := kk T' (by rw [e1, hh, h0]) (Stand.forget X' (fun q h => (hL q h).elim))
  exact ⟨t2, st t2 a1, b1⟩
theorem ro_V (S : CallFix p m c cc nL s args Ts own) (hT : TW D cI cZ s) (hP : va_P D cls5 W0 H) (hM : RO l y wy rm D cI cZ wc (.ref b :: As) r) (hG : GoodIn Ts (wsV own index C y wy)) (hw : wy = Cond.code y bytes maxL ret :: wy') (hC : y.cls = C) (hd : okName y n) (is : List Nat) (hs : is.filterMap (fun i => W0[i]?) = wc) (hci : cls5[ci]? = some qc) (hcn : qc.1 = C) (hq0 : W0[q0]? = some (b, .inr (ci, fs))) (hsz : ls.size = nL) (hst : st0 = As.reverse ++ .ref b :: rest) (hn : As.length = n) (hrs : (rest.map fun v => v.category).sum ≤ 8)
    (hR : rm.frames + 1 ≤ R.frames ∧ 8 + (maxL + 11) + rm.locals ≤ R.locals) (hz : rm.cells = 0 ∧ rm.slots = 0) (hc : cells ≤ R.cells ∧ slots ≤ R.slots) (hdg : decode cc pc = .ok (.invokevirtual index, 3))
    (kk : W p l e R s m args below meth c H locs cells slots Q (F0 m (pc + 3) ls (.int r :: rest))) : W p l e R s m args below meth c H locs cells slots Q (F0 m pc ls st0) :=
  W.callR (W.runV (g := F0 m pc ls st0) (C := C) S hM (cwV n S.2.2.2.2 hG hw hz.1 hz.2 ⟨hC, hd⟩ hR) ⟨PcW.blind, by rw [← hcn]; exact va_recv hT.1 hP hci hq0, fun U hU hW => ⟨rfl, hT.warm hW, by rw [hU]; exact hP.sub is hs⟩⟩ rfl hn hsz hst (lv_room hrs) hdg hc) kk
/-- behind a call that writes: the caller's world with the callee's cells in their places -/
theorem mu_go (hr : va_Run p l e R s m args below meth c H locs cells slots 0 0 (F0 m pc ls st0) rest (QcM D wc wc' v a) (va_M wc)) (hP : va_P D cls5 W0 H) (hD : va_D A W0) (hS : va_S A s.heap H locs) (is : List Nat) (hs : is.map (fun i => W0[i]?) = wc.map some) (hf : wc'.map (fun q => q.1) = wc.map (fun q => q.1)) (hW : putAll W0 is wc' = W1) (hs1 : v.toList ++ rest = st1)
    (kk : ∀ (H1 : Heap) (locs1 : List Loc), va_P D cls5 W1 H1 → va_D A W1 → va_S A s.heap H1 locs1 → W p l e R s m args below meth c H1 locs1 cells slots Q (F0 m (pc + 3) ls st1)) : W p l e R s m args below meth c H locs cells slots Q (F0 m pc ls st0) := by
  subst hW
  subst hs1
  have hlen : is.length = wc'.length := by
    have h1 := congrArg List.length hs
    have h2 := congrArg List.length hf
    simp only [List.length_map] at h1 h2
    omega
  have at1 : ∀ (j : Nat) (q : Nat × va_E), wc[j]? = some q → ∃ i, is[j]? = some i ∧ W0[i]? = some q := by
    intro j q hq
    have h1 : (is.map (fun i => W0[i]?))[j]? = some (some q) := by rw [hs, List.getElem?_map, hq]; rfl
    rw [List.getElem?_map] at h1
    cases hi : is[j]? with
    | none => rw [hi] at h1; cases h1
    | some i => rw [hi] at h1; exact ⟨i, rfl, Option.some.inj h1⟩
  have at2 : ∀ (j : Nat) (q : Nat × va_E), wc'[j]? = some q → ∃ q1 i, wc[j]? = some q1 ∧ q1.1 = q.1 ∧ is[j]? = some i ∧ W0[i]? = some q1 := by
    intro j q hq
    have h1 : (wc'.map (fun q => q.1))[j]? = some q.1 := by rw [List.getElem?_map, hq]; rfl
    rw [hf, List.getElem?_map] at h1
    cases hi : wc[j]? with
    | none => rw [hi] at h1; cases h1
    | some q1 =>
      rw [hi] at h1
      obtain ⟨i, a1, a2⟩ := at1 j q1 hi
      exact ⟨q1, i, rfl, Option.some.inj h1, a1, a2⟩
  have key : ∀ (k : Nat) (q : Nat × va_E), (putAll W0 is wc')[k]? = some q → ∃ q1, W0[k]? = some q1 ∧ q1.1 = q.1 := by
    intro k q hk
    rcases putAll_get is wc' W0 k q hlen hk with ⟨j, h1, h2⟩ | ⟨-, h2⟩
    · obtain ⟨q1, i, a1, a2, a3, a4⟩ := at2 j q h2
      rw [h1] at a3
      cases a3
      exact ⟨q1, a4, a2⟩
    · exact ⟨q, h2, rfl⟩
  have hD1 : va_D A (putAll W0 is wc') := by
    refine ⟨fun i j x z hi hj hxy => ?_, fun k q hk => ?_⟩
    · obtain ⟨x1, a1, a2⟩ := key i x hi
      obtain ⟨z1, b1, b2⟩ := key j z hj
      exact hD.1 i j x1 z1 a1 b1 (a2.trans (hxy.trans b2.symm))
    · obtain ⟨q1, a1, a2⟩ := key k q hk
      rw [← a2]
      exact hD.2 k q1 a1
  have hA : ∀ q, va_M wc q → A q := by
    rintro q ⟨k, x, hk⟩
    obtain ⟨i, -, a2⟩ := at1 k (q, x) hk
    exact hD.2 i (q, x) a2
  intro T hT X
  obtain ⟨v', st₀, t, T', L, h0, X', hL, e1, e2, ⟨hv, hp, hz, hk⟩, st⟩ := hr T hT X
  cases hv
  rw [h0] at hz hk
  have hP1 : va_P D cls5 (putAll W0 is wc') t.heap := by
    intro k q hk'
    rcases putAll_get is wc' W0 k q hlen hk' with ⟨j, h1, h2⟩ | ⟨h1, h2⟩
    · exact hp j q h2
    · refine (hP k q h2).kept (hk q.1 (hP k q h2).lt ?_)
      rintro ⟨j, x, hj⟩
      obtain ⟨i, a1, a2⟩ := at1 j (q.1, x) hj
      have := hD.1 k i q (q.1, x) h2 a2 rfl
      subst this
      exact h1 (List.mem_of_getElem? a1)
  obtain ⟨t2, a1, b1⟩ := kk t.heap (locs ++ L) hP1 hD1 ⟨Nat.le_trans hS.1 hz, fun q h1 h2 => by rw [hk q (Nat.lt_of_lt_of_le h1 hS.1) (fun z => h2 (hA q z))]; exact hS.2.1 q h1 h2, fun q hq => by
      rcases List.mem_append.mp hq with h | h
      · exact hS.2.2 q h
      · exact hA _ (hL q h)⟩ T' e1 X'
  exact ⟨t2, st t2 a1, b1⟩
theorem subD (hD : va_D A W0) (is : List Nat) (hn : va_nd is = true) (hs : is.map (fun i => W0[i]?) = wc.map some) : va_D (fun _ => True) wc := (hD.sub is hn hs).weaken (fun _ _ _ _ => trivial)
theorem subP (hP : va_P D cls5 W0 H) (is : List Nat) (hs : is.map (fun i => W0[i]?) = wc.map some) : va_P D cls5 wc H := by
  intro k q hk
  have h1 : (is.map (fun i => W0[i]?))[k]? = some (some q) := by rw [hs, List.getElem?_map, hk]; rfl
  rw [List.getElem?_map] at h1
  cases hi : is[k]? with
  | none => rw [hi] at h1; cases h1
  | some i => rw [hi] at h1; exact hP i q (Option.some.inj h1)
theorem mu_S (S : CallFix p m c cc nL s args Ts own) (hT : TW D cI cZ s) (hP : va_P D cls5 W0 H) (hD : va_D A W0) (hS : va_S A s.heap H locs) (hM : MU l y wy rm D cI cZ wc As v wc') (hG : GoodIn Ts (va_wsS own index y wy)) (hw : wy = Cond.code y bytes maxL ret :: wy') (hd : okName y n) (is : List Nat) (hnd : va_nd is = true) (hs : is.map (fun i => W0[i]?) = wc.map some) (hf : wc'.map (fun q => q.1) = wc.map (fun q => q.1)) (hW : putAll W0 is wc' = W1) (hs1 : v.toList ++ rest = st1) (hsz : ls.size = nL) (hst : st0 = As.reverse ++ rest) (hn : As.length = n) (hrs : (rest.map fun v => v.category).sum ≤ 8)
    (hR : rm.frames + 1 ≤ R.frames ∧ 8 + (maxL + 11) + rm.locals ≤ R.locals) (hz : rm.cells = 0 ∧ rm.slots = 0) (hc : cells ≤ R.cells ∧ slots ≤ R.slots) (hdg : decode cc pc = .ok (.invokestatic index, 3))
    (kk : ∀ (H1 : Heap) (locs1 : List Loc), va_P D cls5 W1 H1 → va_D A W1 → va_S A s.heap H1 locs1 → W p l e R s m args below meth c H1 locs1 cells slots Q (F0 m (pc + 3) ls st1)) : W p l e R s m args below meth c H locs cells slots Q (F0 m pc ls st0) :=
  mu_go (va_runS (g := F0 m pc ls st0) S hM (va_cwS n S.2.2.2.2 hG hw hz.1 hz.2 hd hR) ⟨PcX.blind, fun U hU hW => ⟨rfl, hT.warm hW, by rw [hU]; exact subP hP is hs, subD hD is hnd hs⟩⟩ rfl hn hsz hst (lv_room hrs) hdg hc) hP hD hS is hs hf hW hs1 kk
theorem mu_N (S : CallFix p m c cc nL s args Ts own) (hT : TW D cI cZ s) (hP : va_P D cls5 W0 H) (hD : va_D A W0) (hS : va_S A s.heap H locs) (hM : MU l y wy rm D cI cZ wc As v wc') (hq : (own, index, y) ∈ nst) (hG : GoodIn Ts wy) (hi : (Cond.initialized y.cls).before args s = true) (hst' : (Cond.static y).before args s = true) (hw : wy = Cond.code y bytes maxL ret :: wy') (hd : okName y n) (is : List Nat) (hnd : va_nd is = true) (hs : is.map (fun i => W0[i]?) = wc.map some) (hf : wc'.map (fun q => q.1) = wc.map (fun q => q.1)) (hW : putAll W0 is wc' = W1) (hs1 : v.toList ++ rest = st1) (hsz : ls.size = nL) (hst : st0 = As.reverse ++ rest) (hn : As.length = n) (hrs : (rest.map fun v => v.category).sum ≤ 8)
    (hR : rm.frames + 1 ≤ R.frames ∧ 8 + (maxL + 11) + rm.locals ≤ R.locals) (hz : rm.cells = 0 ∧ rm.slots = 0) (hc : cells ≤ R.cells ∧ slots ≤ R.slots) (hdg : decode cc pc = .ok (.invokestatic index, 3))
    (kk : ∀ (H1 : Heap) (locs1 : List Loc), va_P D cls5 W1 H1 → va_D A W1 → va_S A s.heap H1 locs1 → W p l e R s m args below meth c H1 locs1 cells slots Q (F0 m (pc + 3) ls st1)) : W p l e R s m args below meth c H locs cells slots Q (F0 m pc ls st0) :=
  mu_go (va_runSN (g := F0 m pc ls st0) (host := "SlotStar") S hM ⟨va_cnB n S.2.2.2.2 hG hw hz.1 hz.2 (hT.2 _ hq) hi hd hR, hst', trivial⟩ ⟨PcX.blind, fun U hU hW => ⟨rfl, hT.warm hW, by rw [hU]; exact subP hP is hs, subD hD is hnd hs⟩⟩ rfl hn hsz hst (lv_room hrs) hdg hc) hP hD hS is hs hf hW hs1 kk
theorem mu_V (S : CallFix p m c cc nL s args Ts own) (hT : TW D cI cZ s) (hP : va_P D cls5 W0 H) (hD : va_D A W0) (hS : va_S A s.heap H locs) (hM : MU l y wy rm D cI cZ wc (.ref b :: As) v wc') (hG : GoodIn Ts (wsV own index C y wy)) (hw : wy = Cond.code y bytes maxL ret :: wy') (hC : y.cls = C) (hd : okName y n) (is : List Nat) (hnd : va_nd is = true) (hs : is.map (fun i => W0[i]?) = wc.map some) (hf : wc'.map (fun q => q.1) = wc.map (fun q => q.1)) (hW : putAll W0 is wc' = W1) (hs1 : v.toList ++ rest = st1) (hci : cls5[ci]? = some qc) (hcn : qc.1 = C) (hq0 : W0[q0]? = some (b, .inr (ci, fs))) (hsz : ls.size = nL) (hst : st0 = As.reverse ++ .ref b :: rest) (hn : As.length = n) (hrs : (rest.map fun v => v.category).sum ≤ 8)
    (hR : rm.frames + 1 ≤ R.frames ∧ 8 + (maxL + 11) + rm.locals ≤ R.locals) (hz : rm.cells = 0 ∧ rm.slots = 0) (hc : cells ≤ R.cells ∧ slots ≤ R.slots) (hdg : decode cc pc = .ok (.invokevirtual index, 3))
    (kk : ∀ (H1 : Heap) (locs1 : List Loc), va_P D cls5 W1 H1 → va_D A W1 → va_S A s.heap H1 locs1 → W p l e R s m args below meth c H1 locs1 cells slots Q (F0 m (pc + 3) ls st1)) : W p l e R s m args below meth c H locs cells slots Q (F0 m pc ls st0) :=
  mu_go (va_runV (g := F0 m pc ls st0) (C := C) S hM (cwV n S.2.2.2.2 hG hw hz.1 hz.2 ⟨hC, hd⟩ hR) ⟨PcX.blind, by rw [← hcn]; exact va_recv hT.1 hP hci hq0, fun U hU hW => ⟨rfl, hT.warm hW, by rw [hU]; exact subP hP is hs, subD hD is hnd hs⟩⟩ rfl hn hsz hst (lv_room hrs) hdg hc) hP hD hS is hs hf hW hs1 kk
theorem ro_ret {v : Int32} (hx : p.tables.exec = Jvm.exec) (hb : c.code = cc) (hr : meth.sig.returnType = some .int) (hlocks : meth.locks = false) (hdg : decode cc pc = .ok (.ireturn, 1)) (hv : v = r) : W p l e R s m args below meth c s.heap [] 0 0 (MQ below (QcRead r) args s 0 0 (fun _ => False)) (F0 m pc ls [.int v]) := by
  subst hv
  exact W.iret hx hb hr (fun t ht hW => ⟨rfl, ht⟩) (fun _ h => by cases h) hdg
theorem ro_retz {v : Int32} (hx : p.tables.exec = Jvm.exec) (hb : c.code = cc) (hr : meth.sig.returnType = some .boolean) (hlocks : meth.locks = false) (hdg : decode cc pc = .ok (.ireturn, 1)) (hv : v = r) (hn : r = 0 ∨ r = 1) : W p l e R s m args below meth c s.heap [] 0 0 (MQ below (QcRead r) args s 0 0 (fun _ => False)) (F0 m pc ls [.int v]) := by
  subst hv
  exact W.zret hx hb hr (nar_b hn) (fun t ht hW => ⟨rfl, ht⟩) (fun _ h => by cases h) hdg
theorem mu_ret {v : Int32} {ws ws' : va_W} (hx : p.tables.exec = Jvm.exec) (hb : c.code = cc) (hr : meth.sig.returnType = some .int) (hlocks : meth.locks = false) (hdg : decode cc pc = .ok (.ireturn, 1)) (hP : va_P D cls5 ws' H) (hS : va_S (va_M ws) s.heap H locs) (hv : v = r) : W p l e R s m args below meth c H locs 0 0 (MQ below (QcM D ws ws' (some (.int r))) args s 0 0 (va_M ws)) (F0 m pc ls [.int v]) := by
  subst hv
  exact W.iret hx hb hr (fun t ht hW => ⟨rfl, by rw [ht]; exact hP, hS.F ht⟩) hS.2.2 hdg
theorem mu_retz {v : Int32} {ws ws' : va_W} (hx : p.tables.exec = Jvm.exec) (hb : c.code = cc) (hr : meth.sig.returnType = some .boolean) (hlocks : meth.locks = false) (hdg : decode cc pc = .ok (.ireturn, 1)) (hP : va_P D cls5 ws' H) (hS : va_S (va_M ws) s.heap H locs) (hv : v = r) (hn : r = 0 ∨ r = 1) : W p l e R s m args below meth c H locs 0 0 (MQ below (QcM D ws ws' (some (.int r))) args s 0 0 (va_M ws)) (F0 m pc ls [.int v]) := by
  subst hv
  exact W.zret hx hb hr (nar_b hn) (fun t ht hW => ⟨rfl, by rw [ht]; exact hP, hS.F ht⟩) hS.2.2 hdg
theorem mu_retv {ws ws' : va_W} (hx : p.tables.exec = Jvm.exec) (hb : c.code = cc) (hr : meth.sig.returnType = none) (hlocks : meth.locks = false) (hdg : decode cc pc = .ok (.return_, 1)) (hP : va_P D cls5 ws' H) (hS : va_S (va_M ws) s.heap H locs) : W p l e R s m args below meth c H locs 0 0 (MQ below (QcM D ws ws' none) args s 0 0 (va_M ws)) (F0 m pc ls []) :=
  W.vret hx hb hr (fun t ht hW => ⟨rfl, by rw [ht]; exact hP, hS.F ht⟩) hS.2.2 hdg
theorem top_eq {x z : Int32} (h : x = z) (k : W p l e R s m args below meth c H locs cells slots Q (F0 m pc ls (.int z :: rest))) : W p l e R s m args below meth c H locs cells slots Q (F0 m pc ls (.int x :: rest)) := by subst h; exact k
theorem ld_i (hx : p.tables.exec = Jvm.exec) (hb : c.code = cc) (hT : TW D cI cZ s) (hP : va_P D cls5 W0 H) (q0 : Nat) {z k : Nat} {f : Nat → Int32} (ha : W0[q0]? = some (b, .inl (cI, z, .inl f))) (hdg : decode cc pc = .ok (.iaload, 1)) {i : Int32} (hi : i = nI k) (hk : k < z) (hz : z < 2 ^ 31)
    (kk : W p l e R s m args below meth c H locs cells slots Q (F0 m (pc + 1) ls (.int (f k) :: rest))) : W p l e R s m args below meth c H locs cells slots Q (F0 m pc ls (.int i :: .ref b :: rest)) := by
  subst hi
  refine va_iald hx hb hT.1 hP q0 0 ha rfl (vp_in_nI hk hz) hdg ?_
  rw [nI_clamp (Nat.lt_trans hk hz)]
  exact kk
theorem st_i (hx : p.tables.exec = Jvm.exec) (hb : c.code = cc) (hT : TW D cI cZ s) (hP : va_P D cls5 W0 H) (hD : va_D A W0) (hS : va_S A s.heap H locs) (q0 : Nat) {z k : Nat} {f : Nat → Int32} (ha : W0[q0]? = some (b, .inl (cI, z, .inl f))) (hdg : decode cc pc = .ok (.iastore, 1)) {i x : Int32} (hi : i = nI k) (hk : k < z) (hz : z < 2 ^ 31) (hW : W0.set q0 (b, .inl (cI, z, .inl (upd f k x))) = W1)
    (kk : ∀ (H1 : Heap) (locs1 : List Loc), va_P D cls5 W1 H1 → va_D A W1 → va_S A s.heap H1 locs1 → W p l e R s m args below meth c H1 locs1 cells slots Q (F0 m (pc + 1) ls rest)) : W p l e R s m args below meth c H locs cells slots Q (F0 m pc ls (.int x :: .int i :: .ref b :: rest)) := by
  subst hi
  subst hW
  refine va_iast hx hb hT.1 hP hD hS q0 0 ha rfl (vp_in_nI hk hz) hdg ?_
  rw [nI_clamp (Nat.lt_trans hk hz)]
  exact kk
theorem ld_z (hx : p.tables.exec = Jvm.exec) (hb : c.code = cc) (hT : TW D cI cZ s) (hP : va_P D cls5 W0 H) (q0 : Nat) {z k : Nat} {f : Nat → Int32} (ha : W0[q0]? = some (b, .inl (cZ, z, .inl f))) (hdg : decode cc pc = .ok (.baload, 1)) {i : Int32} (hi : i = nI k) (hk : k < z) (hz : z < 2 ^ 31)
    (kk : W p l e R s m args below meth c H locs cells slots Q (F0 m (pc + 1) ls (.int (f k) :: rest))) : W p l e R s m args below meth c H locs cells slots Q (F0 m pc ls (.int i :: .ref b :: rest)) := by
  subst hi
  refine va_zald hx hb hT.1 hP q0 1 ha rfl (vp_in_nI hk hz) hdg ?_
  rw [nI_clamp (Nat.lt_trans hk hz)]
  exact kk
theorem st_z (hx : p.tables.exec = Jvm.exec) (hb : c.code = cc) (hT : TW D cI cZ s) (hP : va_P D cls5 W0 H) (hD : va_D A W0) (hS : va_S A s.heap H locs) (q0 : Nat) {z k : Nat} {f : Nat → Int32} (ha : W0[q0]? = some (b, .inl (cZ, z, .inl f))) (hdg : decode cc pc = .ok (.bastore, 1)) {i x : Int32} (hi : i = nI k) (hk : k < z) (hz : z < 2 ^ 31) (hW : W0.set q0 (b, .inl (cZ, z, .inl (upd f k (vp_nar .boolean x)))) = W1)
    (kk : ∀ (H1 : Heap) (locs1 : List Loc), va_P D cls5 W1 H1 → va_D A W1 → va_S A s.heap H1 locs1 → W p l e R s m args below meth c H1 locs1 cells slots Q (F0 m (pc + 1) ls rest)) : W p l e R s m args below meth c H locs cells slots Q (F0 m pc ls (.int x :: .int i :: .ref b :: rest)) := by
  subst hi
  subst hW
  refine va_zast hx hb hT.1 hP hD hS q0 1 ha rfl (vp_in_nI hk hz) hdg ?_
  rw [nI_clamp (Nat.lt_trans hk hz)]
  exact kk
end CK
end
section
/-! ===== plain numbers: what the leaves answer ===== -/
def jIn (n lo hi : Int32) : Int32 := if n < lo then 0 else if hi < n then 0 else 1
theorem jIn01 (n lo hi : Int32) : jIn n lo hi = 0 ∨ jIn n lo hi = 1 := by
  unfold jIn
  split
  · exact Or.inl rfl
  · split
    · exact Or.inl rfl
    · exact Or.inr rfl
def jLO (n b : Int32) : Int32 := if 1 ≤ b then (if 0 ≤ n - n / b * b then n - n / b * b else n - n / b * b + b) else 0
def jCut (n b : Int32) : Int32 := if 1 ≤ b then n / b else 0
theorem nI_one : nI 1 = 1 := rfl
theorem nI_two : nI 2 = 2 := rfl
theorem one_le_nI {b : Nat} (h0 : 0 < b) (hb : b < 2 ^ 31) : (1 : Int32) ≤ nI b := by
  rw [← nI_one]
  exact nI_le h0 hb
theorem jLO_nI {a b : Nat} (ha : a < 2 ^ 31) (h0 : 0 < b) (hb : b < 2 ^ 31) : jLO (nI a) (nI b) = nI (a % b) := by
  unfold jLO
  rw [if_pos (one_le_nI h0 hb), pk_rem ha h0 hb, if_pos (nI_pos' (Nat.lt_of_le_of_lt (Nat.mod_le a b) ha))]
theorem jCut_nI {a b : Nat} (ha : a < 2 ^ 31) (h0 : 0 < b) (hb : b < 2 ^ 31) : jCut (nI a) (nI b) = nI (a / b) := by
  unfold jCut
  rw [if_pos (one_le_nI h0 hb), pk_div ha h0 hb]
def cdL (a b : Int32) : Nat → Int32 → Int32
  | 0, _ => 1
  | k + 1, d => if d ≤ 1 then 1 else if jLO a d = 0 then (if jLO b d = 0 then d else cdL a b k (d + (-1))) else cdL a b k (d + (-1))
def jMin (a b : Int32) : Int32 := if b < a then b else a
def jCD (a b : Int32) : Int32 := cdL a b (jMin a b).toNatClampNeg (jMin a b)
theorem clamp0 {d : Int32} (h : d.toNatClampNeg = 0) : d ≤ 1 := by
  by_cases h0 : d < 0
  · exact Int32.le_trans (Int32.le_of_lt h0) (by decide)
  · obtain ⟨j, hj, rfl⟩ := nI_of h0
    rw [nI_clamp hj] at h
    subst h
    decide
theorem clamp_dec {d : Int32} {k : Nat} (h : d.toNatClampNeg = k + 1) : (d + (-1)).toNatClampNeg = k := by
  by_cases h0 : d < 0
  · exfalso
    have h1 : d.toInt < 0 := by simpa using Int32.lt_iff_toInt_lt.mp h0
    have h2 : d.toNatClampNeg = d.toInt.toNat := rfl
    omega
  · obtain ⟨j, hj, rfl⟩ := nI_of h0
    rw [nI_clamp hj] at h
    subst h
    rw [pk_m1, nI_clamp (by omega)]
theorem cdL_gcd {a b : Nat} (ha : 0 < a) (ha' : a < 2 ^ 31) (hb : 0 < b) (hb' : b < 2 ^ 31) : ∀ k : Nat, k < 2 ^ 31 → Nat.gcd a b ≤ k → cdL (nI a) (nI b) k (nI k) = nI (Nat.gcd a b)
  | 0, _, h => by
    have := Nat.gcd_pos_of_pos_left b ha
    omega
  | k + 1, hk, h => by
    have hg := Nat.gcd_pos_of_pos_left b ha
    unfold cdL
    by_cases h1 : k = 0
    · subst h1
      rw [if_pos (by decide)]
      have : Nat.gcd a b = 1 := by omega
      rw [this]; rfl
    · rw [if_neg (by rw [← nI_one]; exact fun q => absurd ((nI_leI hk (by decide)).mp q) (by omega)), jLO_nI ha' (by omega) hk, jLO_nI hb' (by omega) hk, pk_m1]
      have e0 : ∀ x : Nat, x < 2 ^ 31 → (nI x = 0 ↔ x = 0) := fun x hx => by rw [← nI_0]; exact nI_eq hx (by decide)
      have la : a % (k + 1) < 2 ^ 31 := Nat.lt_of_le_of_lt (Nat.mod_le _ _) ha'
      have lb : b % (k + 1) < 2 ^ 31 := Nat.lt_of_le_of_lt (Nat.mod_le _ _) hb'
      by_cases hda : a % (k + 1) = 0
      · rw [if_pos ((e0 _ la).mpr hda)]
        by_cases hdb : b % (k + 1) = 0
        · rw [if_pos ((e0 _ lb).mpr hdb)]
          have h2 : k + 1 ∣ Nat.gcd a b := Nat.dvd_gcd (Nat.dvd_of_mod_eq_zero hda) (Nat.dvd_of_mod_eq_zero hdb)
          have h3 := Nat.le_of_dvd hg h2
          have : Nat.gcd a b = k + 1 := by omega
          rw [this]
        · rw [if_neg (fun q => hdb ((e0 _ lb).mp q))]
          refine cdL_gcd ha ha' hb hb' k (by omega) ?_
          have h4 : Nat.gcd a b ≠ k + 1 := fun q => hdb (Nat.mod_eq_zero_of_dvd (q ▸ Nat.gcd_dvd_right a b))
          omega
      · rw [if_neg (fun q => hda ((e0 _ la).mp q))]
        refine cdL_gcd ha ha' hb hb' k (by omega) ?_
        have h4 : Nat.gcd a b ≠ k + 1 := fun q => hda (Nat.mod_eq_zero_of_dvd (q ▸ Nat.gcd_dvd_left a b))
        omega
theorem jCD_gcd {a b : Nat} (ha : 0 < a) (ha' : a < 2 ^ 31) (hb : 0 < b) (hb' : b < 2 ^ 31) : jCD (nI a) (nI b) = nI (Nat.gcd a b) := by
  unfold jCD jMin
  have ga : Nat.gcd a b ≤ a := Nat.le_of_dvd ha (Nat.gcd_dvd_left a b)
  have gb : Nat.gcd a b ≤ b := Nat.le_of_dvd hb (Nat.gcd_dvd_right a b)
  by_cases h : b < a
  · rw [if_pos (nI_lt h ha'), nI_clamp hb']
    exact cdL_gcd ha ha' hb hb' b hb' gb
  · rw [if_neg (nI_nlt (by omega) hb'), nI_clamp ha']
    exact cdL_gcd ha ha' hb hb' a ha' ga
/-! ===== the machine's own numbers ===== -/
def MV (Q P M W : Nat) : Prop := 3 ≤ Q ∧ Q ≤ 48 ∧ 1 ≤ P ∧ P ≤ 10 ∧ (M = 3 ∨ M = 5) ∧ 1 ≤ W ∧ W < Q
def tT (Q P : Nat) : Nat := Nat.gcd Q P
def tN (Q P : Nat) : Nat := Q / Nat.gcd Q P
def tn (Q P k : Nat) : Nat := k * P % Q / Nat.gcd Q P
def zn (Q P M k : Nat) : Nat := 2 * M * tn Q P k / tN Q P
def ph (Q P M k : Nat) : Nat := if zn Q P M k % 2 = 0 then zn Q P M k / 2 else (zn Q P M k + M) / 2 % M
def fwd (Q P M k : Nat) : Int32 := if zn Q P M k % 2 = 0 then 1 else 0
def bal (Q P M : Nat) : Int32 := if tN Q P % M = 0 then 1 else 0
def lck (Q P M : Nat) : Nat := M / Nat.gcd (tN Q P) M
theorem tT_pos {Q P M W : Nat} (h : MV Q P M W) : 0 < tT Q P := Nat.gcd_pos_of_pos_left P (by unfold MV at h; omega)
theorem tT_le {Q P M W : Nat} (h : MV Q P M W) : tT Q P ≤ 10 := by
  have h1 : tT Q P ≤ P := Nat.le_of_dvd (by unfold MV at h; omega) (Nat.gcd_dvd_right Q P)
  unfold MV at h
  omega
theorem tN_pos {Q P M W : Nat} (h : MV Q P M W) : 0 < tN Q P := Nat.div_pos (Nat.le_of_dvd (by unfold MV at h; omega) (Nat.gcd_dvd_left Q P)) (tT_pos h)
theorem tN_le {Q P M W : Nat} (h : MV Q P M W) : tN Q P ≤ 48 := Nat.le_trans (Nat.div_le_self Q _) (by unfold MV at h; omega)
theorem tN_leQ (Q P : Nat) : tN Q P ≤ Q := Nat.div_le_self Q _
theorem tn_lt {Q P M W : Nat} (h : MV Q P M W) (k : Nat) : tn Q P k < tN Q P := by
  have hg := tT_pos h
  have hd : Nat.gcd Q P ∣ Q := Nat.gcd_dvd_left Q P
  unfold tn tN
  refine Nat.div_lt_of_lt_mul ?_
  rw [Nat.mul_div_cancel' hd]
  exact Nat.mod_lt _ (by unfold MV at h; omega)
theorem zn_lt {Q P M W : Nat} (h : MV Q P M W) (k : Nat) : zn Q P M k < 2 * M := by
  have h1 := tn_lt h k
  have hM : 0 < 2 * M := by unfold MV at h; omega
  unfold zn
  refine Nat.div_lt_of_lt_mul ?_
  rw [Nat.mul_comm (tN Q P)]
  exact Nat.mul_lt_mul_of_pos_left h1 hM
theorem ph_lt {Q P M W : Nat} (h : MV Q P M W) (k : Nat) : ph Q P M k < M := by
  have h1 := zn_lt h k
  have hM : 0 < M := by unfold MV at h; omega
  unfold ph
  split
  · omega
  · exact Nat.mod_lt _ hM
theorem mul_small {k P : Nat} (hk : k < 1000) (hP : P ≤ 10) : k * P < 2 ^ 31 := by
  have : k * P ≤ 1000 * 10 := Nat.mul_le_mul (by omega) hP
  omega
theorem j_turn {Q P M W k : Nat} (h : MV Q P M W) (hk : k < 1000) : jCut (jLO (nI k * nI P) (nI Q)) (nI (tT Q P)) = nI (tn Q P k) := by
  have h1 := h
  unfold MV at h1
  have h2 := tT_pos h
  have h3 := tT_le h
  have h4 : k * P % Q < Q := Nat.mod_lt _ (by omega)
  rw [pk_mul, jLO_nI (mul_small hk (by omega)) (by omega) (by omega), jCut_nI (by omega) h2 (by omega)]
  rfl
theorem j_zone {Q P M W k : Nat} (h : MV Q P M W) : jCut (2 * nI M * nI (tn Q P k)) (nI (tN Q P)) = nI (zn Q P M k) := by
  have h1 := tn_lt h k
  have h2 := tN_pos h
  have h3 := tN_le h
  have hM : M ≤ 5 := by unfold MV at h; omega
  have h4 : 2 * M * tn Q P k ≤ 10 * 48 := Nat.mul_le_mul (by omega) (by omega)
  rw [← nI_two, pk_mul, pk_mul, jCut_nI (by omega) h2 (by omega)]
  rfl
theorem nI_eq0 {x : Nat} (hx : x < 2 ^ 31) : nI x = 0 ↔ x = 0 := by rw [← nI_0]; exact nI_eq hx (by decide)
theorem nI_eq1 {x : Nat} (hx : x < 2 ^ 31) : nI x = 1 ↔ x = 1 := by rw [← nI_one]; exact nI_eq hx (by decide)
theorem j_lo2 {Q P M W k : Nat} (h : MV Q P M W) : (jLO (nI (zn Q P M k)) 2 = 0 ↔ zn Q P M k % 2 = 0) := by
  have h1 := zn_lt h k
  have hM : M ≤ 5 := by unfold MV at h; omega
  rw [← nI_two, jLO_nI (by omega) (by decide) (by decide)]
  exact nI_eq0 (by omega)
theorem nI_lt32 {x : Nat} (h : x < 1000000) : x < 2 ^ 31 := by omega
theorem j_lck {Q P M W : Nat} (h : MV Q P M W) : jCut (nI M) (jCD (nI (tN Q P)) (nI M)) = nI (lck Q P M) := by
  have h2 := tN_pos h
  have h3 := tN_le h
  have hM : 0 < M ∧ M ≤ 5 := by unfold MV at h; omega
  have hg : 0 < Nat.gcd (tN Q P) M := Nat.gcd_pos_of_pos_left M h2
  have hg2 : Nat.gcd (tN Q P) M ≤ M := Nat.le_of_dvd hM.1 (Nat.gcd_dvd_right _ _)
  rw [jCD_gcd h2 (by omega) hM.1 (by omega), jCut_nI (by omega) hg (by omega)]
  rfl
theorem lck_one {Q P M W : Nat} (h : MV Q P M W) : nI (lck Q P M) = 1 ↔ tN Q P % M = 0 := by
  have hM : 0 < M ∧ M ≤ 5 := by unfold MV at h; omega
  have hl : lck Q P M ≤ M := Nat.div_le_self _ _
  rw [nI_eq1 (by omega)]
  have hd : Nat.gcd (tN Q P) M ∣ M := Nat.gcd_dvd_right _ _
  constructor
  · intro e
    have h1 : Nat.gcd (tN Q P) M * (M / Nat.gcd (tN Q P) M) = M := Nat.mul_div_cancel' hd
    unfold lck at e
    rw [e, Nat.mul_one] at h1
    exact Nat.mod_eq_zero_of_dvd (h1 ▸ Nat.gcd_dvd_left (tN Q P) M)
  · intro e
    have h1 : Nat.gcd (tN Q P) M = M := Nat.gcd_eq_right (Nat.dvd_of_mod_eq_zero e)
    unfold lck
    rw [h1]
    exact Nat.div_self hM.1
theorem j_bal {Q P M W : Nat} (h : MV Q P M W) (c : nI (lck Q P M) = 1) : (1 : Int32) = bal Q P M := by
  unfold bal
  rw [if_pos ((lck_one h).mp c)]
theorem j_nbal {Q P M W : Nat} (h : MV Q P M W) (c : ¬ nI (lck Q P M) = 1) : (0 : Int32) = bal Q P M := by
  unfold bal
  rw [if_neg (fun q => c ((lck_one h).mpr q))]
theorem bal01 (Q P M : Nat) : bal Q P M = 0 ∨ bal Q P M = 1 := by
  unfold bal
  split
  · exact Or.inr rfl
  · exact Or.inl rfl
theorem fwd01 (Q P M k : Nat) : fwd Q P M k = 0 ∨ fwd Q P M k = 1 := by
  unfold fwd
  split
  · exact Or.inr rfl
  · exact Or.inl rfl
theorem j_fwd1 {Q P M W k : Nat} (h : MV Q P M W) (c : jLO (nI (zn Q P M k)) 2 = 0) : (1 : Int32) = fwd Q P M k := by
  unfold fwd
  rw [if_pos ((j_lo2 h).mp c)]
theorem j_fwd0 {Q P M W k : Nat} (h : MV Q P M W) (c : ¬ jLO (nI (zn Q P M k)) 2 = 0) : (0 : Int32) = fwd Q P M k := by
  unfold fwd
  rw [if_neg (fun q => c ((j_lo2 h).mpr q))]
theorem j_ph0 {Q P M W k : Nat} (h : MV Q P M W) (c : jLO (nI (zn Q P M k)) 2 = 0) : jCut (nI (zn Q P M k)) 2 = nI (ph Q P M k) := by
  have h1 := zn_lt h k
  have hM : M ≤ 5 := by unfold MV at h; omega
  unfold ph
  rw [if_pos ((j_lo2 h).mp c), ← nI_two, jCut_nI (by omega) (by decide) (by decide)]
theorem j_ph1 {Q P M W k : Nat} (h : MV Q P M W) (c : ¬ jLO (nI (zn Q P M k)) 2 = 0) : jLO (jCut (nI (zn Q P M k) + nI M) 2) (nI M) = nI (ph Q P M k) := by
  have h1 := zn_lt h k
  have hM : 0 < M ∧ M ≤ 5 := by unfold MV at h; omega
  unfold ph
  rw [if_neg (fun q => c ((j_lo2 h).mpr q)), ← nI_two, nI_add, jCut_nI (by omega) (by decide) (by decide), jLO_nI (by omega) hM.1 (by omega)]
def en (Q k w : Nat) : Nat := (k + w) % Q
def be (Q W k : Nat) : Nat := (k + Q - W) % Q
theorem j_en {Q P M W k w : Nat} (h : MV Q P M W) (hk : k < 1000) (hw : w < 1000) : jLO (nI k + nI w) (nI Q) = nI (en Q k w) := by
  have h1 : 3 ≤ Q ∧ Q ≤ 48 := by unfold MV at h; omega
  rw [nI_add, jLO_nI (by omega) (by omega) (by omega)]
  rfl
theorem j_be {Q P M W k : Nat} (h : MV Q P M W) (hk : k < Q) : jLO (nI k - nI W) (nI Q) = nI (be Q W k) := by
  have h1 : 3 ≤ Q ∧ Q ≤ 48 ∧ 1 ≤ W ∧ W < Q := by unfold MV at h; omega
  unfold be
  by_cases hw : W ≤ k
  · rw [pk_sub hw, jLO_nI (by omega) (by omega) (by omega), show k + Q - W = (k - W) + Q by omega, Nat.add_mod_right]
  · have e : k + Q - W < Q := by omega
    rw [Nat.mod_eq_of_lt e]
    have key : ∀ q : Nat, q < 49 → ∀ w : Nat, w < q → ∀ a : Nat, a < w → jLO (nI a - nI w) (nI q) = nI (a + q - w) := by decide +kernel
    exact key Q (by omega) W (by omega) k (by omega)
def csL (Q P M : Nat) (a b : Int32) : Nat → Nat → Int32 → Int32
  | 0, _, n => n
  | f + 1, i, n => csL Q P M a b f (i + 1) (if nI (ph Q P M i) = a then (if fwd Q P M i = b then n + 1 else n) else n)
def wB (Q a b : Nat) : Nat := if a < b then min (b - a) (Q - (b - a)) else min (a - b) (Q - (a - b))
theorem nI_min {a b : Nat} (ha : a < 2 ^ 31) (hb : b < 2 ^ 31) : (if nI b < nI a then nI b else nI a) = nI (min a b) := by
  by_cases h : b < a
  · rw [if_pos (nI_lt h ha), Nat.min_eq_right (by omega)]
  · rw [if_neg (nI_nlt (by omega) hb), Nat.min_eq_left (by omega)]
theorem nI_abs {a b : Nat} (ha : a < 1000) (hb : b < 1000) : (if 0 ≤ nI a - nI b then nI a - nI b else 0 - (nI a - nI b)) = nI (if a < b then b - a else a - b) := by
  by_cases h : a < b
  · rw [if_neg (fun q => absurd (pk_sneg (by omega) h) (Int32.not_lt.mpr q)), if_pos h, ← pk_sub (by omega)]
    simp
  · rw [if_neg h, pk_sub (by omega), if_pos (nI_pos' (by omega))]
theorem j_way {Q a b : Nat} (hQ : Q ≤ 48) (ha : a < Q) (hb : b < Q) : (if nI Q - (if 0 ≤ nI a - nI b then nI a - nI b else 0 - (nI a - nI b)) < (if 0 ≤ nI a - nI b then nI a - nI b else 0 - (nI a - nI b)) then nI Q - (if 0 ≤ nI a - nI b then nI a - nI b else 0 - (nI a - nI b)) else (if 0 ≤ nI a - nI b then nI a - nI b else 0 - (nI a - nI b))) = nI (wB Q a b) := by
  have hz : (if a < b then b - a else a - b) < Q := by split <;> omega
  rw [nI_abs (by omega) (by omega), pk_sub (by omega), nI_min (by omega) (by omega)]
  unfold wB
  split <;> rfl
def pw (Q P : Nat) : Nat := if Q / (2 * P) = 0 then 1 else Q / (2 * P)
theorem j_pw {Q P : Nat} (hq : Q < 1000) (hp : 0 < P ∧ P < 1000) : (if 1 < jCut (nI Q) (2 * nI P) then jCut (nI Q) (2 * nI P) else 1) = nI (pw Q P) := by
  have hd : Q / (2 * P) ≤ Q := Nat.div_le_self _ _
  rw [← nI_two, pk_mul, jCut_nI (by omega) (by omega) (by omega)]
  unfold pw
  by_cases h : 1 < Q / (2 * P)
  · rw [if_pos (by rw [← nI_one]; exact nI_lt h (by omega)), if_neg (fun q => by rw [q] at h; exact absurd h (by decide))]
  · rw [if_neg (by rw [← nI_one]; exact nI_nlt (Nat.not_lt.mp h) (by decide))]
    by_cases h0 : Q / (2 * P) = 0
    · rw [if_pos h0]; rfl
    · rw [if_neg h0, show Q / (2 * P) = 1 from Nat.le_antisymm (Nat.not_lt.mp h) (Nat.pos_of_ne_zero h0)]; rfl
theorem jIn_ok {k z : Nat} (hk : k < z) (hz : z < 2 ^ 31) : ¬ jIn (nI k) 0 (nI z - 1) = 0 := by
  unfold jIn
  have e : nI z - 1 = nI (z - 1) := by
    rw [← nI_one]
    exact pk_sub (by omega)
  rw [if_neg (nI_pos (by omega)), e, if_neg (nI_nlt (by omega) (by omega))]
  decide
theorem j_tT {Q P M W : Nat} (h : MV Q P M W) : jCD (nI Q) (nI P) = nI (tT Q P) := by
  have h1 : 3 ≤ Q ∧ Q ≤ 48 ∧ 1 ≤ P ∧ P ≤ 10 := by unfold MV at h; omega
  exact jCD_gcd (by omega) (by omega) (by omega) (by omega)
theorem j_tN {Q P M W : Nat} (h : MV Q P M W) : jCut (nI Q) (nI (tT Q P)) = nI (tN Q P) := by
  have h1 : 3 ≤ Q ∧ Q ≤ 48 := by unfold MV at h; omega
  have h2 := tT_pos h
  have h3 := tT_le h
  rw [jCut_nI (by omega) h2 (by omega)]
  rfl
end
section
theorem nd_X3_isWithin : okName yX3_isWithin 3 := by decide +kernel
set_option maxHeartbeats 4000000 in
set_option maxRecDepth 100000 in
theorem k_X3_isWithin (l : Launch) (D : va_G) (cI cZ : ClassId) (n : Int32) (lo : Int32) (hi : Int32) : RO l yX3_isWithin wsX3_isWithin ({ frames := 0, cells := 0, slots := 0, locals := 0 } : Room) D cI cZ [] [.int n, .int lo, .int hi] (jIn n lo hi) := by
  refine ro_start (by decide) rfl (Nat.le_of_ble_eq_true rfl) ?_
  intro p e s m args below meth c hx hb hr hml hlocks hts hown hT hP ls hl
  have hown : s.vm.findClass RX3 = some m.cls := hown
  have hl : lv_has ls 3 [(0, .int n), (1, .int lo), (2, .int hi)] := hl
  refine lv_iload_n hx hb dX3_isWithin_0 rfl (lv_at hl 0 rfl) ?_
  refine lv_iload_n hx hb dX3_isWithin_1 rfl (lv_at hl 1 rfl) ?_
  refine lv_icmp_lt (tgt := 14) hx hb dX3_isWithin_2 (by decide) (fun c_1 => ?_) (fun c_1 => ?_)
  · skip
    refine lv_iconst (v := 0) hx hb dX3_isWithin_14 (by decide) ?_
    exact ro_retz hx hb hr hlocks dX3_isWithin_15 (by simp [jIn, c_1]) (by first | exact jIn01 _ _ _)
  · skip
    refine lv_iload_n hx hb dX3_isWithin_5 rfl (lv_at hl 0 rfl) ?_
    refine lv_iload_n hx hb dX3_isWithin_6 rfl (lv_at hl 2 rfl) ?_
    refine lv_icmp_gt (tgt := 14) hx hb dX3_isWithin_7 (by decide) (fun c_2 => ?_) (fun c_2 => ?_)
    · skip
      refine lv_iconst (v := 0) hx hb dX3_isWithin_14 (by decide) ?_
      exact ro_retz hx hb hr hlocks dX3_isWithin_15 (by simp [jIn, c_1, c_2]) (by first | exact jIn01 _ _ _)
    · skip
      refine lv_iconst (v := 1) hx hb dX3_isWithin_10 (by decide) ?_
      refine lv_goto (tgt := 15) hx hb dX3_isWithin_11 (by decide) ?_
      exact ro_retz hx hb hr hlocks dX3_isWithin_15 (by simp [jIn, c_1, c_2]) (by first | exact jIn01 _ _ _)

theorem nd_X3_leftOver : okName yX3_leftOver 2 := by decide +kernel
set_option maxHeartbeats 4000000 in
set_option maxRecDepth 100000 in
theorem k_X3_leftOver (l : Launch) (D : va_G) (cI cZ : ClassId) (n : Int32) (b : Int32) : RO l yX3_leftOver wsX3_leftOver ({ frames := 0, cells := 0, slots := 0, locals := 0 } : Room) D cI cZ [] [.int n, .int b] (jLO n b) := by
  refine ro_start (by decide) rfl (Nat.le_of_ble_eq_true rfl) ?_
  intro p e s m args below meth c hx hb hr hml hlocks hts hown hT hP ls hl
  have hown : s.vm.findClass RX3 = some m.cls := hown
  have hl : lv_has ls 3 [(0, .int n), (1, .int b)] := hl
  refine lv_iload_n hx hb dX3_leftOver_0 rfl (lv_at hl 1 rfl) ?_
  refine lv_iconst (v := 1) hx hb dX3_leftOver_1 (by decide) ?_
  refine lv_icmp_ge (tgt := 7) hx hb dX3_leftOver_2 (by decide) (fun c_1 => ?_) (fun c_1 => ?_)
  · skip
    refine lv_iload_n hx hb dX3_leftOver_7 rfl (lv_at hl 0 rfl) ?_
    refine lv_iload_n hx hb dX3_leftOver_8 rfl (lv_at hl 1 rfl) ?_
    refine lv_irem hx hb dX3_leftOver_9 (fun q => absurd c_1 (by rw [q]; decide)) ?_
    refine lv_istore_n (lv' := [(2, .int (n - n / b * b)), (0, .int n), (1, .int b)]) hx hb dX3_leftOver_10 rfl hl (by decide) rfl (fun ls hl => ?_)
    refine lv_iload_n hx hb dX3_leftOver_11 rfl (lv_at hl 0 rfl) ?_
    refine lv_if_ge (tgt := 21) hx hb dX3_leftOver_12 (by decide) (fun c_2 => ?_) (fun c_2 => ?_)
    · skip
      refine lv_iload_n hx hb dX3_leftOver_21 rfl (lv_at hl 0 rfl) ?_
      exact ro_ret hx hb hr hlocks dX3_leftOver_22 (by simp [jLO, c_1, c_2])
    · skip
      refine lv_iload_n hx hb dX3_leftOver_15 rfl (lv_at hl 0 rfl) ?_
      refine lv_iload_n hx hb dX3_leftOver_16 rfl (lv_at hl 2 rfl) ?_
      refine lv_iadd hx hb dX3_leftOver_17 ?_
      refine lv_goto (tgt := 22) hx hb dX3_leftOver_18 (by decide) ?_
      exact ro_ret hx hb hr hlocks dX3_leftOver_22 (by simp [jLO, c_1, c_2])
  · skip
    refine lv_iconst (v := 0) hx hb dX3_leftOver_5 (by decide) ?_
    exact ro_ret hx hb hr hlocks dX3_leftOver_6 (by simp [jLO, c_1])

theorem nd_X3_cut : okName yX3_cut 2 := by decide +kernel
set_option maxHeartbeats 4000000 in
set_option maxRecDepth 100000 in
theorem k_X3_cut (l : Launch) (D : va_G) (cI cZ : ClassId) (n : Int32) (b : Int32) : RO l yX3_cut wsX3_cut ({ frames := 0, cells := 0, slots := 0, locals := 0 } : Room) D cI cZ [] [.int n, .int b] (jCut n b) := by
  refine ro_start (by decide) rfl (Nat.le_of_ble_eq_true rfl) ?_
  intro p e s m args below meth c hx hb hr hml hlocks hts hown hT hP ls hl
  have hown : s.vm.findClass RX3 = some m.cls := hown
  have hl : lv_has ls 2 [(0, .int n), (1, .int b)] := hl
  refine lv_iload_n hx hb dX3_cut_0 rfl (lv_at hl 1 rfl) ?_
  refine lv_iconst (v := 1) hx hb dX3_cut_1 (by decide) ?_
  refine lv_icmp_ge (tgt := 9) hx hb dX3_cut_2 (by decide) (fun c_1 => ?_) (fun c_1 => ?_)
  · skip
    refine lv_iload_n hx hb dX3_cut_9 rfl (lv_at hl 0 rfl) ?_
    refine lv_iload_n hx hb dX3_cut_10 rfl (lv_at hl 1 rfl) ?_
    refine lv_idiv hx hb dX3_cut_11 (fun q => absurd c_1 (by rw [q]; decide)) ?_
    exact ro_ret hx hb hr hlocks dX3_cut_12 (by simp [jCut, c_1])
  · skip
    refine lv_iconst (v := 0) hx hb dX3_cut_5 (by decide) ?_
    refine lv_goto (tgt := 12) hx hb dX3_cut_6 (by decide) ?_
    exact ro_ret hx hb hr hlocks dX3_cut_12 (by simp [jCut, c_1])

theorem nd_X3_commonDivisor : okName yX3_commonDivisor 2 := by decide +kernel
set_option maxHeartbeats 4000000 in
set_option maxRecDepth 100000 in
theorem k_X3_commonDivisor (l : Launch) (D : va_G) (cI cZ : ClassId) (a : Int32) (b : Int32) : RO l yX3_commonDivisor wsX3_commonDivisor ({ frames := 1, cells := 0, slots := 0, locals := 22 } : Room) D cI cZ [] [.int a, .int b] (jCD a b) := by
  refine ro_start (by decide) rfl (Nat.le_of_ble_eq_true rfl) ?_
  intro p e s m args below meth c hx hb hr hml hlocks hts hown hT hP ls hl
  have hown : s.vm.findClass RX3 = some m.cls := hown
  have hl : lv_has ls 3 [(0, .int a), (1, .int b)] := hl
  refine lv_iload_n hx hb dX3_commonDivisor_0 rfl (lv_at hl 0 rfl) ?_
  refine lv_iload_n hx hb dX3_commonDivisor_1 rfl (lv_at hl 1 rfl) ?_
  refine va_mmin hx hb (hml.trans hl.1.symm) hown (hts (.methodLink RX3 200 Lib.Math.min.name) (List.mem_of_getElem? (i := 1) rfl)) (hts (.static Lib.Math.min.name) (List.mem_of_getElem? (i := 2) rfl)) (hts (.initialized "java/lang/Math") (List.mem_of_getElem? (i := 3) rfl)) (hts (.code Lib.Math.min.name Lib.Math.min.code 2 (some .int)) (List.mem_of_getElem? (i := 4) rfl)) (Nat.le_of_ble_eq_true rfl) (Nat.le_of_ble_eq_true rfl) (Nat.zero_le _) (Nat.zero_le _) dX3_commonDivisor_2 ?_
  refine lv_istore_n (lv' := [(2, .int (if b < a then b else a)), (0, .int a), (1, .int b)]) hx hb dX3_commonDivisor_5 rfl hl (by decide) rfl (fun ls hl => ?_)
  have L_6 : ∀ (k : Nat) (d : Int32), d.toNatClampNeg = k → jCD a b = cdL a b k d → ∀ ls : Array Slot, lv_has ls 3 [(0, .int a), (1, .int b), (2, .int d)] → W p l e (headSpec wsX3_commonDivisor ({ frames := 1, cells := 0, slots := 0, locals := 22 } : Room)).room s m args below meth c s.heap [] 0 0 (MQ below (QcRead (jCD a b)) args s 0 0 (fun _ => False)) (F0 m 6 ls []) := by
    intro k
    induction k with
    | zero =>
      intro d hk hr0 ls hl
      refine lv_iload_n hx hb dX3_commonDivisor_6 rfl (lv_at hl 2 rfl) ?_
      refine lv_iconst (v := 1) hx hb dX3_commonDivisor_7 (by decide) ?_
      refine lv_icmp_le (tgt := 35) hx hb dX3_commonDivisor_8 (by decide) (fun c_1 => ?_) (fun c_1 => ?_)
      · skip
        refine lv_iconst (v := 1) hx hb dX3_commonDivisor_35 (by decide) ?_
        exact ro_ret hx hb hr hlocks dX3_commonDivisor_36 (by rw [hr0]; first | rfl | simp [cdL, c_1])
      · exfalso; exact c_1 (clamp0 hk)
    | succ k ih_6 =>
      intro d hk hr0 ls hl
      refine lv_iload_n hx hb dX3_commonDivisor_6 rfl (lv_at hl 2 rfl) ?_
      refine lv_iconst (v := 1) hx hb dX3_commonDivisor_7 (by decide) ?_
      refine lv_icmp_le (tgt := 35) hx hb dX3_commonDivisor_8 (by decide) (fun c_2 => ?_) (fun c_2 => ?_)
      · skip
        refine lv_iconst (v := 1) hx hb dX3_commonDivisor_35 (by decide) ?_
        exact ro_ret hx hb hr hlocks dX3_commonDivisor_36 (by rw [hr0]; first | rfl | simp [cdL, c_2])
      · skip
        refine lv_iload_n hx hb dX3_commonDivisor_11 rfl (lv_at hl 0 rfl) ?_
        refine lv_iload_n hx hb dX3_commonDivisor_12 rfl (lv_at hl 2 rfl) ?_
        refine ro_S (As := [.int a, .int d]) (rest := []) ⟨hx, hb, hml, hown, hts⟩ hT hP (k_X3_leftOver l D cI cZ a d) gX3_commonDivisor_X3_leftOver rfl nd_X3_leftOver [] rfl hl.1 rfl rfl (Nat.le_of_ble_eq_true rfl) ⟨Nat.le_of_ble_eq_true rfl, Nat.le_of_ble_eq_true rfl⟩ ⟨rfl, rfl⟩ ⟨Nat.zero_le _, Nat.zero_le _⟩ dX3_commonDivisor_13 ?_
        refine lv_if_ne (tgt := 29) hx hb dX3_commonDivisor_16 (by decide) (fun c_3 => ?_) (fun c_3 => ?_)
        · skip
          refine lv_iinc (v := (d + (-1))) (lv' := [(2, .int (d + (-1))), (0, .int a), (1, .int b)]) hx hb dX3_commonDivisor_29 hl (k := 2) rfl rfl (by decide) rfl (fun ls hl => ?_)
          refine lv_goto (tgt := 6) hx hb dX3_commonDivisor_32 (by decide) ?_
          exact ih_6 _ (clamp_dec hk) (by rw [hr0]; simp [cdL, c_2, c_3]) ls (lv_sub hl [1, 2, 0] rfl)
        · skip
          refine lv_iload_n hx hb dX3_commonDivisor_19 rfl (lv_at hl 1 rfl) ?_
          refine lv_iload_n hx hb dX3_commonDivisor_20 rfl (lv_at hl 2 rfl) ?_
          refine ro_S (As := [.int b, .int d]) (rest := []) ⟨hx, hb, hml, hown, hts⟩ hT hP (k_X3_leftOver l D cI cZ b d) gX3_commonDivisor_X3_leftOver rfl nd_X3_leftOver [] rfl hl.1 rfl rfl (Nat.le_of_ble_eq_true rfl) ⟨Nat.le_of_ble_eq_true rfl, Nat.le_of_ble_eq_true rfl⟩ ⟨rfl, rfl⟩ ⟨Nat.zero_le _, Nat.zero_le _⟩ dX3_commonDivisor_21 ?_
          refine lv_if_ne (tgt := 29) hx hb dX3_commonDivisor_24 (by decide) (fun c_4 => ?_) (fun c_4 => ?_)
          · skip
            refine lv_iinc (v := (d + (-1))) (lv' := [(2, .int (d + (-1))), (0, .int a), (1, .int b)]) hx hb dX3_commonDivisor_29 hl (k := 2) rfl rfl (by decide) rfl (fun ls hl => ?_)
            refine lv_goto (tgt := 6) hx hb dX3_commonDivisor_32 (by decide) ?_
            exact ih_6 _ (clamp_dec hk) (by rw [hr0]; simp [cdL, c_2, c_3, c_4]) ls (lv_sub hl [1, 2, 0] rfl)
          · skip
            refine lv_iload_n hx hb dX3_commonDivisor_27 rfl (lv_at hl 2 rfl) ?_
            exact ro_ret hx hb hr hlocks dX3_commonDivisor_28 (by rw [hr0]; simp [cdL, c_2, c_3, c_4])
  exact L_6 _ _ rfl rfl ls (lv_sub hl [1, 2, 0] rfl)

theorem nd_X3_at : okName yX3_at 2 := by decide +kernel
set_option maxHeartbeats 4000000 in
set_option maxRecDepth 100000 in
theorem k_X3_at (l : Launch) (D : va_G) (cI cZ : ClassId) (aX : Nat) (nX : Nat) (fX : Nat → Int32) (k : Nat) (hz : nX < 2 ^ 31) (hk : k < nX) : RO l yX3_at wsX3_at ({ frames := 1, cells := 0, slots := 0, locals := 22 } : Room) D cI cZ [(aX, .inl (cI, nX, .inl fX))] [.ref aX, .int (nI k)] (fX k) := by
  refine ro_start (by decide) rfl (Nat.le_of_ble_eq_true rfl) ?_
  intro p e s m args below meth c hx hb hr hml hlocks hts hown hT hP ls hl
  have hown : s.vm.findClass RX3 = some m.cls := hown
  have hl : lv_has ls 2 [(0, .ref aX), (1, .int (nI k))] := hl
  refine lv_iload_n hx hb dX3_at_0 rfl (lv_at hl 1 rfl) ?_
  refine lv_iconst (v := 0) hx hb dX3_at_1 (by decide) ?_
  refine lv_aload_n hx hb dX3_at_2 rfl (lv_at hl 0 rfl) ?_
  refine va_alen hx hb hT.1 hP 0 0 (v := (nI nX)) rfl rfl rfl dX3_at_3 ?_
  refine lv_iconst (v := 1) hx hb dX3_at_4 (by decide) ?_
  refine lv_isub hx hb dX3_at_5 ?_
  refine ro_S (As := [.int (nI k), .int 0, .int ((nI nX) - 1)]) (rest := []) ⟨hx, hb, hml, hown, hts⟩ hT hP (k_X3_isWithin l D cI cZ (nI k) 0 ((nI nX) - 1)) gX3_at_X3_isWithin rfl nd_X3_isWithin [] rfl hl.1 rfl rfl (Nat.le_of_ble_eq_true rfl) ⟨Nat.le_of_ble_eq_true rfl, Nat.le_of_ble_eq_true rfl⟩ ⟨rfl, rfl⟩ ⟨Nat.zero_le _, Nat.zero_le _⟩ dX3_at_6 ?_
  refine lv_if_eq (tgt := 18) hx hb dX3_at_9 (by decide) (fun c_1 => ?_) (fun c_1 => ?_)
  · exfalso; exact absurd c_1 (jIn_ok hk hz)
  · skip
    refine lv_aload_n hx hb dX3_at_12 rfl (lv_at hl 0 rfl) ?_
    refine lv_iload_n hx hb dX3_at_13 rfl (lv_at hl 1 rfl) ?_
    refine ld_i hx hb hT hP 0 rfl dX3_at_14 (k := k) rfl hk (by omega) ?_
    refine lv_goto (tgt := 19) hx hb dX3_at_15 (by decide) ?_
    exact ro_ret hx hb hr hlocks dX3_at_19 (by rfl)

theorem nd_X3_put : okName yX3_put 3 := by decide +kernel
set_option maxHeartbeats 4000000 in
set_option maxRecDepth 100000 in
theorem k_X3_put (l : Launch) (D : va_G) (cI cZ : ClassId) (aX : Nat) (nX : Nat) (fX : Nat → Int32) (k : Nat) (x : Int32) (hz : nX < 2 ^ 31) (hk : k < nX) : MU l yX3_put wsX3_put ({ frames := 1, cells := 0, slots := 0, locals := 22 } : Room) D cI cZ [(aX, .inl (cI, nX, .inl fX))] [.ref aX, .int (nI k), .int x] none [(aX, .inl (cI, nX, .inl (upd fX k x)))] := by
  refine mu_start (by decide) rfl (Nat.le_of_ble_eq_true rfl) ?_
  intro p e s m args below meth c hx hb hr hml hlocks hts hown hT hP hD hS ls hl
  have hown : s.vm.findClass RX3 = some m.cls := hown
  have hl : lv_has ls 3 [(0, .ref aX), (1, .int (nI k)), (2, .int x)] := hl
  refine lv_iload_n hx hb dX3_put_0 rfl (lv_at hl 1 rfl) ?_
  refine lv_iconst (v := 0) hx hb dX3_put_1 (by decide) ?_
  refine lv_aload_n hx hb dX3_put_2 rfl (lv_at hl 0 rfl) ?_
  refine va_alen hx hb hT.1 hP 0 0 (v := (nI nX)) rfl rfl rfl dX3_put_3 ?_
  refine lv_iconst (v := 1) hx hb dX3_put_4 (by decide) ?_
  refine lv_isub hx hb dX3_put_5 ?_
  refine ro_S (As := [.int (nI k), .int 0, .int ((nI nX) - 1)]) (rest := []) ⟨hx, hb, hml, hown, hts⟩ hT hP (k_X3_isWithin l D cI cZ (nI k) 0 ((nI nX) - 1)) gX3_put_X3_isWithin rfl nd_X3_isWithin [] rfl hl.1 rfl rfl (Nat.le_of_ble_eq_true rfl) ⟨Nat.le_of_ble_eq_true rfl, Nat.le_of_ble_eq_true rfl⟩ ⟨rfl, rfl⟩ ⟨Nat.zero_le _, Nat.zero_le _⟩ dX3_put_6 ?_
  refine lv_if_eq (tgt := 16) hx hb dX3_put_9 (by decide) (fun c_1 => ?_) (fun c_1 => ?_)
  · exfalso; exact absurd c_1 (jIn_ok hk hz)
  · skip
    refine lv_aload_n hx hb dX3_put_12 rfl (lv_at hl 0 rfl) ?_
    refine lv_iload_n hx hb dX3_put_13 rfl (lv_at hl 1 rfl) ?_
    refine lv_iload_n hx hb dX3_put_14 rfl (lv_at hl 2 rfl) ?_
    refine st_i hx hb hT hP hD hS 0 rfl dX3_put_15 (k := k) (W1 := [(aX, .inl (cI, nX, .inl (upd fX k x)))]) rfl hk (by omega) rfl (fun H locs hP hD hS => ?_)
    exact mu_retv hx hb hr hlocks dX3_put_16 (hP) hS

theorem nd_X3_poleWidth : okName yX3_poleWidth 2 := by decide +kernel
set_option maxHeartbeats 4000000 in
set_option maxRecDepth 100000 in
theorem k_X3_poleWidth (l : Launch) (D : va_G) (cI cZ : ClassId) (Q : Nat) (P : Nat) (hq : Q < 1000) (hp : 0 < P ∧ P < 1000) : RO l yX3_poleWidth wsX3_poleWidth ({ frames := 1, cells := 0, slots := 0, locals := 21 } : Room) D cI cZ [] [.int (nI Q), .int (nI P)] (nI (pw Q P)) := by
  refine ro_start (by decide) rfl (Nat.le_of_ble_eq_true rfl) ?_
  intro p e s m args below meth c hx hb hr hml hlocks hts hown hT hP ls hl
  have hown : s.vm.findClass RX3 = some m.cls := hown
  have hl : lv_has ls 2 [(0, .int (nI Q)), (1, .int (nI P))] := hl
  refine lv_iconst (v := 1) hx hb dX3_poleWidth_0 (by decide) ?_
  refine lv_iload_n hx hb dX3_poleWidth_1 rfl (lv_at hl 0 rfl) ?_
  refine lv_iconst (v := 2) hx hb dX3_poleWidth_2 (by decide) ?_
  refine lv_iload_n hx hb dX3_poleWidth_3 rfl (lv_at hl 1 rfl) ?_
  refine lv_imul hx hb dX3_poleWidth_4 ?_
  refine ro_S (As := [.int (nI Q), .int (2 * (nI P))]) (rest := [.int 1]) ⟨hx, hb, hml, hown, hts⟩ hT hP (k_X3_cut l D cI cZ (nI Q) (2 * (nI P))) gX3_poleWidth_X3_cut rfl nd_X3_cut [] rfl hl.1 rfl rfl (Nat.le_of_ble_eq_true rfl) ⟨Nat.le_of_ble_eq_true rfl, Nat.le_of_ble_eq_true rfl⟩ ⟨rfl, rfl⟩ ⟨Nat.zero_le _, Nat.zero_le _⟩ dX3_poleWidth_5 ?_
  refine va_mmax hx hb (hml.trans hl.1.symm) hown (hts (.methodLink RX3 195 Lib.Math.max.name) (List.mem_of_getElem? (i := 1) rfl)) (hts (.static Lib.Math.max.name) (List.mem_of_getElem? (i := 2) rfl)) (hts (.initialized "java/lang/Math") (List.mem_of_getElem? (i := 3) rfl)) (hts (.code Lib.Math.max.name Lib.Math.max.code 2 (some .int)) (List.mem_of_getElem? (i := 4) rfl)) (Nat.le_of_ble_eq_true rfl) (Nat.le_of_ble_eq_true rfl) (Nat.zero_le _) (Nat.zero_le _) dX3_poleWidth_8 ?_
  exact ro_ret hx hb hr hlocks dX3_poleWidth_11 (by exact j_pw hq hp)

theorem nd_X3_isWave : okName yX3_isWave 1 := by decide +kernel
set_option maxHeartbeats 4000000 in
set_option maxRecDepth 100000 in
theorem k_X3_isWave (l : Launch) (D : va_G) (cI cZ : ClassId) (n : Int32) : RO l yX3_isWave wsX3_isWave ({ frames := 1, cells := 0, slots := 0, locals := 22 } : Room) D cI cZ [] [.int n] (jIn n 1 99) := by
  refine ro_start (by decide) rfl (Nat.le_of_ble_eq_true rfl) ?_
  intro p e s m args below meth c hx hb hr hml hlocks hts hown hT hP ls hl
  have hown : s.vm.findClass RX3 = some m.cls := hown
  have hl : lv_has ls 1 [(0, .int n)] := hl
  refine lv_iload_n hx hb dX3_isWave_0 rfl (lv_at hl 0 rfl) ?_
  refine lv_iconst (v := 1) hx hb dX3_isWave_1 (by decide) ?_
  refine lv_bipush (v := 99) hx hb dX3_isWave_2 (by decide) ?_
  refine ro_S (As := [.int n, .int 1, .int 99]) (rest := []) ⟨hx, hb, hml, hown, hts⟩ hT hP (k_X3_isWithin l D cI cZ n 1 99) gX3_isWave_X3_isWithin rfl nd_X3_isWithin [] rfl hl.1 rfl rfl (Nat.le_of_ble_eq_true rfl) ⟨Nat.le_of_ble_eq_true rfl, Nat.le_of_ble_eq_true rfl⟩ ⟨rfl, rfl⟩ ⟨Nat.zero_le _, Nat.zero_le _⟩ dX3_isWave_4 ?_
  exact ro_retz hx hb hr hlocks dX3_isWave_7 (by rfl) (by exact jIn01 _ _ _)

set_option maxRecDepth 20000 in
theorem hi_X1_turnOf_X1 : ∀ w ∈ wsX10, w ∈ wsX1_turnOf := by
  intro w h
  unfold wsX1_turnOf
  simp only [List.mem_cons, List.mem_append, h, or_true, true_or]
theorem nd_X1_turnOf : okName yX1_turnOf 1 := by decide +kernel
set_option maxHeartbeats 4000000 in
set_option maxRecDepth 100000 in
theorem k_X1_turnOf (l : Launch) (D : va_G) (cI cZ : ClassId) (aM : Nat) (Q : Nat) (P : Nat) (M : Nat) (Wd : Nat) (k : Nat) (hv : MV Q P M Wd) (hk : k < 1000) : RO l yX1_turnOf wsX1_turnOf ({ frames := 1, cells := 0, slots := 0, locals := 22 } : Room) D cI cZ [(aM, .inr (1, [.int (nI Q), .int (nI P), .int (nI M), .int (nI Wd), .int (nI (tT Q P)), .int (nI (tN Q P))]))] [.ref aM, .int (nI k)] (nI (tn Q P k)) := by
  refine ro_start (by decide) rfl (Nat.le_of_ble_eq_true rfl) ?_
  intro p e s m args below meth c hx hb hr hml hlocks hts hown hT hP ls hl
  have hown : s.vm.findClass RX1 = some m.cls := hown
  have hl : lv_has ls 2 [(0, .ref aM), (1, .int (nI k))] := hl
  refine lv_iload_n hx hb dX1_turnOf_0 rfl (lv_at hl 1 rfl) ?_
  refine lv_aload_n hx hb dX1_turnOf_1 rfl (lv_at hl 0 rfl) ?_
  refine va_get (D := D) (ci := 1) (v := .int (nI P)) (C := RX1) (T := TX1) (N := 6) hx hb hts hi_X1_turnOf_X1 hown hT.1 hP 0 rfl rfl 1 (by decide) (hts (.fieldLink RX1 13 "SlotStar$Machine" "pairs" "I") (List.mem_of_getElem? (i := 1) rfl)) (fun _ h9 => h9) rfl dX1_turnOf_2 ?_
  refine lv_imul hx hb dX1_turnOf_5 ?_
  refine lv_aload_n hx hb dX1_turnOf_6 rfl (lv_at hl 0 rfl) ?_
  refine va_get (D := D) (ci := 1) (v := .int (nI Q)) (C := RX1) (T := TX1) (N := 6) hx hb hts hi_X1_turnOf_X1 hown hT.1 hP 0 rfl rfl 0 (by decide) (hts (.fieldLink RX1 7 "SlotStar$Machine" "slots" "I") (List.mem_of_getElem? (i := 2) rfl)) (fun _ h9 => h9) rfl dX1_turnOf_7 ?_
  refine ro_N (As := [.int ((nI k) * (nI P)), .int (nI Q)]) (rest := []) ⟨hx, hb, hml, hown, hts⟩ hT hP (k_X3_leftOver l D cI cZ ((nI k) * (nI P)) (nI Q)) (List.mem_of_getElem? (i := 5) rfl) gX1_turnOf_X3_leftOver_n41 (hts (.initialized RX3) (List.mem_of_getElem? (i := 5) rfl)) (hts (.static yX3_leftOver) (List.mem_of_getElem? (i := 4) rfl)) rfl nd_X3_leftOver [] rfl hl.1 rfl rfl (Nat.le_of_ble_eq_true rfl) ⟨Nat.le_of_ble_eq_true rfl, Nat.le_of_ble_eq_true rfl⟩ ⟨rfl, rfl⟩ ⟨Nat.zero_le _, Nat.zero_le _⟩ dX1_turnOf_10 ?_
  refine lv_aload_n hx hb dX1_turnOf_13 rfl (lv_at hl 0 rfl) ?_
  refine va_get (D := D) (ci := 1) (v := .int (nI (tT Q P))) (C := RX1) (T := TX1) (N := 6) hx hb hts hi_X1_turnOf_X1 hown hT.1 hP 0 rfl rfl 4 (by decide) (hts (.fieldLink RX1 28 "SlotStar$Machine" "copies" "I") (List.mem_of_getElem? (i := 3) rfl)) (fun _ h9 => h9) rfl dX1_turnOf_14 ?_
  refine ro_N (As := [.int (jLO ((nI k) * (nI P)) (nI Q)), .int (nI (tT Q P))]) (rest := []) ⟨hx, hb, hml, hown, hts⟩ hT hP (k_X3_cut l D cI cZ (jLO ((nI k) * (nI P)) (nI Q)) (nI (tT Q P))) (List.mem_of_getElem? (i := 4) rfl) gX1_turnOf_X3_cut_n31 (hts (.initialized RX3) (List.mem_of_getElem? (i := 5) rfl)) (hts (.static yX3_cut) (List.mem_of_getElem? (i := 7) rfl)) rfl nd_X3_cut [] rfl hl.1 rfl rfl (Nat.le_of_ble_eq_true rfl) ⟨Nat.le_of_ble_eq_true rfl, Nat.le_of_ble_eq_true rfl⟩ ⟨rfl, rfl⟩ ⟨Nat.zero_le _, Nat.zero_le _⟩ dX1_turnOf_17 ?_
  exact ro_ret hx hb hr hlocks dX1_turnOf_20 (by exact j_turn hv hk)

set_option maxRecDepth 20000 in
theorem hi_X1_copyOf_X1 : ∀ w ∈ wsX10, w ∈ wsX1_copyOf := by
  intro w h
  unfold wsX1_copyOf
  simp only [List.mem_cons, List.mem_append, h, or_true, true_or]
theorem nd_X1_copyOf : okName yX1_copyOf 1 := by decide +kernel
set_option maxHeartbeats 4000000 in
set_option maxRecDepth 100000 in
theorem k_X1_copyOf (l : Launch) (D : va_G) (cI cZ : ClassId) (aM : Nat) (Q : Nat) (P : Nat) (M : Nat) (Wd : Nat) (k : Nat) (hv : MV Q P M Wd) (hk : k < 1000) : RO l yX1_copyOf wsX1_copyOf ({ frames := 1, cells := 0, slots := 0, locals := 21 } : Room) D cI cZ [(aM, .inr (1, [.int (nI Q), .int (nI P), .int (nI M), .int (nI Wd), .int (nI (tT Q P)), .int (nI (tN Q P))]))] [.ref aM, .int (nI k)] (nI (k / tN Q P)) := by
  refine ro_start (by decide) rfl (Nat.le_of_ble_eq_true rfl) ?_
  intro p e s m args below meth c hx hb hr hml hlocks hts hown hT hP ls hl
  have hown : s.vm.findClass RX1 = some m.cls := hown
  have hl : lv_has ls 2 [(0, .ref aM), (1, .int (nI k))] := hl
  refine lv_iload_n hx hb dX1_copyOf_0 rfl (lv_at hl 1 rfl) ?_
  refine lv_aload_n hx hb dX1_copyOf_1 rfl (lv_at hl 0 rfl) ?_
  refine va_get (D := D) (ci := 1) (v := .int (nI (tN Q P))) (C := RX1) (T := TX1) (N := 6) hx hb hts hi_X1_copyOf_X1 hown hT.1 hP 0 rfl rfl 5 (by decide) (hts (.fieldLink RX1 34 "SlotStar$Machine" "turns" "I") (List.mem_of_getElem? (i := 1) rfl)) (fun _ h9 => h9) rfl dX1_copyOf_2 ?_
  refine ro_N (As := [.int (nI k), .int (nI (tN Q P))]) (rest := []) ⟨hx, hb, hml, hown, hts⟩ hT hP (k_X3_cut l D cI cZ (nI k) (nI (tN Q P))) (List.mem_of_getElem? (i := 4) rfl) gX1_copyOf_X3_cut_n31 (hts (.initialized RX3) (List.mem_of_getElem? (i := 3) rfl)) (hts (.static yX3_cut) (List.mem_of_getElem? (i := 2) rfl)) rfl nd_X3_cut [] rfl hl.1 rfl rfl (Nat.le_of_ble_eq_true rfl) ⟨Nat.le_of_ble_eq_true rfl, Nat.le_of_ble_eq_true rfl⟩ ⟨rfl, rfl⟩ ⟨Nat.zero_le _, Nat.zero_le _⟩ dX1_copyOf_5 ?_
  exact ro_ret hx hb hr hlocks dX1_copyOf_8 (by exact jCut_nI (by omega) (tN_pos hv) (by have := tN_le hv; omega))

set_option maxRecDepth 20000 in
theorem hi_X1_zoneOf_X1 : ∀ w ∈ wsX10, w ∈ wsX1_zoneOf := by
  intro w h
  unfold wsX1_zoneOf
  simp only [List.mem_cons, List.mem_append, h, or_true, true_or]
theorem nd_X1_zoneOf : okName yX1_zoneOf 1 := by decide +kernel
set_option maxHeartbeats 4000000 in
set_option maxRecDepth 100000 in
theorem k_X1_zoneOf (l : Launch) (D : va_G) (cI cZ : ClassId) (aM : Nat) (Q : Nat) (P : Nat) (M : Nat) (Wd : Nat) (k : Nat) (hv : MV Q P M Wd) (hk : k < 1000) : RO l yX1_zoneOf wsX1_zoneOf ({ frames := 2, cells := 0, slots := 0, locals := 43 } : Room) D cI cZ [(aM, .inr (1, [.int (nI Q), .int (nI P), .int (nI M), .int (nI Wd), .int (nI (tT Q P)), .int (nI (tN Q P))]))] [.ref aM, .int (nI k)] (nI (zn Q P M k)) := by
  refine ro_start (by decide) rfl (Nat.le_of_ble_eq_true rfl) ?_
  intro p e s m args below meth c hx hb hr hml hlocks hts hown hT hP ls hl
  have hown : s.vm.findClass RX1 = some m.cls := hown
  have hl : lv_has ls 2 [(0, .ref aM), (1, .int (nI k))] := hl
  refine lv_iconst (v := 2) hx hb dX1_zoneOf_0 (by decide) ?_
  refine lv_aload_n hx hb dX1_zoneOf_1 rfl (lv_at hl 0 rfl) ?_
  refine va_get (D := D) (ci := 1) (v := .int (nI M)) (C := RX1) (T := TX1) (N := 6) hx hb hts hi_X1_zoneOf_X1 hown hT.1 hP 0 rfl rfl 2 (by decide) (hts (.fieldLink RX1 16 "SlotStar$Machine" "phases" "I") (List.mem_of_getElem? (i := 1) rfl)) (fun _ h9 => h9) rfl dX1_zoneOf_2 ?_
  refine lv_imul hx hb dX1_zoneOf_5 ?_
  refine lv_aload_n hx hb dX1_zoneOf_6 rfl (lv_at hl 0 rfl) ?_
  refine lv_iload_n hx hb dX1_zoneOf_7 rfl (lv_at hl 1 rfl) ?_
  refine ro_V (As := [.int (nI k)]) (rest := [.int (2 * (nI M))]) ⟨hx, hb, hml, hown, hts⟩ hT hP (k_X1_turnOf l D cI cZ aM Q P M Wd k hv hk) gX1_zoneOf_X1_turnOf rfl rfl nd_X1_turnOf [0] rfl (ci := 1) rfl rfl (q0 := 0) rfl hl.1 rfl rfl (Nat.le_of_ble_eq_true rfl) ⟨Nat.le_of_ble_eq_true rfl, Nat.le_of_ble_eq_true rfl⟩ ⟨rfl, rfl⟩ ⟨Nat.zero_le _, Nat.zero_le _⟩ dX1_zoneOf_8 ?_
  refine lv_imul hx hb dX1_zoneOf_11 ?_
  refine lv_aload_n hx hb dX1_zoneOf_12 rfl (lv_at hl 0 rfl) ?_
  refine va_get (D := D) (ci := 1) (v := .int (nI (tN Q P))) (C := RX1) (T := TX1) (N := 6) hx hb hts hi_X1_zoneOf_X1 hown hT.1 hP 0 rfl rfl 5 (by decide) (hts (.fieldLink RX1 34 "SlotStar$Machine" "turns" "I") (List.mem_of_getElem? (i := 2) rfl)) (fun _ h9 => h9) rfl dX1_zoneOf_13 ?_
  refine ro_N (As := [.int ((2 * (nI M)) * (nI (tn Q P k))), .int (nI (tN Q P))]) (rest := []) ⟨hx, hb, hml, hown, hts⟩ hT hP (k_X3_cut l D cI cZ ((2 * (nI M)) * (nI (tn Q P k))) (nI (tN Q P))) (List.mem_of_getElem? (i := 4) rfl) gX1_zoneOf_X3_cut_n31 (hts (.initialized RX3) (List.mem_of_getElem? (i := 12) rfl)) (hts (.static yX3_cut) (List.mem_of_getElem? (i := 14) rfl)) rfl nd_X3_cut [] rfl hl.1 rfl rfl (Nat.le_of_ble_eq_true rfl) ⟨Nat.le_of_ble_eq_true rfl, Nat.le_of_ble_eq_true rfl⟩ ⟨rfl, rfl⟩ ⟨Nat.zero_le _, Nat.zero_le _⟩ dX1_zoneOf_16 ?_
  exact ro_ret hx hb hr hlocks dX1_zoneOf_19 (by exact j_zone hv)

theorem nd_X1_isForward : okName yX1_isForward 1 := by decide +kernel
set_option maxHeartbeats 4000000 in
set_option maxRecDepth 100000 in
theorem k_X1_isForward (l : Launch) (D : va_G) (cI cZ : ClassId) (aM : Nat) (Q : Nat) (P : Nat) (M : Nat) (Wd : Nat) (k : Nat) (hv : MV Q P M Wd) (hk : k < 1000) : RO l yX1_isForward wsX1_isForward ({ frames := 3, cells := 0, slots := 0, locals := 64 } : Room) D cI cZ [(aM, .inr (1, [.int (nI Q), .int (nI P), .int (nI M), .int (nI Wd), .int (nI (tT Q P)), .int (nI (tN Q P))]))] [.ref aM, .int (nI k)] (fwd Q P M k) := by
  refine ro_start (by decide) rfl (Nat.le_of_ble_eq_true rfl) ?_
  intro p e s m args below meth c hx hb hr hml hlocks hts hown hT hP ls hl
  have hown : s.vm.findClass RX1 = some m.cls := hown
  have hl : lv_has ls 2 [(0, .ref aM), (1, .int (nI k))] := hl
  refine lv_aload_n hx hb dX1_isForward_0 rfl (lv_at hl 0 rfl) ?_
  refine lv_iload_n hx hb dX1_isForward_1 rfl (lv_at hl 1 rfl) ?_
  refine ro_V (As := [.int (nI k)]) (rest := []) ⟨hx, hb, hml, hown, hts⟩ hT hP (k_X1_zoneOf l D cI cZ aM Q P M Wd k hv hk) gX1_isForward_X1_zoneOf rfl rfl nd_X1_zoneOf [0] rfl (ci := 1) rfl rfl (q0 := 0) rfl hl.1 rfl rfl (Nat.le_of_ble_eq_true rfl) ⟨Nat.le_of_ble_eq_true rfl, Nat.le_of_ble_eq_true rfl⟩ ⟨rfl, rfl⟩ ⟨Nat.zero_le _, Nat.zero_le _⟩ dX1_isForward_2 ?_
  refine lv_iconst (v := 2) hx hb dX1_isForward_5 (by decide) ?_
  refine ro_N (As := [.int (nI (zn Q P M k)), .int 2]) (rest := []) ⟨hx, hb, hml, hown, hts⟩ hT hP (k_X3_leftOver l D cI cZ (nI (zn Q P M k)) 2) (List.mem_of_getElem? (i := 5) rfl) gX1_isForward_X3_leftOver_n41 (hts (.initialized RX3) (List.mem_of_getElem? (i := 16) rfl)) (hts (.static yX3_leftOver) (List.mem_of_getElem? (i := 15) rfl)) rfl nd_X3_leftOver [] rfl hl.1 rfl rfl (Nat.le_of_ble_eq_true rfl) ⟨Nat.le_of_ble_eq_true rfl, Nat.le_of_ble_eq_true rfl⟩ ⟨rfl, rfl⟩ ⟨Nat.zero_le _, Nat.zero_le _⟩ dX1_isForward_6 ?_
  refine lv_if_ne (tgt := 16) hx hb dX1_isForward_9 (by decide) (fun c_1 => ?_) (fun c_1 => ?_)
  · skip
    refine lv_iconst (v := 0) hx hb dX1_isForward_16 (by decide) ?_
    exact ro_retz hx hb hr hlocks dX1_isForward_17 (by first | exact j_fwd1 hv c_1 | exact j_fwd0 hv c_1) (by exact fwd01 _ _ _ _)
  · skip
    refine lv_iconst (v := 1) hx hb dX1_isForward_12 (by decide) ?_
    refine lv_goto (tgt := 17) hx hb dX1_isForward_13 (by decide) ?_
    exact ro_retz hx hb hr hlocks dX1_isForward_17 (by first | exact j_fwd1 hv c_1 | exact j_fwd0 hv c_1) (by exact fwd01 _ _ _ _)

set_option maxRecDepth 20000 in
theorem hi_X1_phaseOf_X1 : ∀ w ∈ wsX10, w ∈ wsX1_phaseOf := by
  intro w h
  unfold wsX1_phaseOf
  simp only [List.mem_cons, List.mem_append, h, or_true, true_or]
theorem nd_X1_phaseOf : okName yX1_phaseOf 1 := by decide +kernel
set_option maxHeartbeats 4000000 in
set_option maxRecDepth 100000 in
theorem k_X1_phaseOf (l : Launch) (D : va_G) (cI cZ : ClassId) (aM : Nat) (Q : Nat) (P : Nat) (M : Nat) (Wd : Nat) (k : Nat) (hv : MV Q P M Wd) (hk : k < 1000) : RO l yX1_phaseOf wsX1_phaseOf ({ frames := 3, cells := 0, slots := 0, locals := 64 } : Room) D cI cZ [(aM, .inr (1, [.int (nI Q), .int (nI P), .int (nI M), .int (nI Wd), .int (nI (tT Q P)), .int (nI (tN Q P))]))] [.ref aM, .int (nI k)] (nI (ph Q P M k)) := by
  refine ro_start (by decide) rfl (Nat.le_of_ble_eq_true rfl) ?_
  intro p e s m args below meth c hx hb hr hml hlocks hts hown hT hP ls hl
  have hown : s.vm.findClass RX1 = some m.cls := hown
  have hl : lv_has ls 3 [(0, .ref aM), (1, .int (nI k))] := hl
  refine lv_aload_n hx hb dX1_phaseOf_0 rfl (lv_at hl 0 rfl) ?_
  refine lv_iload_n hx hb dX1_phaseOf_1 rfl (lv_at hl 1 rfl) ?_
  refine ro_V (As := [.int (nI k)]) (rest := []) ⟨hx, hb, hml, hown, hts⟩ hT hP (k_X1_zoneOf l D cI cZ aM Q P M Wd k hv hk) gX1_phaseOf_X1_zoneOf rfl rfl nd_X1_zoneOf [0] rfl (ci := 1) rfl rfl (q0 := 0) rfl hl.1 rfl rfl (Nat.le_of_ble_eq_true rfl) ⟨Nat.le_of_ble_eq_true rfl, Nat.le_of_ble_eq_true rfl⟩ ⟨rfl, rfl⟩ ⟨Nat.zero_le _, Nat.zero_le _⟩ dX1_phaseOf_2 ?_
  refine lv_istore_n (lv' := [(2, .int (nI (zn Q P M k))), (0, .ref aM), (1, .int (nI k))]) hx hb dX1_phaseOf_5 rfl hl (by decide) rfl (fun ls hl => ?_)
  refine lv_iload_n hx hb dX1_phaseOf_6 rfl (lv_at hl 0 rfl) ?_
  refine lv_iconst (v := 2) hx hb dX1_phaseOf_7 (by decide) ?_
  refine ro_N (As := [.int (nI (zn Q P M k)), .int 2]) (rest := []) ⟨hx, hb, hml, hown, hts⟩ hT hP (k_X3_leftOver l D cI cZ (nI (zn Q P M k)) 2) (List.mem_of_getElem? (i := 5) rfl) gX1_phaseOf_X3_leftOver_n41 (hts (.initialized RX3) (List.mem_of_getElem? (i := 16) rfl)) (hts (.static yX3_leftOver) (List.mem_of_getElem? (i := 15) rfl)) rfl nd_X3_leftOver [] rfl hl.1 rfl rfl (Nat.le_of_ble_eq_true rfl) ⟨Nat.le_of_ble_eq_true rfl, Nat.le_of_ble_eq_true rfl⟩ ⟨rfl, rfl⟩ ⟨Nat.zero_le _, Nat.zero_le _⟩ dX1_phaseOf_8 ?_
  refine lv_if_ne (tgt := 22) hx hb dX1_phaseOf_11 (by decide) (fun c_1 => ?_) (fun c_1 => ?_)
  · skip
    refine lv_iload_n hx hb dX1_phaseOf_22 rfl (lv_at hl 0 rfl) ?_
    refine lv_aload_n hx hb dX1_phaseOf_23 rfl (lv_at hl 1 rfl) ?_
    refine va_get (D := D) (ci := 1) (v := .int (nI M)) (C := RX1) (T := TX1) (N := 6) hx hb hts hi_X1_phaseOf_X1 hown hT.1 hP 0 rfl rfl 2 (by decide) (hts (.fieldLink RX1 16 "SlotStar$Machine" "phases" "I") (List.mem_of_getElem? (i := 1) rfl)) (fun _ h9 => h9) rfl dX1_phaseOf_24 ?_
    refine lv_iadd hx hb dX1_phaseOf_27 ?_
    refine lv_iconst (v := 2) hx hb dX1_phaseOf_28 (by decide) ?_
    refine ro_N (As := [.int ((nI (zn Q P M k)) + (nI M)), .int 2]) (rest := []) ⟨hx, hb, hml, hown, hts⟩ hT hP (k_X3_cut l D cI cZ ((nI (zn Q P M k)) + (nI M)) 2) (List.mem_of_getElem? (i := 4) rfl) gX1_phaseOf_X3_cut_n31 (hts (.initialized RX3) (List.mem_of_getElem? (i := 16) rfl)) (hts (.static yX3_cut) (List.mem_of_getElem? (i := 18) rfl)) rfl nd_X3_cut [] rfl hl.1 rfl rfl (Nat.le_of_ble_eq_true rfl) ⟨Nat.le_of_ble_eq_true rfl, Nat.le_of_ble_eq_true rfl⟩ ⟨rfl, rfl⟩ ⟨Nat.zero_le _, Nat.zero_le _⟩ dX1_phaseOf_29 ?_
    refine lv_aload_n hx hb dX1_phaseOf_32 rfl (lv_at hl 1 rfl) ?_
    refine va_get (D := D) (ci := 1) (v := .int (nI M)) (C := RX1) (T := TX1) (N := 6) hx hb hts hi_X1_phaseOf_X1 hown hT.1 hP 0 rfl rfl 2 (by decide) (hts (.fieldLink RX1 16 "SlotStar$Machine" "phases" "I") (List.mem_of_getElem? (i := 1) rfl)) (fun _ h9 => h9) rfl dX1_phaseOf_33 ?_
    refine ro_N (As := [.int (jCut ((nI (zn Q P M k)) + (nI M)) 2), .int (nI M)]) (rest := []) ⟨hx, hb, hml, hown, hts⟩ hT hP (k_X3_leftOver l D cI cZ (jCut ((nI (zn Q P M k)) + (nI M)) 2) (nI M)) (List.mem_of_getElem? (i := 5) rfl) gX1_phaseOf_X3_leftOver_n41 (hts (.initialized RX3) (List.mem_of_getElem? (i := 16) rfl)) (hts (.static yX3_leftOver) (List.mem_of_getElem? (i := 15) rfl)) rfl nd_X3_leftOver [] rfl hl.1 rfl rfl (Nat.le_of_ble_eq_true rfl) ⟨Nat.le_of_ble_eq_true rfl, Nat.le_of_ble_eq_true rfl⟩ ⟨rfl, rfl⟩ ⟨Nat.zero_le _, Nat.zero_le _⟩ dX1_phaseOf_36 ?_
    exact ro_ret hx hb hr hlocks dX1_phaseOf_39 (by first | exact j_ph0 hv c_1 | exact j_ph1 hv c_1)
  · skip
    refine lv_iload_n hx hb dX1_phaseOf_14 rfl (lv_at hl 0 rfl) ?_
    refine lv_iconst (v := 2) hx hb dX1_phaseOf_15 (by decide) ?_
    refine ro_N (As := [.int (nI (zn Q P M k)), .int 2]) (rest := []) ⟨hx, hb, hml, hown, hts⟩ hT hP (k_X3_cut l D cI cZ (nI (zn Q P M k)) 2) (List.mem_of_getElem? (i := 4) rfl) gX1_phaseOf_X3_cut_n31 (hts (.initialized RX3) (List.mem_of_getElem? (i := 16) rfl)) (hts (.static yX3_cut) (List.mem_of_getElem? (i := 18) rfl)) rfl nd_X3_cut [] rfl hl.1 rfl rfl (Nat.le_of_ble_eq_true rfl) ⟨Nat.le_of_ble_eq_true rfl, Nat.le_of_ble_eq_true rfl⟩ ⟨rfl, rfl⟩ ⟨Nat.zero_le _, Nat.zero_le _⟩ dX1_phaseOf_16 ?_
    refine lv_goto (tgt := 39) hx hb dX1_phaseOf_19 (by decide) ?_
    exact ro_ret hx hb hr hlocks dX1_phaseOf_39 (by first | exact j_ph0 hv c_1 | exact j_ph1 hv c_1)

set_option maxRecDepth 20000 in
theorem hi_X1_endOf_X1 : ∀ w ∈ wsX10, w ∈ wsX1_endOf := by
  intro w h
  unfold wsX1_endOf
  simp only [List.mem_cons, List.mem_append, h, or_true, true_or]
theorem nd_X1_endOf : okName yX1_endOf 2 := by decide +kernel
set_option maxHeartbeats 4000000 in
set_option maxRecDepth 100000 in
theorem k_X1_endOf (l : Launch) (D : va_G) (cI cZ : ClassId) (aM : Nat) (Q : Nat) (P : Nat) (M : Nat) (Wd : Nat) (k : Nat) (w : Nat) (hv : MV Q P M Wd) (hk : k < 1000) (hw : w < 1000) : RO l yX1_endOf wsX1_endOf ({ frames := 1, cells := 0, slots := 0, locals := 22 } : Room) D cI cZ [(aM, .inr (1, [.int (nI Q), .int (nI P), .int (nI M), .int (nI Wd), .int (nI (tT Q P)), .int (nI (tN Q P))]))] [.ref aM, .int (nI k), .int (nI w)] (nI (en Q k w)) := by
  refine ro_start (by decide) rfl (Nat.le_of_ble_eq_true rfl) ?_
  intro p e s m args below meth c hx hb hr hml hlocks hts hown hT hP ls hl
  have hown : s.vm.findClass RX1 = some m.cls := hown
  have hl : lv_has ls 3 [(0, .ref aM), (1, .int (nI k)), (2, .int (nI w))] := hl
  refine lv_iload_n hx hb dX1_endOf_0 rfl (lv_at hl 1 rfl) ?_
  refine lv_iload_n hx hb dX1_endOf_1 rfl (lv_at hl 2 rfl) ?_
  refine lv_iadd hx hb dX1_endOf_2 ?_
  refine lv_aload_n hx hb dX1_endOf_3 rfl (lv_at hl 0 rfl) ?_
  refine va_get (D := D) (ci := 1) (v := .int (nI Q)) (C := RX1) (T := TX1) (N := 6) hx hb hts hi_X1_endOf_X1 hown hT.1 hP 0 rfl rfl 0 (by decide) (hts (.fieldLink RX1 7 "SlotStar$Machine" "slots" "I") (List.mem_of_getElem? (i := 1) rfl)) (fun _ h9 => h9) rfl dX1_endOf_4 ?_
  refine ro_N (As := [.int ((nI k) + (nI w)), .int (nI Q)]) (rest := []) ⟨hx, hb, hml, hown, hts⟩ hT hP (k_X3_leftOver l D cI cZ ((nI k) + (nI w)) (nI Q)) (List.mem_of_getElem? (i := 5) rfl) gX1_endOf_X3_leftOver_n41 (hts (.initialized RX3) (List.mem_of_getElem? (i := 3) rfl)) (hts (.static yX3_leftOver) (List.mem_of_getElem? (i := 2) rfl)) rfl nd_X3_leftOver [] rfl hl.1 rfl rfl (Nat.le_of_ble_eq_true rfl) ⟨Nat.le_of_ble_eq_true rfl, Nat.le_of_ble_eq_true rfl⟩ ⟨rfl, rfl⟩ ⟨Nat.zero_le _, Nat.zero_le _⟩ dX1_endOf_7 ?_
  exact ro_ret hx hb hr hlocks dX1_endOf_10 (by exact j_en hv hk hw)

set_option maxRecDepth 20000 in
theorem hi_X1_coilEndingIn_X1 : ∀ w ∈ wsX10, w ∈ wsX1_coilEndingIn := by
  intro w h
  unfold wsX1_coilEndingIn
  simp only [List.mem_cons, List.mem_append, h, or_true, true_or]
theorem nd_X1_coilEndingIn : okName yX1_coilEndingIn 1 := by decide +kernel
set_option maxHeartbeats 4000000 in
set_option maxRecDepth 100000 in
theorem k_X1_coilEndingIn (l : Launch) (D : va_G) (cI cZ : ClassId) (aM : Nat) (Q : Nat) (P : Nat) (M : Nat) (Wd : Nat) (k : Nat) (hv : MV Q P M Wd) (hk : k < Q) : RO l yX1_coilEndingIn wsX1_coilEndingIn ({ frames := 1, cells := 0, slots := 0, locals := 22 } : Room) D cI cZ [(aM, .inr (1, [.int (nI Q), .int (nI P), .int (nI M), .int (nI Wd), .int (nI (tT Q P)), .int (nI (tN Q P))]))] [.ref aM, .int (nI k)] (nI (be Q Wd k)) := by
  refine ro_start (by decide) rfl (Nat.le_of_ble_eq_true rfl) ?_
  intro p e s m args below meth c hx hb hr hml hlocks hts hown hT hP ls hl
  have hown : s.vm.findClass RX1 = some m.cls := hown
  have hl : lv_has ls 2 [(0, .ref aM), (1, .int (nI k))] := hl
  refine lv_iload_n hx hb dX1_coilEndingIn_0 rfl (lv_at hl 1 rfl) ?_
  refine lv_aload_n hx hb dX1_coilEndingIn_1 rfl (lv_at hl 0 rfl) ?_
  refine va_get (D := D) (ci := 1) (v := .int (nI Wd)) (C := RX1) (T := TX1) (N := 6) hx hb hts hi_X1_coilEndingIn_X1 hown hT.1 hP 0 rfl rfl 3 (by decide) (hts (.fieldLink RX1 19 "SlotStar$Machine" "width" "I") (List.mem_of_getElem? (i := 1) rfl)) (fun _ h9 => h9) rfl dX1_coilEndingIn_2 ?_
  refine lv_isub hx hb dX1_coilEndingIn_5 ?_
  refine lv_aload_n hx hb dX1_coilEndingIn_6 rfl (lv_at hl 0 rfl) ?_
  refine va_get (D := D) (ci := 1) (v := .int (nI Q)) (C := RX1) (T := TX1) (N := 6) hx hb hts hi_X1_coilEndingIn_X1 hown hT.1 hP 0 rfl rfl 0 (by decide) (hts (.fieldLink RX1 7 "SlotStar$Machine" "slots" "I") (List.mem_of_getElem? (i := 2) rfl)) (fun _ h9 => h9) rfl dX1_coilEndingIn_7 ?_
  refine ro_N (As := [.int ((nI k) - (nI Wd)), .int (nI Q)]) (rest := []) ⟨hx, hb, hml, hown, hts⟩ hT hP (k_X3_leftOver l D cI cZ ((nI k) - (nI Wd)) (nI Q)) (List.mem_of_getElem? (i := 5) rfl) gX1_coilEndingIn_X3_leftOver_n41 (hts (.initialized RX3) (List.mem_of_getElem? (i := 4) rfl)) (hts (.static yX3_leftOver) (List.mem_of_getElem? (i := 3) rfl)) rfl nd_X3_leftOver [] rfl hl.1 rfl rfl (Nat.le_of_ble_eq_true rfl) ⟨Nat.le_of_ble_eq_true rfl, Nat.le_of_ble_eq_true rfl⟩ ⟨rfl, rfl⟩ ⟨Nat.zero_le _, Nat.zero_le _⟩ dX1_coilEndingIn_10 ?_
  exact ro_ret hx hb hr hlocks dX1_coilEndingIn_13 (by exact j_be hv hk)

set_option maxRecDepth 20000 in
theorem hi_X1_lackingDivisor_X1 : ∀ w ∈ wsX10, w ∈ wsX1_lackingDivisor := by
  intro w h
  unfold wsX1_lackingDivisor
  simp only [List.mem_cons, List.mem_append, h, or_true, true_or]
theorem nd_X1_lackingDivisor : okName yX1_lackingDivisor 0 := by decide +kernel
set_option maxHeartbeats 4000000 in
set_option maxRecDepth 100000 in
theorem k_X1_lackingDivisor (l : Launch) (D : va_G) (cI cZ : ClassId) (aM : Nat) (Q : Nat) (P : Nat) (M : Nat) (Wd : Nat) (hv : MV Q P M Wd) : RO l yX1_lackingDivisor wsX1_lackingDivisor ({ frames := 2, cells := 0, slots := 0, locals := 44 } : Room) D cI cZ [(aM, .inr (1, [.int (nI Q), .int (nI P), .int (nI M), .int (nI Wd), .int (nI (tT Q P)), .int (nI (tN Q P))]))] [.ref aM] (nI (lck Q P M)) := by
  refine ro_start (by decide) rfl (Nat.le_of_ble_eq_true rfl) ?_
  intro p e s m args below meth c hx hb hr hml hlocks hts hown hT hP ls hl
  have hown : s.vm.findClass RX1 = some m.cls := hown
  have hl : lv_has ls 1 [(0, .ref aM)] := hl
  refine lv_aload_n hx hb dX1_lackingDivisor_0 rfl (lv_at hl 0 rfl) ?_
  refine va_get (D := D) (ci := 1) (v := .int (nI M)) (C := RX1) (T := TX1) (N := 6) hx hb hts hi_X1_lackingDivisor_X1 hown hT.1 hP 0 rfl rfl 2 (by decide) (hts (.fieldLink RX1 16 "SlotStar$Machine" "phases" "I") (List.mem_of_getElem? (i := 1) rfl)) (fun _ h9 => h9) rfl dX1_lackingDivisor_1 ?_
  refine lv_aload_n hx hb dX1_lackingDivisor_4 rfl (lv_at hl 0 rfl) ?_
  refine va_get (D := D) (ci := 1) (v := .int (nI (tN Q P))) (C := RX1) (T := TX1) (N := 6) hx hb hts hi_X1_lackingDivisor_X1 hown hT.1 hP 0 rfl rfl 5 (by decide) (hts (.fieldLink RX1 34 "SlotStar$Machine" "turns" "I") (List.mem_of_getElem? (i := 2) rfl)) (fun _ h9 => h9) rfl dX1_lackingDivisor_5 ?_
  refine lv_aload_n hx hb dX1_lackingDivisor_8 rfl (lv_at hl 0 rfl) ?_
  refine va_get (D := D) (ci := 1) (v := .int (nI M)) (C := RX1) (T := TX1) (N := 6) hx hb hts hi_X1_lackingDivisor_X1 hown hT.1 hP 0 rfl rfl 2 (by decide) (hts (.fieldLink RX1 16 "SlotStar$Machine" "phases" "I") (List.mem_of_getElem? (i := 1) rfl)) (fun _ h9 => h9) rfl dX1_lackingDivisor_9 ?_
  refine ro_N (As := [.int (nI (tN Q P)), .int (nI M)]) (rest := [.int (nI M)]) ⟨hx, hb, hml, hown, hts⟩ hT hP (k_X3_commonDivisor l D cI cZ (nI (tN Q P)) (nI M)) (List.mem_of_getElem? (i := 3) rfl) gX1_lackingDivisor_X3_commonDivisor_n22 (hts (.initialized RX3) (List.mem_of_getElem? (i := 4) rfl)) (hts (.static yX3_commonDivisor) (List.mem_of_getElem? (i := 3) rfl)) rfl nd_X3_commonDivisor [] rfl hl.1 rfl rfl (Nat.le_of_ble_eq_true rfl) ⟨Nat.le_of_ble_eq_true rfl, Nat.le_of_ble_eq_true rfl⟩ ⟨rfl, rfl⟩ ⟨Nat.zero_le _, Nat.zero_le _⟩ dX1_lackingDivisor_12 ?_
  refine ro_N (As := [.int (nI M), .int (jCD (nI (tN Q P)) (nI M))]) (rest := []) ⟨hx, hb, hml, hown, hts⟩ hT hP (k_X3_cut l D cI cZ (nI M) (jCD (nI (tN Q P)) (nI M))) (List.mem_of_getElem? (i := 4) rfl) gX1_lackingDivisor_X3_cut_n31 (hts (.initialized RX3) (List.mem_of_getElem? (i := 4) rfl)) (hts (.static yX3_cut) (List.mem_of_getElem? (i := 13) rfl)) rfl nd_X3_cut [] rfl hl.1 rfl rfl (Nat.le_of_ble_eq_true rfl) ⟨Nat.le_of_ble_eq_true rfl, Nat.le_of_ble_eq_true rfl⟩ ⟨rfl, rfl⟩ ⟨Nat.zero_le _, Nat.zero_le _⟩ dX1_lackingDivisor_15 ?_
  exact ro_ret hx hb hr hlocks dX1_lackingDivisor_18 (by exact j_lck hv)

theorem nd_X1_isBalanced : okName yX1_isBalanced 0 := by decide +kernel
set_option maxHeartbeats 4000000 in
set_option maxRecDepth 100000 in
theorem k_X1_isBalanced (l : Launch) (D : va_G) (cI cZ : ClassId) (aM : Nat) (Q : Nat) (P : Nat) (M : Nat) (Wd : Nat) (hv : MV Q P M Wd) : RO l yX1_isBalanced wsX1_isBalanced ({ frames := 3, cells := 0, slots := 0, locals := 64 } : Room) D cI cZ [(aM, .inr (1, [.int (nI Q), .int (nI P), .int (nI M), .int (nI Wd), .int (nI (tT Q P)), .int (nI (tN Q P))]))] [.ref aM] (bal Q P M) := by
  refine ro_start (by decide) rfl (Nat.le_of_ble_eq_true rfl) ?_
  intro p e s m args below meth c hx hb hr hml hlocks hts hown hT hP ls hl
  have hown : s.vm.findClass RX1 = some m.cls := hown
  have hl : lv_has ls 1 [(0, .ref aM)] := hl
  refine lv_aload_n hx hb dX1_isBalanced_0 rfl (lv_at hl 0 rfl) ?_
  refine ro_V (As := []) (rest := []) ⟨hx, hb, hml, hown, hts⟩ hT hP (k_X1_lackingDivisor l D cI cZ aM Q P M Wd hv) gX1_isBalanced_X1_lackingDivisor rfl rfl nd_X1_lackingDivisor [0] rfl (ci := 1) rfl rfl (q0 := 0) rfl hl.1 rfl rfl (Nat.le_of_ble_eq_true rfl) ⟨Nat.le_of_ble_eq_true rfl, Nat.le_of_ble_eq_true rfl⟩ ⟨rfl, rfl⟩ ⟨Nat.zero_le _, Nat.zero_le _⟩ dX1_isBalanced_1 ?_
  refine lv_iconst (v := 1) hx hb dX1_isBalanced_4 (by decide) ?_
  refine lv_icmp_ne (tgt := 12) hx hb dX1_isBalanced_5 (by decide) (fun c_1 => ?_) (fun c_1 => ?_)
  · skip
    refine lv_iconst (v := 0) hx hb dX1_isBalanced_12 (by decide) ?_
    exact ro_retz hx hb hr hlocks dX1_isBalanced_13 (by first | exact j_bal hv c_1 | exact j_nbal hv c_1) (by exact bal01 _ _ _)
  · skip
    refine lv_iconst (v := 1) hx hb dX1_isBalanced_8 (by decide) ?_
    refine lv_goto (tgt := 13) hx hb dX1_isBalanced_9 (by decide) ?_
    exact ro_retz hx hb hr hlocks dX1_isBalanced_13 (by first | exact j_bal hv c_1 | exact j_nbal hv c_1) (by exact bal01 _ _ _)

set_option maxRecDepth 20000 in
theorem hi_X1_countSides_X1 : ∀ w ∈ wsX10, w ∈ wsX1_countSides := by
  intro w h
  unfold wsX1_countSides
  simp only [List.mem_cons, List.mem_append, h, or_true, true_or]
theorem nd_X1_countSides : okName yX1_countSides 2 := by decide +kernel
set_option maxHeartbeats 4000000 in
set_option maxRecDepth 100000 in
theorem k_X1_countSides (l : Launch) (D : va_G) (cI cZ : ClassId) (aM : Nat) (Q : Nat) (P : Nat) (M : Nat) (Wd : Nat) (a : Int32) (b : Int32) (hv : MV Q P M Wd) : RO l yX1_countSides wsX1_countSides ({ frames := 4, cells := 0, slots := 0, locals := 86 } : Room) D cI cZ [(aM, .inr (1, [.int (nI Q), .int (nI P), .int (nI M), .int (nI Wd), .int (nI (tT Q P)), .int (nI (tN Q P))]))] [.ref aM, .int a, .int b] (csL Q P M a b Q 0 0) := by
  refine ro_start (by decide) rfl (Nat.le_of_ble_eq_true rfl) ?_
  intro p e s m args below meth c hx hb hr hml hlocks hts hown hT hP ls hl
  have hown : s.vm.findClass RX1 = some m.cls := hown
  have hl : lv_has ls 5 [(0, .ref aM), (1, .int a), (2, .int b)] := hl
  have hv' := hv
  unfold MV at hv'
  refine lv_iconst (v := 0) hx hb dX1_countSides_0 (by decide) ?_
  refine lv_istore_n (lv' := [(3, .int 0), (0, .ref aM), (1, .int a), (2, .int b)]) hx hb dX1_countSides_1 rfl hl (by decide) rfl (fun ls hl => ?_)
  refine lv_iconst (v := 0) hx hb dX1_countSides_2 (by decide) ?_
  refine lv_istore (lv' := [(4, .int 0), (3, .int 0), (0, .ref aM), (1, .int a), (2, .int b)]) hx hb dX1_countSides_3 hl (by decide) rfl (fun ls hl => ?_)
  have L_5 : ∀ (f : Nat) (i : Nat) (n : Int32), i + f = Q → csL Q P M a b Q 0 0 = csL Q P M a b f i n → ∀ ls : Array Slot, lv_has ls 5 [(0, .ref aM), (1, .int a), (2, .int b), (3, .int n), (4, .int (nI i))] → W p l e (headSpec wsX1_countSides ({ frames := 4, cells := 0, slots := 0, locals := 86 } : Room)).room s m args below meth c s.heap [] 0 0 (MQ below (QcRead (csL Q P M a b Q 0 0)) args s 0 0 (fun _ => False)) (F0 m 5 ls []) := by
    intro f
    induction f with
    | zero =>
      intro i n h1 h2 ls hl
      refine lv_iload hx hb dX1_countSides_5 (lv_at hl 4 rfl) ?_
      refine lv_aload_n hx hb dX1_countSides_7 rfl (lv_at hl 0 rfl) ?_
      refine va_get (D := D) (ci := 1) (v := .int (nI Q)) (C := RX1) (T := TX1) (N := 6) hx hb hts hi_X1_countSides_X1 hown hT.1 hP 0 rfl rfl 0 (by decide) (hts (.fieldLink RX1 7 "SlotStar$Machine" "slots" "I") (List.mem_of_getElem? (i := 1) rfl)) (fun _ h9 => h9) rfl dX1_countSides_8 ?_
      refine lv_icmp_ge (tgt := 43) hx hb dX1_countSides_11 (by decide) (fun c_1 => ?_) (fun c_1 => ?_)
      · skip
        refine lv_iload_n hx hb dX1_countSides_43 rfl (lv_at hl 3 rfl) ?_
        exact ro_ret hx hb hr hlocks dX1_countSides_44 (by rw [h2]; rfl)
      · exfalso; exact c_1 (nI_le (by omega) (by omega))
    | succ f ih_5 =>
      intro i n h1 h2 ls hl
      refine lv_iload hx hb dX1_countSides_5 (lv_at hl 4 rfl) ?_
      refine lv_aload_n hx hb dX1_countSides_7 rfl (lv_at hl 0 rfl) ?_
      refine va_get (D := D) (ci := 1) (v := .int (nI Q)) (C := RX1) (T := TX1) (N := 6) hx hb hts hi_X1_countSides_X1 hown hT.1 hP 0 rfl rfl 0 (by decide) (hts (.fieldLink RX1 7 "SlotStar$Machine" "slots" "I") (List.mem_of_getElem? (i := 1) rfl)) (fun _ h9 => h9) rfl dX1_countSides_8 ?_
      refine lv_icmp_ge (tgt := 43) hx hb dX1_countSides_11 (by decide) (fun c_2 => ?_) (fun c_2 => ?_)
      · exfalso; exact nI_ge (show i < Q by omega) (by omega) c_2
      · skip
        refine lv_aload_n hx hb dX1_countSides_14 rfl (lv_at hl 0 rfl) ?_
        refine lv_iload hx hb dX1_countSides_15 (lv_at hl 4 rfl) ?_
        refine ro_V (As := [.int (nI i)]) (rest := []) ⟨hx, hb, hml, hown, hts⟩ hT hP (k_X1_phaseOf l D cI cZ aM Q P M Wd i hv (by omega)) gX1_countSides_X1_phaseOf rfl rfl nd_X1_phaseOf [0] rfl (ci := 1) rfl rfl (q0 := 0) rfl hl.1 rfl rfl (Nat.le_of_ble_eq_true rfl) ⟨Nat.le_of_ble_eq_true rfl, Nat.le_of_ble_eq_true rfl⟩ ⟨rfl, rfl⟩ ⟨Nat.zero_le _, Nat.zero_le _⟩ dX1_countSides_17 ?_
        refine lv_iload_n hx hb dX1_countSides_20 rfl (lv_at hl 1 rfl) ?_
        refine lv_icmp_ne (tgt := 37) hx hb dX1_countSides_21 (by decide) (fun c_3 => ?_) (fun c_3 => ?_)
        · skip
          refine lv_iinc (v := nI (i + 1)) (lv' := [(4, .int (nI (i + 1))), (0, .ref aM), (1, .int a), (2, .int b), (3, .int n)]) hx hb dX1_countSides_37 hl (k := 4) rfl ((nI_succ i).symm) (by decide) rfl (fun ls hl => ?_)
          refine lv_goto (tgt := 5) hx hb dX1_countSides_40 (by decide) ?_
          exact ih_5 (i + 1) n (by omega) (by rw [h2]; simp [csL, c_2, c_3]) ls (lv_sub hl [1, 2, 3, 4, 0] rfl)
        · skip
          refine lv_aload_n hx hb dX1_countSides_24 rfl (lv_at hl 0 rfl) ?_
          refine lv_iload hx hb dX1_countSides_25 (lv_at hl 4 rfl) ?_
          refine ro_V (As := [.int (nI i)]) (rest := []) ⟨hx, hb, hml, hown, hts⟩ hT hP (k_X1_isForward l D cI cZ aM Q P M Wd i hv (by omega)) gX1_countSides_X1_isForward rfl rfl nd_X1_isForward [0] rfl (ci := 1) rfl rfl (q0 := 0) rfl hl.1 rfl rfl (Nat.le_of_ble_eq_true rfl) ⟨Nat.le_of_ble_eq_true rfl, Nat.le_of_ble_eq_true rfl⟩ ⟨rfl, rfl⟩ ⟨Nat.zero_le _, Nat.zero_le _⟩ dX1_countSides_27 ?_
          refine lv_iload_n hx hb dX1_countSides_30 rfl (lv_at hl 2 rfl) ?_
          refine lv_icmp_ne (tgt := 37) hx hb dX1_countSides_31 (by decide) (fun c_4 => ?_) (fun c_4 => ?_)
          · skip
            refine lv_iinc (v := nI (i + 1)) (lv' := [(4, .int (nI (i + 1))), (0, .ref aM), (1, .int a), (2, .int b), (3, .int n)]) hx hb dX1_countSides_37 hl (k := 4) rfl ((nI_succ i).symm) (by decide) rfl (fun ls hl => ?_)
            refine lv_goto (tgt := 5) hx hb dX1_countSides_40 (by decide) ?_
            exact ih_5 (i + 1) n (by omega) (by rw [h2]; simp [csL, c_2, c_3, c_4]) ls (lv_sub hl [1, 2, 3, 4, 0] rfl)
          · skip
            refine lv_iinc (v := (n + 1)) (lv' := [(3, .int (n + 1)), (0, .ref aM), (1, .int a), (2, .int b), (4, .int (nI i))]) hx hb dX1_countSides_34 hl (k := 3) rfl rfl (by decide) rfl (fun ls hl => ?_)
            refine lv_iinc (v := nI (i + 1)) (lv' := [(4, .int (nI (i + 1))), (3, .int (n + 1)), (0, .ref aM), (1, .int a), (2, .int b)]) hx hb dX1_countSides_37 hl (k := 4) rfl ((nI_succ i).symm) (by decide) rfl (fun ls hl => ?_)
            refine lv_goto (tgt := 5) hx hb dX1_countSides_40 (by decide) ?_
            exact ih_5 (i + 1) (n + 1) (by omega) (by rw [h2]; simp [csL, c_2, c_3, c_4]) ls (lv_sub hl [2, 3, 4, 1, 0] rfl)
  exact L_5 Q 0 0 (by omega) rfl ls (lv_sub hl [2, 3, 4, 1, 0] rfl)

set_option maxRecDepth 20000 in
theorem hi_X1_wayBetween_X1 : ∀ w ∈ wsX10, w ∈ wsX1_wayBetween := by
  intro w h
  unfold wsX1_wayBetween
  simp only [List.mem_cons, List.mem_append, h, or_true, true_or]
theorem nd_X1_wayBetween : okName yX1_wayBetween 2 := by decide +kernel
set_option maxHeartbeats 4000000 in
set_option maxRecDepth 100000 in
theorem k_X1_wayBetween (l : Launch) (D : va_G) (cI cZ : ClassId) (aM : Nat) (Q : Nat) (P : Nat) (M : Nat) (Wd : Nat) (a : Nat) (b : Nat) (hQ : Q ≤ 48) (ha : a < Q) (hbb : b < Q) : RO l yX1_wayBetween wsX1_wayBetween ({ frames := 1, cells := 0, slots := 0, locals := 21 } : Room) D cI cZ [(aM, .inr (1, [.int (nI Q), .int (nI P), .int (nI M), .int (nI Wd), .int (nI (tT Q P)), .int (nI (tN Q P))]))] [.ref aM, .int (nI a), .int (nI b)] (nI (wB Q a b)) := by
  refine ro_start (by decide) rfl (Nat.le_of_ble_eq_true rfl) ?_
  intro p e s m args below meth c hx hb hr hml hlocks hts hown hT hP ls hl
  have hown : s.vm.findClass RX1 = some m.cls := hown
  have hl : lv_has ls 4 [(0, .ref aM), (1, .int (nI a)), (2, .int (nI b))] := hl
  refine lv_iload_n hx hb dX1_wayBetween_0 rfl (lv_at hl 1 rfl) ?_
  refine lv_iload_n hx hb dX1_wayBetween_1 rfl (lv_at hl 2 rfl) ?_
  refine lv_isub hx hb dX1_wayBetween_2 ?_
  refine va_mabs hx hb (hml.trans hl.1.symm) hown (hts (.methodLink RX1 58 Lib.Math.abs.name) (List.mem_of_getElem? (i := 1) rfl)) (hts (.static Lib.Math.abs.name) (List.mem_of_getElem? (i := 2) rfl)) (hts (.initialized "java/lang/Math") (List.mem_of_getElem? (i := 3) rfl)) (hts (.code Lib.Math.abs.name Lib.Math.abs.code 1 (some .int)) (List.mem_of_getElem? (i := 4) rfl)) (Nat.le_of_ble_eq_true rfl) (Nat.le_of_ble_eq_true rfl) (Nat.zero_le _) (Nat.zero_le _) dX1_wayBetween_3 ?_
  refine lv_istore_n (lv' := [(3, .int (if 0 ≤ ((nI a) - (nI b)) then ((nI a) - (nI b)) else 0 - ((nI a) - (nI b)))), (0, .ref aM), (1, .int (nI a)), (2, .int (nI b))]) hx hb dX1_wayBetween_6 rfl hl (by decide) rfl (fun ls hl => ?_)
  refine lv_iload_n hx hb dX1_wayBetween_7 rfl (lv_at hl 0 rfl) ?_
  refine lv_aload_n hx hb dX1_wayBetween_8 rfl (lv_at hl 1 rfl) ?_
  refine va_get (D := D) (ci := 1) (v := .int (nI Q)) (C := RX1) (T := TX1) (N := 6) hx hb hts hi_X1_wayBetween_X1 hown hT.1 hP 0 rfl rfl 0 (by decide) (hts (.fieldLink RX1 7 "SlotStar$Machine" "slots" "I") (List.mem_of_getElem? (i := 5) rfl)) (fun _ h9 => h9) rfl dX1_wayBetween_9 ?_
  refine lv_iload_n hx hb dX1_wayBetween_12 rfl (lv_at hl 0 rfl) ?_
  refine lv_isub hx hb dX1_wayBetween_13 ?_
  refine va_mmin hx hb (hml.trans hl.1.symm) hown (hts (.methodLink RX1 63 Lib.Math.min.name) (List.mem_of_getElem? (i := 6) rfl)) (hts (.static Lib.Math.min.name) (List.mem_of_getElem? (i := 7) rfl)) (hts (.initialized "java/lang/Math") (List.mem_of_getElem? (i := 3) rfl)) (hts (.code Lib.Math.min.name Lib.Math.min.code 2 (some .int)) (List.mem_of_getElem? (i := 8) rfl)) (Nat.le_of_ble_eq_true rfl) (Nat.le_of_ble_eq_true rfl) (Nat.zero_le _) (Nat.zero_le _) dX1_wayBetween_14 ?_
  exact ro_ret hx hb hr hlocks dX1_wayBetween_17 (by exact j_way hQ ha hbb)

set_option maxRecDepth 20000 in
theorem hi_X1_become_X1 : ∀ w ∈ wsX10, w ∈ wsX1_become := by
  intro w h
  unfold wsX1_become
  simp only [List.mem_cons, List.mem_append, h, or_true, true_or]
theorem nd_X1_become : okName yX1_become 4 := by decide +kernel
set_option maxHeartbeats 4000000 in
set_option maxRecDepth 100000 in
theorem k_X1_become (l : Launch) (D : va_G) (cI cZ : ClassId) (aM : Nat) (x0 : Int32) (x1 : Int32) (x2 : Int32) (x3 : Int32) (x4 : Int32) (x5 : Int32) (Q : Nat) (P : Nat) (M : Nat) (Wd : Nat) (hv : MV Q P M Wd) : MU l yX1_become wsX1_become ({ frames := 2, cells := 0, slots := 0, locals := 44 } : Room) D cI cZ [(aM, .inr (1, [.int x0, .int x1, .int x2, .int x3, .int x4, .int x5]))] [.ref aM, .int (nI Q), .int (nI P), .int (nI M), .int (nI Wd)] none [(aM, .inr (1, [.int (nI Q), .int (nI P), .int (nI M), .int (nI Wd), .int (nI (tT Q P)), .int (nI (tN Q P))]))] := by
  refine mu_start (by decide) rfl (Nat.le_of_ble_eq_true rfl) ?_
  intro p e s m args below meth c hx hb hr hml hlocks hts hown hT hP hD hS ls hl
  have hown : s.vm.findClass RX1 = some m.cls := hown
  have hl : lv_has ls 5 [(0, .ref aM), (1, .int (nI Q)), (2, .int (nI P)), (3, .int (nI M)), (4, .int (nI Wd))] := hl
  refine lv_aload_n hx hb dX1_become_0 rfl (lv_at hl 0 rfl) ?_
  refine lv_iload_n hx hb dX1_become_1 rfl (lv_at hl 1 rfl) ?_
  refine va_put (D := D) (ci := 1) (v := .int (nI Q)) (ty := .int) (C := RX1) (T := TX1) (N := 6) hx hb hts hi_X1_become_X1 tyX1 tyX1_ok nmX1 hown hT.1 hP hD hS 0 rfl rfl 0 (by decide) (hts (.fieldLink RX1 7 "SlotStar$Machine" "slots" "I") (List.mem_of_getElem? (i := 1) rfl)) (fun _ h9 => h9) rfl (by decide +kernel) rfl rfl (Nat.le_of_ble_eq_true rfl) dX1_become_2 (fun H locs hP hD hS => ?_)
  have hP : va_P D cls5 [(aM, .inr (1, [.int (nI Q), .int x1, .int x2, .int x3, .int x4, .int x5]))] H := hP
  have hD : va_D (va_M [(aM, .inr (1, [.int x0, .int x1, .int x2, .int x3, .int x4, .int x5]))]) [(aM, .inr (1, [.int (nI Q), .int x1, .int x2, .int x3, .int x4, .int x5]))] := hD
  refine lv_aload_n hx hb dX1_become_5 rfl (lv_at hl 0 rfl) ?_
  refine lv_iload_n hx hb dX1_become_6 rfl (lv_at hl 2 rfl) ?_
  refine va_put (D := D) (ci := 1) (v := .int (nI P)) (ty := .int) (C := RX1) (T := TX1) (N := 6) hx hb hts hi_X1_become_X1 tyX1 tyX1_ok nmX1 hown hT.1 hP hD hS 0 rfl rfl 1 (by decide) (hts (.fieldLink RX1 13 "SlotStar$Machine" "pairs" "I") (List.mem_of_getElem? (i := 2) rfl)) (fun _ h9 => h9) rfl (by decide +kernel) rfl rfl (Nat.le_of_ble_eq_true rfl) dX1_become_7 (fun H locs hP hD hS => ?_)
  have hP : va_P D cls5 [(aM, .inr (1, [.int (nI Q), .int (nI P), .int x2, .int x3, .int x4, .int x5]))] H := hP
  have hD : va_D (va_M [(aM, .inr (1, [.int x0, .int x1, .int x2, .int x3, .int x4, .int x5]))]) [(aM, .inr (1, [.int (nI Q), .int (nI P), .int x2, .int x3, .int x4, .int x5]))] := hD
  refine lv_aload_n hx hb dX1_become_10 rfl (lv_at hl 0 rfl) ?_
  refine lv_iload_n hx hb dX1_become_11 rfl (lv_at hl 3 rfl) ?_
  refine va_put (D := D) (ci := 1) (v := .int (nI M)) (ty := .int) (C := RX1) (T := TX1) (N := 6) hx hb hts hi_X1_become_X1 tyX1 tyX1_ok nmX1 hown hT.1 hP hD hS 0 rfl rfl 2 (by decide) (hts (.fieldLink RX1 16 "SlotStar$Machine" "phases" "I") (List.mem_of_getElem? (i := 3) rfl)) (fun _ h9 => h9) rfl (by decide +kernel) rfl rfl (Nat.le_of_ble_eq_true rfl) dX1_become_12 (fun H locs hP hD hS => ?_)
  have hP : va_P D cls5 [(aM, .inr (1, [.int (nI Q), .int (nI P), .int (nI M), .int x3, .int x4, .int x5]))] H := hP
  have hD : va_D (va_M [(aM, .inr (1, [.int x0, .int x1, .int x2, .int x3, .int x4, .int x5]))]) [(aM, .inr (1, [.int (nI Q), .int (nI P), .int (nI M), .int x3, .int x4, .int x5]))] := hD
  refine lv_aload_n hx hb dX1_become_15 rfl (lv_at hl 0 rfl) ?_
  refine lv_iload hx hb dX1_become_16 (lv_at hl 4 rfl) ?_
  refine va_put (D := D) (ci := 1) (v := .int (nI Wd)) (ty := .int) (C := RX1) (T := TX1) (N := 6) hx hb hts hi_X1_become_X1 tyX1 tyX1_ok nmX1 hown hT.1 hP hD hS 0 rfl rfl 3 (by decide) (hts (.fieldLink RX1 19 "SlotStar$Machine" "width" "I") (List.mem_of_getElem? (i := 4) rfl)) (fun _ h9 => h9) rfl (by decide +kernel) rfl rfl (Nat.le_of_ble_eq_true rfl) dX1_become_18 (fun H locs hP hD hS => ?_)
  have hP : va_P D cls5 [(aM, .inr (1, [.int (nI Q), .int (nI P), .int (nI M), .int (nI Wd), .int x4, .int x5]))] H := hP
  have hD : va_D (va_M [(aM, .inr (1, [.int x0, .int x1, .int x2, .int x3, .int x4, .int x5]))]) [(aM, .inr (1, [.int (nI Q), .int (nI P), .int (nI M), .int (nI Wd), .int x4, .int x5]))] := hD
  refine lv_aload_n hx hb dX1_become_21 rfl (lv_at hl 0 rfl) ?_
  refine lv_iload_n hx hb dX1_become_22 rfl (lv_at hl 1 rfl) ?_
  refine lv_iload_n hx hb dX1_become_23 rfl (lv_at hl 2 rfl) ?_
  refine ro_N (As := [.int (nI Q), .int (nI P)]) (rest := [.ref aM]) ⟨hx, hb, hml, hown, hts⟩ hT hP (k_X3_commonDivisor l D cI cZ (nI Q) (nI P)) (List.mem_of_getElem? (i := 3) rfl) gX1_become_X3_commonDivisor_n22 (hts (.initialized RX3) (List.mem_of_getElem? (i := 8) rfl)) (hts (.static yX3_commonDivisor) (List.mem_of_getElem? (i := 7) rfl)) rfl nd_X3_commonDivisor [] rfl hl.1 rfl rfl (Nat.le_of_ble_eq_true rfl) ⟨Nat.le_of_ble_eq_true rfl, Nat.le_of_ble_eq_true rfl⟩ ⟨rfl, rfl⟩ ⟨Nat.zero_le _, Nat.zero_le _⟩ dX1_become_24 ?_
  refine top_eq (z := (nI (tT Q P))) (by exact j_tT hv) ?_
  refine va_put (D := D) (ci := 1) (v := .int (nI (tT Q P))) (ty := .int) (C := RX1) (T := TX1) (N := 6) hx hb hts hi_X1_become_X1 tyX1 tyX1_ok nmX1 hown hT.1 hP hD hS 0 rfl rfl 4 (by decide) (hts (.fieldLink RX1 28 "SlotStar$Machine" "copies" "I") (List.mem_of_getElem? (i := 5) rfl)) (fun _ h9 => h9) rfl (by decide +kernel) rfl rfl (Nat.le_of_ble_eq_true rfl) dX1_become_27 (fun H locs hP hD hS => ?_)
  have hP : va_P D cls5 [(aM, .inr (1, [.int (nI Q), .int (nI P), .int (nI M), .int (nI Wd), .int (nI (tT Q P)), .int x5]))] H := hP
  have hD : va_D (va_M [(aM, .inr (1, [.int x0, .int x1, .int x2, .int x3, .int x4, .int x5]))]) [(aM, .inr (1, [.int (nI Q), .int (nI P), .int (nI M), .int (nI Wd), .int (nI (tT Q P)), .int x5]))] := hD
  refine lv_aload_n hx hb dX1_become_30 rfl (lv_at hl 0 rfl) ?_
  refine lv_iload_n hx hb dX1_become_31 rfl (lv_at hl 1 rfl) ?_
  refine lv_aload_n hx hb dX1_become_32 rfl (lv_at hl 0 rfl) ?_
  refine va_get (D := D) (ci := 1) (v := .int (nI (tT Q P))) (C := RX1) (T := TX1) (N := 6) hx hb hts hi_X1_become_X1 hown hT.1 hP 0 rfl rfl 4 (by decide) (hts (.fieldLink RX1 28 "SlotStar$Machine" "copies" "I") (List.mem_of_getElem? (i := 5) rfl)) (fun _ h9 => h9) rfl dX1_become_33 ?_
  refine ro_N (As := [.int (nI Q), .int (nI (tT Q P))]) (rest := [.ref aM]) ⟨hx, hb, hml, hown, hts⟩ hT hP (k_X3_cut l D cI cZ (nI Q) (nI (tT Q P))) (List.mem_of_getElem? (i := 4) rfl) gX1_become_X3_cut_n31 (hts (.initialized RX3) (List.mem_of_getElem? (i := 8) rfl)) (hts (.static yX3_cut) (List.mem_of_getElem? (i := 17) rfl)) rfl nd_X3_cut [] rfl hl.1 rfl rfl (Nat.le_of_ble_eq_true rfl) ⟨Nat.le_of_ble_eq_true rfl, Nat.le_of_ble_eq_true rfl⟩ ⟨rfl, rfl⟩ ⟨Nat.zero_le _, Nat.zero_le _⟩ dX1_become_36 ?_
  refine top_eq (z := (nI (tN Q P))) (by exact j_tN hv) ?_
  refine va_put (D := D) (ci := 1) (v := .int (nI (tN Q P))) (ty := .int) (C := RX1) (T := TX1) (N := 6) hx hb hts hi_X1_become_X1 tyX1 tyX1_ok nmX1 hown hT.1 hP hD hS 0 rfl rfl 5 (by decide) (hts (.fieldLink RX1 34 "SlotStar$Machine" "turns" "I") (List.mem_of_getElem? (i := 6) rfl)) (fun _ h9 => h9) rfl (by decide +kernel) rfl rfl (Nat.le_of_ble_eq_true rfl) dX1_become_39 (fun H locs hP hD hS => ?_)
  have hP : va_P D cls5 [(aM, .inr (1, [.int (nI Q), .int (nI P), .int (nI M), .int (nI Wd), .int (nI (tT Q P)), .int (nI (tN Q P))]))] H := hP
  have hD : va_D (va_M [(aM, .inr (1, [.int x0, .int x1, .int x2, .int x3, .int x4, .int x5]))]) [(aM, .inr (1, [.int (nI Q), .int (nI P), .int (nI M), .int (nI Wd), .int (nI (tT Q P)), .int (nI (tN Q P))]))] := hD
  exact mu_retv hx hb hr hlocks dX1_become_42 (hP) hS
end
section
/-! ===== rows: what the root's methods leave ===== -/
def flL (v : Int32) : Nat → Nat → (Nat → Int32) → Nat → Int32
  | 0, _, g => g
  | f + 1, i, g => flL v f (i + 1) (upd g i v)
def mulL (d : Nat) : Nat → Nat → (Nat → Int32) → Nat → Int32
  | 0, _, g => g
  | f + 1, i, g => mulL d f (i - 1) (upd g i (g i - g (i - d)))
def divL (d : Nat) : Nat → Nat → (Nat → Int32) → Nat → Int32
  | 0, _, g => g
  | f + 1, i, g => divL d f (i + 1) (upd g i (g i + g (i - d)))
def hpL (g : Nat → Int32) : Nat → Nat
  | 0 => 0
  | i + 1 => if g (i + 1) = 0 then hpL g i else i + 1
def mbL : Nat → Nat → Nat → Int32 → Int32
  | 0, _, _, sg => sg
  | f + 1, p, r, sg => if r % p = 0 then (if (r / p) % p = 0 then 0 else mbL f (p + 1) (r / p) (-sg)) else mbL f (p + 1) r sg
def mob (n : Nat) : Int32 := mbL 47 2 n 1
def bcS (n d : Nat) (g : Nat → Int32) : Nat → Int32 :=
  if n % d = 0 then (if mob (n / d) ≤ 0 then (if 0 ≤ mob (n / d) then g else divL d (n + 1 - d) d g) else mulL d (n + 1 - d) n g) else g
def bcL (n : Nat) : Nat → Nat → (Nat → Int32) → Nat → Int32
  | 0, _, g => g
  | f + 1, d, g => bcL n f (d + 1) (bcS n d g)
def cyR (n : Nat) : Nat → Int32 := bcL n n 1 (upd (fun _ => 0) 0 (if n = 1 then (-1) else 1))
def dgN (n : Nat) : Nat := hpL (cyR n) n
def rdI (g : Nat → Int32) (b : Nat) (c : Int32) : Nat → Nat → (Nat → Int32) → Nat → Int32
  | 0, _, w => w
  | f + 1, j, w => rdI g b c f (j + 1) (upd w (b + j) (w (b + j) - c * g j))
def rdO (g : Nat → Int32) (dg : Nat) : Nat → Nat → (Nat → Int32) → Nat → Int32
  | 0, _, w => w
  | f + 1, i, w => rdO g dg f (i - 1) (rdI g (i - dg) (w i) (dg + 1) 0 w)
def mxL (g : Nat → Int32) (c : Int32) : Nat → (Nat → Int32) → Nat → Int32
  | 0, w => w
  | i + 1, w => mxL g c i (upd w (i + 1) (w i - c * g (i + 1)))
def rmx (g : Nat → Int32) (dg : Nat) (w : Nat → Int32) : Nat → Int32 := upd (mxL g (w (dg - 1)) (dg - 1) w) 0 (-(w (dg - 1)) * g 0)
def zrL (w : Nat → Int32) : Nat → Nat → Int32
  | 0, _ => 1
  | f + 1, i => if w i = 0 then zrL w f (i + 1) else 0
def smL (w z : Nat → Int32) : Nat → Nat → Int32
  | 0, _ => 1
  | f + 1, i => if w i = z i then smL w z f (i + 1) else 0
theorem zrL01 (w : Nat → Int32) : ∀ f i : Nat, zrL w f i = 0 ∨ zrL w f i = 1
  | 0, _ => Or.inr rfl
  | f + 1, i => by
    unfold zrL
    split
    · exact zrL01 w f (i + 1)
    · exact Or.inl rfl
theorem smL01 (w z : Nat → Int32) : ∀ f i : Nat, smL w z f i = 0 ∨ smL w z f i = 1
  | 0, _ => Or.inr rfl
  | f + 1, i => by
    unfold smL
    split
    · exact smL01 w z f (i + 1)
    · exact Or.inl rfl
theorem nI_sub1 {a : Nat} (h : 0 < a) : nI a - 1 = nI (a - 1) := by
  rw [← nI_one]
  exact pk_sub h
theorem nI_mod0 {a b : Nat} (ha : a < 2 ^ 31) (h0 : 0 < b) (hb : b < 2 ^ 31) : jLO (nI a) (nI b) = 0 ↔ a % b = 0 := by
  rw [jLO_nI ha h0 hb]
  exact nI_eq0 (Nat.lt_of_le_of_lt (Nat.mod_le a b) ha)
theorem hpL_le (g : Nat → Int32) : ∀ i : Nat, hpL g i ≤ i
  | 0 => Nat.le_refl 0
  | i + 1 => by
    unfold hpL
    split
    · exact Nat.le_succ_of_le (hpL_le g i)
    · exact Nat.le_refl _
theorem flL_all (v : Int32) : ∀ (f i : Nat) (g : Nat → Int32) (j : Nat), (i ≤ j ∧ j < i + f → flL v f i g j = v) ∧ (j < i → flL v f i g j = g j)
  | 0, i, g, j => ⟨fun h => absurd h (by omega), fun _ => rfl⟩
  | f + 1, i, g, j => by
    have h := flL_all v f (i + 1) (upd g i v) j
    unfold flL
    refine ⟨fun hj => ?_, fun hj => ?_⟩
    · by_cases e : j = i
      · subst e
        rw [h.2 (by omega)]
        exact pk_us
      · exact h.1 (by omega)
    · rw [h.2 (by omega)]
      exact pk_un (by omega)
theorem arr_eq {D : va_G} {cl : List vw_C} {ws W1 : va_W} {H : Heap} {b z : Nat} {cA : ClassId} {f g : Nat → Int32} (hP : va_P D cl ws H) (q0 : Nat) (ha : ws[q0]? = some (b, .inl (cA, z, .inl f))) (h : ∀ j, j < z → f j = g j) (hW : ws.set q0 (b, .inl (cA, z, .inl g)) = W1) : va_P D cl W1 H := by
  subst hW
  have hl := (List.getElem?_eq_some_iff.mp ha).1
  intro k q hk
  by_cases hkp : k = q0
  · subst hkp
    rw [List.getElem?_set_self hl] at hk
    cases hk
    have h1 := hP k _ ha
    show H[b]? = some (vp_cell cA (z, .inl g))
    have h2 : H[b]? = some (vp_cell cA (z, .inl f)) := h1
    rw [h2, vp_cell_i, vp_cell_i]
    congr 1
    unfold arrV
    congr 1
    congr 1
    funext j
    exact congrArg Value.int (h j.val j.isLt)
  · rw [List.getElem?_set_ne (Ne.symm hkp)] at hk
    exact hP k q hk
theorem i32n {x k : Int32} (h : ¬ x = k) : x.toInt ≠ k.toInt := fun e => h (Int32.toInt_inj.mp e)
theorem lk_out2 {x : Int32} {a b d : Int} (h0 : ¬ x = 0) (h1 : ¬ x = 1) : lookupswitch.offset [(0, a), (1, b)] d x.toInt = d := by
  have e0 : x.toInt ≠ 0 := i32n h0
  have e1 : x.toInt ≠ 1 := i32n h1
  rw [lookupswitch.offset_cons, if_neg (fun q => e0 q.symm), lookupswitch.offset_cons, if_neg (fun q => e1 q.symm), lookupswitch.offset_nil]
theorem sw_out6 {x : Int32} (h0 : ¬ x = 0) (h1 : ¬ x = 1) (h2 : ¬ x = 2) (h3 : ¬ x = 3) (h4 : ¬ x = 4) (h5 : ¬ x = 5) : x.toInt < 0 ∨ 5 < x.toInt := by
  have e0 : x.toInt ≠ 0 := i32n h0
  have e1 : x.toInt ≠ 1 := i32n h1
  have e2 : x.toInt ≠ 2 := i32n h2
  have e3 : x.toInt ≠ 3 := i32n h3
  have e4 : x.toInt ≠ 4 := i32n h4
  have e5 : x.toInt ≠ 5 := i32n h5
  omega
theorem sw_out7 {x : Int32} (h0 : ¬ x = 0) (h1 : ¬ x = 1) (h2 : ¬ x = 2) (h3 : ¬ x = 3) (h4 : ¬ x = 4) (h5 : ¬ x = 5) (h6 : ¬ x = 6) : x.toInt < 0 ∨ 6 < x.toInt := by
  have e6 : x.toInt ≠ 6 := i32n h6
  rcases sw_out6 h0 h1 h2 h3 h4 h5 with h | h <;> omega
end
section
theorem nd_J7_fill_53178 : okName yJ7_fill_53178 2 := by decide +kernel
set_option maxHeartbeats 4000000 in
set_option maxRecDepth 100000 in
theorem k_J7_fill_53178 (l : Launch) (D : va_G) (cI cZ : ClassId) (aX : Nat) (nX : Nat) (fX : Nat → Int32) (v : Int32) (hz : nX < 2 ^ 31) : MU l yJ7_fill_53178 wsJ7_fill_53178 ({ frames := 0, cells := 0, slots := 0, locals := 0 } : Room) D cI cZ [(aX, .inl (cI, nX, .inl fX))] [.ref aX, .int v] none [(aX, .inl (cI, nX, .inl (fun _ => v)))] := by
  refine mu_start (by decide) rfl (Nat.le_of_ble_eq_true rfl) ?_
  intro p e s m args below meth c hx hb hr hml hlocks hts hown hT hP hD hS ls hl
  have hown : s.vm.findClass RJ7 = some m.cls := hown
  have hl : lv_has ls 4 [(0, .ref aX), (1, .int v)] := hl
  refine lv_iconst (v := 0) hx hb dJ7_fill_53178_0 (by decide) ?_
  refine lv_istore_n (lv' := [(2, .int 0), (0, .ref aX), (1, .int v)]) hx hb dJ7_fill_53178_1 rfl hl (by decide) rfl (fun ls hl => ?_)
  refine lv_aload_n hx hb dJ7_fill_53178_2 rfl (lv_at hl 1 rfl) ?_
  refine va_alen hx hb hT.1 hP 0 0 (v := (nI nX)) rfl rfl rfl dJ7_fill_53178_3 ?_
  refine lv_istore_n (lv' := [(3, .int (nI nX)), (2, .int 0), (0, .ref aX), (1, .int v)]) hx hb dJ7_fill_53178_4 rfl hl (by decide) rfl (fun ls hl => ?_)
  have L_5 : ∀ (f : Nat) (i : Nat) (w : Nat → Int32), i + f = nX → flL v nX 0 fX = flL v f i w → ∀ (H : Heap) (locs : List Loc), va_P D cls5 [(aX, .inl (cI, nX, .inl w))] H → va_D (va_M [(aX, .inl (cI, nX, .inl fX))]) [(aX, .inl (cI, nX, .inl w))] → va_S (va_M [(aX, .inl (cI, nX, .inl fX))]) s.heap H locs → ∀ ls : Array Slot, lv_has ls 4 [(0, .ref aX), (1, .int v), (2, .int (nI i)), (3, .int (nI nX))] → W p l e (headSpec wsJ7_fill_53178 ({ frames := 0, cells := 0, slots := 0, locals := 0 } : Room)).room s m args below meth c H locs 0 0 (MQ below (QcM D [(aX, .inl (cI, nX, .inl fX))] [(aX, .inl (cI, nX, .inl (fun _ => v)))] none) args s 0 0 (va_M [(aX, .inl (cI, nX, .inl fX))])) (F0 m 5 ls []) := by
    intro f
    induction f with
    | zero =>
      intro i w h1 h2 H locs hP hD hS ls hl
      refine lv_iload_n hx hb dJ7_fill_53178_5 rfl (lv_at hl 2 rfl) ?_
      refine lv_iload_n hx hb dJ7_fill_53178_6 rfl (lv_at hl 3 rfl) ?_
      refine lv_icmp_ge (tgt := 20) hx hb dJ7_fill_53178_7 (by decide) (fun c_1 => ?_) (fun c_1 => ?_)
      · skip
        exact mu_retv hx hb hr hlocks dJ7_fill_53178_20 (arr_eq hP 0 rfl (fun j hj => by have h7 := flL_all v nX 0 fX j; rw [h2] at h7; exact (h7.1 (by omega))) rfl) hS
      · exfalso; exact c_1 (nI_le (by omega) (by omega))
    | succ f ih_5 =>
      intro i w h1 h2 H locs hP hD hS ls hl
      refine lv_iload_n hx hb dJ7_fill_53178_5 rfl (lv_at hl 2 rfl) ?_
      refine lv_iload_n hx hb dJ7_fill_53178_6 rfl (lv_at hl 3 rfl) ?_
      refine lv_icmp_ge (tgt := 20) hx hb dJ7_fill_53178_7 (by decide) (fun c_2 => ?_) (fun c_2 => ?_)
      · exfalso; exact nI_ge (show i < nX by omega) (by omega) c_2
      · skip
        refine lv_aload_n hx hb dJ7_fill_53178_10 rfl (lv_at hl 0 rfl) ?_
        refine lv_iload_n hx hb dJ7_fill_53178_11 rfl (lv_at hl 2 rfl) ?_
        refine lv_iload_n hx hb dJ7_fill_53178_12 rfl (lv_at hl 1 rfl) ?_
        refine st_i hx hb hT hP hD hS 0 rfl dJ7_fill_53178_13 (k := i) (W1 := [(aX, .inl (cI, nX, .inl (upd w i v)))]) rfl (by omega) (by omega) rfl (fun H locs hP hD hS => ?_)
        refine lv_iinc (v := nI (i + 1)) (lv' := [(2, .int (nI (i + 1))), (0, .ref aX), (1, .int v), (3, .int (nI nX))]) hx hb dJ7_fill_53178_14 hl (k := 2) rfl ((nI_succ i).symm) (by decide) rfl (fun ls hl => ?_)
        refine lv_goto (tgt := 5) hx hb dJ7_fill_53178_17 (by decide) ?_
        exact ih_5 (i + 1) _ (by omega) (by rw [h2]; rfl) _ _ hP hD hS ls (lv_sub hl [1, 2, 0, 3] rfl)
  exact L_5 nX 0 fX (by omega) rfl _ _ hP hD hS ls (lv_sub hl [2, 3, 1, 0] rfl)

theorem nd_X2_moebius : okName yX2_moebius 1 := by decide +kernel
set_option maxHeartbeats 4000000 in
set_option maxRecDepth 100000 in
theorem k_X2_moebius (l : Launch) (D : va_G) (cI cZ : ClassId) (n : Nat) (hn : n < 1000) : RO l yX2_moebius wsX2_moebius ({ frames := 1, cells := 0, slots := 0, locals := 22 } : Room) D cI cZ [] [.int (nI n)] (mob n) := by
  refine ro_start (by decide) rfl (Nat.le_of_ble_eq_true rfl) ?_
  intro p e s m args below meth c hx hb hr hml hlocks hts hown hT hP ls hl
  have hown : s.vm.findClass RX2 = some m.cls := hown
  have hl : lv_has ls 4 [(0, .int (nI n))] := hl
  refine lv_iload_n hx hb dX2_moebius_0 rfl (lv_at hl 0 rfl) ?_
  refine lv_istore_n (lv' := [(1, .int (nI n)), (0, .int (nI n))]) hx hb dX2_moebius_1 rfl hl (by decide) rfl (fun ls hl => ?_)
  refine lv_iconst (v := 1) hx hb dX2_moebius_2 (by decide) ?_
  refine lv_istore_n (lv' := [(2, .int 1), (1, .int (nI n)), (0, .int (nI n))]) hx hb dX2_moebius_3 rfl hl (by decide) rfl (fun ls hl => ?_)
  refine lv_iconst (v := 2) hx hb dX2_moebius_4 (by decide) ?_
  refine lv_istore_n (lv' := [(3, .int 2), (2, .int 1), (1, .int (nI n)), (0, .int (nI n))]) hx hb dX2_moebius_5 rfl hl (by decide) rfl (fun ls hl => ?_)
  have L_6 : ∀ (f : Nat) (p2 : Nat) (r : Nat) (sg : Int32), p2 + f = 49 → 2 ≤ p2 → r < 1000 → mob n = mbL f p2 r sg → ∀ ls : Array Slot, lv_has ls 4 [(0, .int (nI n)), (1, .int (nI r)), (2, .int sg), (3, .int (nI p2))] → W p l e (headSpec wsX2_moebius ({ frames := 1, cells := 0, slots := 0, locals := 22 } : Room)).room s m args below meth c s.heap [] 0 0 (MQ below (QcRead (mob n)) args s 0 0 (fun _ => False)) (F0 m 6 ls []) := by
    intro f
    induction f with
    | zero =>
      intro p2 r sg h1 h0 h3 h2 ls hl
      refine lv_iload_n hx hb dX2_moebius_6 rfl (lv_at hl 3 rfl) ?_
      refine lv_bipush (v := 48) hx hb dX2_moebius_7 (by decide) ?_
      refine lv_icmp_gt (tgt := 45) hx hb dX2_moebius_9 (by decide) (fun c_1 => ?_) (fun c_1 => ?_)
      · skip
        refine lv_iload_n hx hb dX2_moebius_45 rfl (lv_at hl 2 rfl) ?_
        exact ro_ret hx hb hr hlocks dX2_moebius_46 (by rw [h2]; rfl)
      · exfalso; exact c_1 (by rw [show p2 = 49 by omega]; decide)
    | succ f ih_6 =>
      intro p2 r sg h1 h0 h3 h2 ls hl
      refine lv_iload_n hx hb dX2_moebius_6 rfl (lv_at hl 3 rfl) ?_
      refine lv_bipush (v := 48) hx hb dX2_moebius_7 (by decide) ?_
      refine lv_icmp_gt (tgt := 45) hx hb dX2_moebius_9 (by decide) (fun c_2 => ?_) (fun c_2 => ?_)
      · exfalso; exact absurd c_2 (by rw [show (48 : Int32) = nI 48 from rfl]; exact nI_nlt (by omega) (by decide))
      · skip
        refine lv_iload_n hx hb dX2_moebius_12 rfl (lv_at hl 1 rfl) ?_
        refine lv_iload_n hx hb dX2_moebius_13 rfl (lv_at hl 3 rfl) ?_
        refine ro_N (As := [.int (nI r), .int (nI p2)]) (rest := []) ⟨hx, hb, hml, hown, hts⟩ hT hP (k_X3_leftOver l D cI cZ (nI r) (nI p2)) (List.mem_of_getElem? (i := 8) rfl) gX2_moebius_X3_leftOver_n29 (hts (.initialized RX3) (List.mem_of_getElem? (i := 2) rfl)) (hts (.static yX3_leftOver) (List.mem_of_getElem? (i := 1) rfl)) rfl nd_X3_leftOver [] rfl hl.1 rfl rfl (Nat.le_of_ble_eq_true rfl) ⟨Nat.le_of_ble_eq_true rfl, Nat.le_of_ble_eq_true rfl⟩ ⟨rfl, rfl⟩ ⟨Nat.zero_le _, Nat.zero_le _⟩ dX2_moebius_14 ?_
        refine lv_if_ne (tgt := 39) hx hb dX2_moebius_17 (by decide) (fun c_3 => ?_) (fun c_3 => ?_)
        · skip
          have hm1 : ¬ r % p2 = 0 := fun q => c_3 ((nI_mod0 (by omega) (by omega) (by omega)).mpr q)
          refine lv_iinc (v := nI (p2 + 1)) (lv' := [(3, .int (nI (p2 + 1))), (0, .int (nI n)), (1, .int (nI r)), (2, .int sg)]) hx hb dX2_moebius_39 hl (k := 3) rfl ((nI_succ p2).symm) (by decide) rfl (fun ls hl => ?_)
          refine lv_goto (tgt := 6) hx hb dX2_moebius_42 (by decide) ?_
          exact ih_6 (p2 + 1) r sg (by omega) (by omega) (by first | exact h3 | exact Nat.lt_of_le_of_lt (Nat.div_le_self _ _) h3) (by rw [h2]; first | simp [mbL, hm1, hm2] | simp [mbL, hm1]) ls (lv_sub hl [1, 2, 3, 0] rfl)
        · skip
          have hm1 : r % p2 = 0 := (nI_mod0 (by omega) (by omega) (by omega)).mp c_3
          have hrp : r / p2 < 1000 := Nat.lt_of_le_of_lt (Nat.div_le_self _ _) h3
          refine lv_iload_n hx hb dX2_moebius_20 rfl (lv_at hl 1 rfl) ?_
          refine lv_iload_n hx hb dX2_moebius_21 rfl (lv_at hl 3 rfl) ?_
          refine ro_N (As := [.int (nI r), .int (nI p2)]) (rest := []) ⟨hx, hb, hml, hown, hts⟩ hT hP (k_X3_cut l D cI cZ (nI r) (nI p2)) (List.mem_of_getElem? (i := 7) rfl) gX2_moebius_X3_cut_n33 (hts (.initialized RX3) (List.mem_of_getElem? (i := 2) rfl)) (hts (.static yX3_cut) (List.mem_of_getElem? (i := 4) rfl)) rfl nd_X3_cut [] rfl hl.1 rfl rfl (Nat.le_of_ble_eq_true rfl) ⟨Nat.le_of_ble_eq_true rfl, Nat.le_of_ble_eq_true rfl⟩ ⟨rfl, rfl⟩ ⟨Nat.zero_le _, Nat.zero_le _⟩ dX2_moebius_22 ?_
          refine top_eq (z := (nI (r / p2))) (by exact jCut_nI (by omega) (by omega) (by omega)) ?_
          refine lv_istore_n (lv' := [(1, .int (nI (r / p2))), (0, .int (nI n)), (2, .int sg), (3, .int (nI p2))]) hx hb dX2_moebius_25 rfl hl (by decide) rfl (fun ls hl => ?_)
          refine lv_iload_n hx hb dX2_moebius_26 rfl (lv_at hl 2 rfl) ?_
          refine lv_ineg hx hb dX2_moebius_27 ?_
          refine lv_istore_n (lv' := [(2, .int (-sg)), (1, .int (nI (r / p2))), (0, .int (nI n)), (3, .int (nI p2))]) hx hb dX2_moebius_28 rfl hl (by decide) rfl (fun ls hl => ?_)
          refine lv_iload_n hx hb dX2_moebius_29 rfl (lv_at hl 1 rfl) ?_
          refine lv_iload_n hx hb dX2_moebius_30 rfl (lv_at hl 3 rfl) ?_
          refine ro_N (As := [.int (nI (r / p2)), .int (nI p2)]) (rest := []) ⟨hx, hb, hml, hown, hts⟩ hT hP (k_X3_leftOver l D cI cZ (nI (r / p2)) (nI p2)) (List.mem_of_getElem? (i := 8) rfl) gX2_moebius_X3_leftOver_n29 (hts (.initialized RX3) (List.mem_of_getElem? (i := 2) rfl)) (hts (.static yX3_leftOver) (List.mem_of_getElem? (i := 1) rfl)) rfl nd_X3_leftOver [] rfl hl.1 rfl rfl (Nat.le_of_ble_eq_true rfl) ⟨Nat.le_of_ble_eq_true rfl, Nat.le_of_ble_eq_true rfl⟩ ⟨rfl, rfl⟩ ⟨Nat.zero_le _, Nat.zero_le _⟩ dX2_moebius_31 ?_
          refine lv_if_ne (tgt := 39) hx hb dX2_moebius_34 (by decide) (fun c_4 => ?_) (fun c_4 => ?_)
          · skip
            have hm2 : ¬ r / p2 % p2 = 0 := fun q => c_4 ((nI_mod0 (by omega) (by omega) (by omega)).mpr q)
            refine lv_iinc (v := nI (p2 + 1)) (lv' := [(3, .int (nI (p2 + 1))), (2, .int (-sg)), (1, .int (nI (r / p2))), (0, .int (nI n))]) hx hb dX2_moebius_39 hl (k := 3) rfl ((nI_succ p2).symm) (by decide) rfl (fun ls hl => ?_)
            refine lv_goto (tgt := 6) hx hb dX2_moebius_42 (by decide) ?_
            exact ih_6 (p2 + 1) (r / p2) (-sg) (by omega) (by omega) (by first | exact h3 | exact Nat.lt_of_le_of_lt (Nat.div_le_self _ _) h3) (by rw [h2]; first | simp [mbL, hm1, hm2] | simp [mbL, hm1]) ls (lv_sub hl [3, 2, 1, 0] rfl)
          · skip
            have hm2 : r / p2 % p2 = 0 := (nI_mod0 (by omega) (by omega) (by omega)).mp c_4
            refine lv_iconst (v := 0) hx hb dX2_moebius_37 (by decide) ?_
            exact ro_ret hx hb hr hlocks dX2_moebius_38 (by rw [h2]; simp [mbL, hm1, hm2])
  exact L_6 47 2 n 1 rfl (by decide) hn rfl ls (lv_sub hl [3, 2, 1, 0] rfl)

set_option maxRecDepth 20000 in
theorem hi_X2_multiplyByOneLess_X2 : ∀ w ∈ wsX20, w ∈ wsX2_multiplyByOneLess := by
  intro w h
  unfold wsX2_multiplyByOneLess
  simp only [List.mem_cons, List.mem_append, h, or_true, true_or]
theorem nd_X2_multiplyByOneLess : okName yX2_multiplyByOneLess 1 := by decide +kernel
set_option maxHeartbeats 4000000 in
set_option maxRecDepth 100000 in
theorem k_X2_multiplyByOneLess (l : Launch) (D : va_G) (cI cZ : ClassId) (aR : Nat) (aN : Nat) (dg : Nat) (tr : Nat) (fN : Nat → Int32) (d : Nat) (ht : tr ≤ 48) (h0 : 1 ≤ d) (hd : d ≤ tr) : MU l yX2_multiplyByOneLess wsX2_multiplyByOneLess ({ frames := 2, cells := 0, slots := 0, locals := 44 } : Room) D cI cZ [(aR, .inr (2, [.ref aN, .int (nI dg), .int (nI tr)])), (aN, .inl (cI, 49, .inl fN))] [.ref aR, .int (nI d)] none [(aR, .inr (2, [.ref aN, .int (nI dg), .int (nI tr)])), (aN, .inl (cI, 49, .inl (mulL d (tr + 1 - d) tr fN)))] := by
  refine mu_start (by decide) rfl (Nat.le_of_ble_eq_true rfl) ?_
  intro p e s m args below meth c hx hb hr hml hlocks hts hown hT hP hD hS ls hl
  have hown : s.vm.findClass RX2 = some m.cls := hown
  have hl : lv_has ls 3 [(0, .ref aR), (1, .int (nI d))] := hl
  refine lv_aload_n hx hb dX2_multiplyByOneLess_0 rfl (lv_at hl 0 rfl) ?_
  refine va_get (D := D) (ci := 2) (v := .int (nI tr)) (C := RX2) (T := TX2) (N := 3) hx hb hts hi_X2_multiplyByOneLess_X2 hown hT.1 hP 0 rfl rfl 2 (by decide) (hts (.fieldLink RX2 15 "SlotStar$Root" "turns" "I") (List.mem_of_getElem? (i := 1) rfl)) (fun _ h9 => h9) rfl dX2_multiplyByOneLess_1 ?_
  refine lv_istore_n (lv' := [(2, .int (nI tr)), (0, .ref aR), (1, .int (nI d))]) hx hb dX2_multiplyByOneLess_4 rfl hl (by decide) rfl (fun ls hl => ?_)
  have L_5 : ∀ (f : Nat) (i : Nat) (w : Nat → Int32), i + 1 = d + f → i ≤ tr → mulL d (tr + 1 - d) tr fN = mulL d f i w → ∀ (H : Heap) (locs : List Loc), va_P D cls5 [(aR, .inr (2, [.ref aN, .int (nI dg), .int (nI tr)])), (aN, .inl (cI, 49, .inl w))] H → va_D (va_M [(aR, .inr (2, [.ref aN, .int (nI dg), .int (nI tr)])), (aN, .inl (cI, 49, .inl fN))]) [(aR, .inr (2, [.ref aN, .int (nI dg), .int (nI tr)])), (aN, .inl (cI, 49, .inl w))] → va_S (va_M [(aR, .inr (2, [.ref aN, .int (nI dg), .int (nI tr)])), (aN, .inl (cI, 49, .inl fN))]) s.heap H locs → ∀ ls : Array Slot, lv_has ls 3 [(0, .ref aR), (1, .int (nI d)), (2, .int (nI i))] → W p l e (headSpec wsX2_multiplyByOneLess ({ frames := 2, cells := 0, slots := 0, locals := 44 } : Room)).room s m args below meth c H locs 0 0 (MQ below (QcM D [(aR, .inr (2, [.ref aN, .int (nI dg), .int (nI tr)])), (aN, .inl (cI, 49, .inl fN))] [(aR, .inr (2, [.ref aN, .int (nI dg), .int (nI tr)])), (aN, .inl (cI, 49, .inl (mulL d (tr + 1 - d) tr fN)))] none) args s 0 0 (va_M [(aR, .inr (2, [.ref aN, .int (nI dg), .int (nI tr)])), (aN, .inl (cI, 49, .inl fN))])) (F0 m 5 ls []) := by
    intro f
    induction f with
    | zero =>
      intro i w h1 h3 h2 H locs hP hD hS ls hl
      refine lv_iload_n hx hb dX2_multiplyByOneLess_5 rfl (lv_at hl 2 rfl) ?_
      refine lv_iload_n hx hb dX2_multiplyByOneLess_6 rfl (lv_at hl 1 rfl) ?_
      refine lv_icmp_lt (tgt := 43) hx hb dX2_multiplyByOneLess_7 (by decide) (fun c_1 => ?_) (fun c_1 => ?_)
      · skip
        exact mu_retv hx hb hr hlocks dX2_multiplyByOneLess_43 (by rw [h2]; exact hP) hS
      · exfalso; exact c_1 (nI_lt (by omega) (by omega))
    | succ f ih_5 =>
      intro i w h1 h3 h2 H locs hP hD hS ls hl
      refine lv_iload_n hx hb dX2_multiplyByOneLess_5 rfl (lv_at hl 2 rfl) ?_
      refine lv_iload_n hx hb dX2_multiplyByOneLess_6 rfl (lv_at hl 1 rfl) ?_
      refine lv_icmp_lt (tgt := 43) hx hb dX2_multiplyByOneLess_7 (by decide) (fun c_2 => ?_) (fun c_2 => ?_)
      · exfalso; exact nI_nlt (show d ≤ i by omega) (by omega) c_2
      · skip
        refine lv_aload_n hx hb dX2_multiplyByOneLess_10 rfl (lv_at hl 0 rfl) ?_
        refine va_get (D := D) (ci := 2) (v := .ref aN) (C := RX2) (T := TX2) (N := 3) hx hb hts hi_X2_multiplyByOneLess_X2 hown hT.1 hP 0 rfl rfl 0 (by decide) (hts (.fieldLink RX2 9 "SlotStar$Root" "numbers" "[I") (List.mem_of_getElem? (i := 2) rfl)) (fun _ h9 => h9) rfl dX2_multiplyByOneLess_11 ?_
        refine lv_iload_n hx hb dX2_multiplyByOneLess_14 rfl (lv_at hl 2 rfl) ?_
        refine lv_aload_n hx hb dX2_multiplyByOneLess_15 rfl (lv_at hl 0 rfl) ?_
        refine va_get (D := D) (ci := 2) (v := .ref aN) (C := RX2) (T := TX2) (N := 3) hx hb hts hi_X2_multiplyByOneLess_X2 hown hT.1 hP 0 rfl rfl 0 (by decide) (hts (.fieldLink RX2 9 "SlotStar$Root" "numbers" "[I") (List.mem_of_getElem? (i := 2) rfl)) (fun _ h9 => h9) rfl dX2_multiplyByOneLess_16 ?_
        refine lv_iload_n hx hb dX2_multiplyByOneLess_19 rfl (lv_at hl 2 rfl) ?_
        refine ro_N (As := [.ref aN, .int (nI i)]) (rest := [.int (nI i), .ref aN]) ⟨hx, hb, hml, hown, hts⟩ hT hP (k_X3_at l D cI cZ aN 49 w i (by decide) (by omega)) (List.mem_of_getElem? (i := 6) rfl) gX2_multiplyByOneLess_X3_at_n54 (hts (.initialized RX3) (List.mem_of_getElem? (i := 4) rfl)) (hts (.static yX3_at) (List.mem_of_getElem? (i := 3) rfl)) rfl nd_X3_at [1] rfl hl.1 rfl rfl (Nat.le_of_ble_eq_true rfl) ⟨Nat.le_of_ble_eq_true rfl, Nat.le_of_ble_eq_true rfl⟩ ⟨rfl, rfl⟩ ⟨Nat.zero_le _, Nat.zero_le _⟩ dX2_multiplyByOneLess_20 ?_
        refine lv_aload_n hx hb dX2_multiplyByOneLess_23 rfl (lv_at hl 0 rfl) ?_
        refine va_get (D := D) (ci := 2) (v := .ref aN) (C := RX2) (T := TX2) (N := 3) hx hb hts hi_X2_multiplyByOneLess_X2 hown hT.1 hP 0 rfl rfl 0 (by decide) (hts (.fieldLink RX2 9 "SlotStar$Root" "numbers" "[I") (List.mem_of_getElem? (i := 2) rfl)) (fun _ h9 => h9) rfl dX2_multiplyByOneLess_24 ?_
        refine lv_iload_n hx hb dX2_multiplyByOneLess_27 rfl (lv_at hl 2 rfl) ?_
        refine lv_iload_n hx hb dX2_multiplyByOneLess_28 rfl (lv_at hl 1 rfl) ?_
        refine lv_isub hx hb dX2_multiplyByOneLess_29 ?_
        refine top_eq (z := (nI (i - d))) (by exact pk_sub (by omega)) ?_
        refine ro_N (As := [.ref aN, .int (nI (i - d))]) (rest := [.int (w i), .int (nI i), .ref aN]) ⟨hx, hb, hml, hown, hts⟩ hT hP (k_X3_at l D cI cZ aN 49 w (i - d) (by decide) (by omega)) (List.mem_of_getElem? (i := 6) rfl) gX2_multiplyByOneLess_X3_at_n54 (hts (.initialized RX3) (List.mem_of_getElem? (i := 4) rfl)) (hts (.static yX3_at) (List.mem_of_getElem? (i := 3) rfl)) rfl nd_X3_at [1] rfl hl.1 rfl rfl (Nat.le_of_ble_eq_true rfl) ⟨Nat.le_of_ble_eq_true rfl, Nat.le_of_ble_eq_true rfl⟩ ⟨rfl, rfl⟩ ⟨Nat.zero_le _, Nat.zero_le _⟩ dX2_multiplyByOneLess_30 ?_
        refine lv_isub hx hb dX2_multiplyByOneLess_33 ?_
        refine mu_N (As := [.ref aN, .int (nI i), .int ((w i) - (w (i - d)))]) (rest := []) (W1 := [(aR, .inr (2, [.ref aN, .int (nI dg), .int (nI tr)])), (aN, .inl (cI, 49, .inl (upd w i ((w i) - (w (i - d))))))]) (st1 := []) ⟨hx, hb, hml, hown, hts⟩ hT hP hD hS (k_X3_put l D cI cZ aN 49 w i ((w i) - (w (i - d))) (by decide) (by omega)) (List.mem_of_getElem? (i := 9) rfl) gX2_multiplyByOneLess_X3_put_n25 (hts (.initialized RX3) (List.mem_of_getElem? (i := 4) rfl)) (hts (.static yX3_put) (List.mem_of_getElem? (i := 9) rfl)) rfl nd_X3_put [1] (by decide) rfl rfl rfl rfl hl.1 rfl rfl (Nat.le_of_ble_eq_true rfl) ⟨Nat.le_of_ble_eq_true rfl, Nat.le_of_ble_eq_true rfl⟩ ⟨rfl, rfl⟩ ⟨Nat.zero_le _, Nat.zero_le _⟩ dX2_multiplyByOneLess_34 (fun H locs hP hD hS => ?_)
        refine lv_iinc (v := nI (i - 1)) (lv' := [(2, .int (nI (i - 1))), (0, .ref aR), (1, .int (nI d))]) hx hb dX2_multiplyByOneLess_37 hl (k := 2) rfl (sb_m1 (by omega)) (by decide) rfl (fun ls hl => ?_)
        refine lv_goto (tgt := 5) hx hb dX2_multiplyByOneLess_40 (by decide) ?_
        exact ih_5 (i - 1) _ (by omega) (by omega) (by rw [h2]; rfl) _ _ hP hD hS ls (lv_sub hl [1, 2, 0] rfl)
  exact L_5 (tr + 1 - d) tr fN (by omega) (by omega) rfl _ _ hP hD hS ls (lv_sub hl [1, 2, 0] rfl)

set_option maxRecDepth 20000 in
theorem hi_X2_divideByOneLess_X2 : ∀ w ∈ wsX20, w ∈ wsX2_divideByOneLess := by
  intro w h
  unfold wsX2_divideByOneLess
  simp only [List.mem_cons, List.mem_append, h, or_true, true_or]
theorem nd_X2_divideByOneLess : okName yX2_divideByOneLess 1 := by decide +kernel
set_option maxHeartbeats 4000000 in
set_option maxRecDepth 100000 in
theorem k_X2_divideByOneLess (l : Launch) (D : va_G) (cI cZ : ClassId) (aR : Nat) (aN : Nat) (dg : Nat) (tr : Nat) (fN : Nat → Int32) (d : Nat) (ht : tr ≤ 48) (h0 : 1 ≤ d) (hd : d ≤ tr) : MU l yX2_divideByOneLess wsX2_divideByOneLess ({ frames := 2, cells := 0, slots := 0, locals := 44 } : Room) D cI cZ [(aR, .inr (2, [.ref aN, .int (nI dg), .int (nI tr)])), (aN, .inl (cI, 49, .inl fN))] [.ref aR, .int (nI d)] none [(aR, .inr (2, [.ref aN, .int (nI dg), .int (nI tr)])), (aN, .inl (cI, 49, .inl (divL d (tr + 1 - d) d fN)))] := by
  refine mu_start (by decide) rfl (Nat.le_of_ble_eq_true rfl) ?_
  intro p e s m args below meth c hx hb hr hml hlocks hts hown hT hP hD hS ls hl
  have hown : s.vm.findClass RX2 = some m.cls := hown
  have hl : lv_has ls 3 [(0, .ref aR), (1, .int (nI d))] := hl
  refine lv_iload_n hx hb dX2_divideByOneLess_0 rfl (lv_at hl 1 rfl) ?_
  refine lv_istore_n (lv' := [(2, .int (nI d)), (0, .ref aR), (1, .int (nI d))]) hx hb dX2_divideByOneLess_1 rfl hl (by decide) rfl (fun ls hl => ?_)
  have L_2 : ∀ (f : Nat) (i : Nat) (w : Nat → Int32), i + f = tr + 1 → d ≤ i → divL d (tr + 1 - d) d fN = divL d f i w → ∀ (H : Heap) (locs : List Loc), va_P D cls5 [(aR, .inr (2, [.ref aN, .int (nI dg), .int (nI tr)])), (aN, .inl (cI, 49, .inl w))] H → va_D (va_M [(aR, .inr (2, [.ref aN, .int (nI dg), .int (nI tr)])), (aN, .inl (cI, 49, .inl fN))]) [(aR, .inr (2, [.ref aN, .int (nI dg), .int (nI tr)])), (aN, .inl (cI, 49, .inl w))] → va_S (va_M [(aR, .inr (2, [.ref aN, .int (nI dg), .int (nI tr)])), (aN, .inl (cI, 49, .inl fN))]) s.heap H locs → ∀ ls : Array Slot, lv_has ls 3 [(0, .ref aR), (1, .int (nI d)), (2, .int (nI i))] → W p l e (headSpec wsX2_divideByOneLess ({ frames := 2, cells := 0, slots := 0, locals := 44 } : Room)).room s m args below meth c H locs 0 0 (MQ below (QcM D [(aR, .inr (2, [.ref aN, .int (nI dg), .int (nI tr)])), (aN, .inl (cI, 49, .inl fN))] [(aR, .inr (2, [.ref aN, .int (nI dg), .int (nI tr)])), (aN, .inl (cI, 49, .inl (divL d (tr + 1 - d) d fN)))] none) args s 0 0 (va_M [(aR, .inr (2, [.ref aN, .int (nI dg), .int (nI tr)])), (aN, .inl (cI, 49, .inl fN))])) (F0 m 2 ls []) := by
    intro f
    induction f with
    | zero =>
      intro i w h1 h3 h2 H locs hP hD hS ls hl
      refine lv_iload_n hx hb dX2_divideByOneLess_2 rfl (lv_at hl 2 rfl) ?_
      refine lv_aload_n hx hb dX2_divideByOneLess_3 rfl (lv_at hl 0 rfl) ?_
      refine va_get (D := D) (ci := 2) (v := .int (nI tr)) (C := RX2) (T := TX2) (N := 3) hx hb hts hi_X2_divideByOneLess_X2 hown hT.1 hP 0 rfl rfl 2 (by decide) (hts (.fieldLink RX2 15 "SlotStar$Root" "turns" "I") (List.mem_of_getElem? (i := 1) rfl)) (fun _ h9 => h9) rfl dX2_divideByOneLess_4 ?_
      refine lv_icmp_gt (tgt := 43) hx hb dX2_divideByOneLess_7 (by decide) (fun c_1 => ?_) (fun c_1 => ?_)
      · skip
        exact mu_retv hx hb hr hlocks dX2_divideByOneLess_43 (by rw [h2]; exact hP) hS
      · exfalso; exact c_1 (nI_lt (by omega) (by omega))
    | succ f ih_2 =>
      intro i w h1 h3 h2 H locs hP hD hS ls hl
      refine lv_iload_n hx hb dX2_divideByOneLess_2 rfl (lv_at hl 2 rfl) ?_
      refine lv_aload_n hx hb dX2_divideByOneLess_3 rfl (lv_at hl 0 rfl) ?_
      refine va_get (D := D) (ci := 2) (v := .int (nI tr)) (C := RX2) (T := TX2) (N := 3) hx hb hts hi_X2_divideByOneLess_X2 hown hT.1 hP 0 rfl rfl 2 (by decide) (hts (.fieldLink RX2 15 "SlotStar$Root" "turns" "I") (List.mem_of_getElem? (i := 1) rfl)) (fun _ h9 => h9) rfl dX2_divideByOneLess_4 ?_
      refine lv_icmp_gt (tgt := 43) hx hb dX2_divideByOneLess_7 (by decide) (fun c_2 => ?_) (fun c_2 => ?_)
      · exfalso; exact nI_nlt (show i ≤ tr by omega) (by omega) c_2
      · skip
        refine lv_aload_n hx hb dX2_divideByOneLess_10 rfl (lv_at hl 0 rfl) ?_
        refine va_get (D := D) (ci := 2) (v := .ref aN) (C := RX2) (T := TX2) (N := 3) hx hb hts hi_X2_divideByOneLess_X2 hown hT.1 hP 0 rfl rfl 0 (by decide) (hts (.fieldLink RX2 9 "SlotStar$Root" "numbers" "[I") (List.mem_of_getElem? (i := 2) rfl)) (fun _ h9 => h9) rfl dX2_divideByOneLess_11 ?_
        refine lv_iload_n hx hb dX2_divideByOneLess_14 rfl (lv_at hl 2 rfl) ?_
        refine lv_aload_n hx hb dX2_divideByOneLess_15 rfl (lv_at hl 0 rfl) ?_
        refine va_get (D := D) (ci := 2) (v := .ref aN) (C := RX2) (T := TX2) (N := 3) hx hb hts hi_X2_divideByOneLess_X2 hown hT.1 hP 0 rfl rfl 0 (by decide) (hts (.fieldLink RX2 9 "SlotStar$Root" "numbers" "[I") (List.mem_of_getElem? (i := 2) rfl)) (fun _ h9 => h9) rfl dX2_divideByOneLess_16 ?_
        refine lv_iload_n hx hb dX2_divideByOneLess_19 rfl (lv_at hl 2 rfl) ?_
        refine ro_N (As := [.ref aN, .int (nI i)]) (rest := [.int (nI i), .ref aN]) ⟨hx, hb, hml, hown, hts⟩ hT hP (k_X3_at l D cI cZ aN 49 w i (by decide) (by omega)) (List.mem_of_getElem? (i := 6) rfl) gX2_divideByOneLess_X3_at_n54 (hts (.initialized RX3) (List.mem_of_getElem? (i := 4) rfl)) (hts (.static yX3_at) (List.mem_of_getElem? (i := 3) rfl)) rfl nd_X3_at [1] rfl hl.1 rfl rfl (Nat.le_of_ble_eq_true rfl) ⟨Nat.le_of_ble_eq_true rfl, Nat.le_of_ble_eq_true rfl⟩ ⟨rfl, rfl⟩ ⟨Nat.zero_le _, Nat.zero_le _⟩ dX2_divideByOneLess_20 ?_
        refine lv_aload_n hx hb dX2_divideByOneLess_23 rfl (lv_at hl 0 rfl) ?_
        refine va_get (D := D) (ci := 2) (v := .ref aN) (C := RX2) (T := TX2) (N := 3) hx hb hts hi_X2_divideByOneLess_X2 hown hT.1 hP 0 rfl rfl 0 (by decide) (hts (.fieldLink RX2 9 "SlotStar$Root" "numbers" "[I") (List.mem_of_getElem? (i := 2) rfl)) (fun _ h9 => h9) rfl dX2_divideByOneLess_24 ?_
        refine lv_iload_n hx hb dX2_divideByOneLess_27 rfl (lv_at hl 2 rfl) ?_
        refine lv_iload_n hx hb dX2_divideByOneLess_28 rfl (lv_at hl 1 rfl) ?_
        refine lv_isub hx hb dX2_divideByOneLess_29 ?_
        refine top_eq (z := (nI (i - d))) (by exact pk_sub (by omega)) ?_
        refine ro_N (As := [.ref aN, .int (nI (i - d))]) (rest := [.int (w i), .int (nI i), .ref aN]) ⟨hx, hb, hml, hown, hts⟩ hT hP (k_X3_at l D cI cZ aN 49 w (i - d) (by decide) (by omega)) (List.mem_of_getElem? (i := 6) rfl) gX2_divideByOneLess_X3_at_n54 (hts (.initialized RX3) (List.mem_of_getElem? (i := 4) rfl)) (hts (.static yX3_at) (List.mem_of_getElem? (i := 3) rfl)) rfl nd_X3_at [1] rfl hl.1 rfl rfl (Nat.le_of_ble_eq_true rfl) ⟨Nat.le_of_ble_eq_true rfl, Nat.le_of_ble_eq_true rfl⟩ ⟨rfl, rfl⟩ ⟨Nat.zero_le _, Nat.zero_le _⟩ dX2_divideByOneLess_30 ?_
        refine lv_iadd hx hb dX2_divideByOneLess_33 ?_
        refine mu_N (As := [.ref aN, .int (nI i), .int ((w i) + (w (i - d)))]) (rest := []) (W1 := [(aR, .inr (2, [.ref aN, .int (nI dg), .int (nI tr)])), (aN, .inl (cI, 49, .inl (upd w i ((w i) + (w (i - d))))))]) (st1 := []) ⟨hx, hb, hml, hown, hts⟩ hT hP hD hS (k_X3_put l D cI cZ aN 49 w i ((w i) + (w (i - d))) (by decide) (by omega)) (List.mem_of_getElem? (i := 9) rfl) gX2_divideByOneLess_X3_put_n25 (hts (.initialized RX3) (List.mem_of_getElem? (i := 4) rfl)) (hts (.static yX3_put) (List.mem_of_getElem? (i := 9) rfl)) rfl nd_X3_put [1] (by decide) rfl rfl rfl rfl hl.1 rfl rfl (Nat.le_of_ble_eq_true rfl) ⟨Nat.le_of_ble_eq_true rfl, Nat.le_of_ble_eq_true rfl⟩ ⟨rfl, rfl⟩ ⟨Nat.zero_le _, Nat.zero_le _⟩ dX2_divideByOneLess_34 (fun H locs hP hD hS => ?_)
        refine lv_iinc (v := nI (i + 1)) (lv' := [(2, .int (nI (i + 1))), (0, .ref aR), (1, .int (nI d))]) hx hb dX2_divideByOneLess_37 hl (k := 2) rfl ((nI_succ i).symm) (by decide) rfl (fun ls hl => ?_)
        refine lv_goto (tgt := 2) hx hb dX2_divideByOneLess_40 (by decide) ?_
        exact ih_2 (i + 1) _ (by omega) (by omega) (by rw [h2]; rfl) _ _ hP hD hS ls (lv_sub hl [1, 2, 0] rfl)
  exact L_2 (tr + 1 - d) d fN (by omega) (by omega) rfl _ _ hP hD hS ls (lv_sub hl [1, 2, 0] rfl)

set_option maxRecDepth 20000 in
theorem hi_X2_highestPower_X2 : ∀ w ∈ wsX20, w ∈ wsX2_highestPower := by
  intro w h
  unfold wsX2_highestPower
  simp only [List.mem_cons, List.mem_append, h, or_true, true_or]
theorem nd_X2_highestPower : okName yX2_highestPower 0 := by decide +kernel
set_option maxHeartbeats 4000000 in
set_option maxRecDepth 100000 in
theorem k_X2_highestPower (l : Launch) (D : va_G) (cI cZ : ClassId) (aR : Nat) (aN : Nat) (dg : Nat) (tr : Nat) (fN : Nat → Int32) (ht : tr ≤ 48) : RO l yX2_highestPower wsX2_highestPower ({ frames := 2, cells := 0, slots := 0, locals := 43 } : Room) D cI cZ [(aR, .inr (2, [.ref aN, .int (nI dg), .int (nI tr)])), (aN, .inl (cI, 49, .inl fN))] [.ref aR] (nI (hpL fN tr)) := by
  refine ro_start (by decide) rfl (Nat.le_of_ble_eq_true rfl) ?_
  intro p e s m args below meth c hx hb hr hml hlocks hts hown hT hP ls hl
  have hown : s.vm.findClass RX2 = some m.cls := hown
  have hl : lv_has ls 2 [(0, .ref aR)] := hl
  refine lv_aload_n hx hb dX2_highestPower_0 rfl (lv_at hl 0 rfl) ?_
  refine va_get (D := D) (ci := 2) (v := .int (nI tr)) (C := RX2) (T := TX2) (N := 3) hx hb hts hi_X2_highestPower_X2 hown hT.1 hP 0 rfl rfl 2 (by decide) (hts (.fieldLink RX2 15 "SlotStar$Root" "turns" "I") (List.mem_of_getElem? (i := 1) rfl)) (fun _ h9 => h9) rfl dX2_highestPower_1 ?_
  refine lv_istore_n (lv' := [(1, .int (nI tr)), (0, .ref aR)]) hx hb dX2_highestPower_4 rfl hl (by decide) rfl (fun ls hl => ?_)
  have L_5 : ∀ (i : Nat), i ≤ tr → hpL fN tr = hpL fN i → ∀ ls : Array Slot, lv_has ls 2 [(0, .ref aR), (1, .int (nI i))] → W p l e (headSpec wsX2_highestPower ({ frames := 2, cells := 0, slots := 0, locals := 43 } : Room)).room s m args below meth c s.heap [] 0 0 (MQ below (QcRead (nI (hpL fN tr))) args s 0 0 (fun _ => False)) (F0 m 5 ls []) := by
    intro i
    induction i with
    | zero =>
      intro h3 h2 ls hl
      refine lv_iload_n hx hb dX2_highestPower_5 rfl (lv_at hl 1 rfl) ?_
      refine lv_if_le (tgt := 28) hx hb dX2_highestPower_6 (by decide) (fun c_1 => ?_) (fun c_1 => ?_)
      · skip
        refine lv_iconst (v := 0) hx hb dX2_highestPower_28 (by decide) ?_
        exact ro_ret hx hb hr hlocks dX2_highestPower_29 (by rw [h2]; rfl)
      · exfalso; exact c_1 (by decide)
    | succ i ih_5 =>
      intro h3 h2 ls hl
      refine lv_iload_n hx hb dX2_highestPower_5 rfl (lv_at hl 1 rfl) ?_
      refine lv_if_le (tgt := 28) hx hb dX2_highestPower_6 (by decide) (fun c_2 => ?_) (fun c_2 => ?_)
      · exfalso; exact nI_nle (by omega) (by omega) c_2
      · skip
        refine lv_aload_n hx hb dX2_highestPower_9 rfl (lv_at hl 0 rfl) ?_
        refine va_get (D := D) (ci := 2) (v := .ref aN) (C := RX2) (T := TX2) (N := 3) hx hb hts hi_X2_highestPower_X2 hown hT.1 hP 0 rfl rfl 0 (by decide) (hts (.fieldLink RX2 9 "SlotStar$Root" "numbers" "[I") (List.mem_of_getElem? (i := 2) rfl)) (fun _ h9 => h9) rfl dX2_highestPower_10 ?_
        refine lv_iload_n hx hb dX2_highestPower_13 rfl (lv_at hl 1 rfl) ?_
        refine ro_N (As := [.ref aN, .int (nI (i + 1))]) (rest := []) ⟨hx, hb, hml, hown, hts⟩ hT hP (k_X3_at l D cI cZ aN 49 fN (i + 1) (by decide) (by omega)) (List.mem_of_getElem? (i := 6) rfl) gX2_highestPower_X3_at_n54 (hts (.initialized RX3) (List.mem_of_getElem? (i := 4) rfl)) (hts (.static yX3_at) (List.mem_of_getElem? (i := 3) rfl)) rfl nd_X3_at [1] rfl hl.1 rfl rfl (Nat.le_of_ble_eq_true rfl) ⟨Nat.le_of_ble_eq_true rfl, Nat.le_of_ble_eq_true rfl⟩ ⟨rfl, rfl⟩ ⟨Nat.zero_le _, Nat.zero_le _⟩ dX2_highestPower_14 ?_
        refine lv_if_eq (tgt := 22) hx hb dX2_highestPower_17 (by decide) (fun c_3 => ?_) (fun c_3 => ?_)
        · skip
          refine lv_iinc (v := nI i) (lv' := [(1, .int (nI i)), (0, .ref aR)]) hx hb dX2_highestPower_22 hl (k := 1) rfl (pk_m1 i) (by decide) rfl (fun ls hl => ?_)
          refine lv_goto (tgt := 5) hx hb dX2_highestPower_25 (by decide) ?_
          exact ih_5 (by omega) (by rw [h2]; simp [hpL, c_2, c_3]) ls (lv_sub hl [1, 0] rfl)
        · skip
          refine lv_iload_n hx hb dX2_highestPower_20 rfl (lv_at hl 1 rfl) ?_
          exact ro_ret hx hb hr hlocks dX2_highestPower_21 (by rw [h2]; simp [hpL, c_2, c_3])
  exact L_5 tr (by omega) rfl ls (lv_sub hl [1, 0] rfl)

set_option maxRecDepth 20000 in
theorem hi_X2_become_X2 : ∀ w ∈ wsX20, w ∈ wsX2_become := by
  intro w h
  unfold wsX2_become
  simp only [List.mem_cons, List.mem_append, h, or_true, true_or]
theorem nd_X2_become : okName yX2_become 1 := by decide +kernel
set_option maxHeartbeats 4000000 in
set_option maxRecDepth 100000 in
theorem k_X2_become (l : Launch) (D : va_G) (cI cZ : ClassId) (aR : Nat) (aN : Nat) (dg : Nat) (tr : Nat) (fN : Nat → Int32) (n : Nat) (h0 : 1 ≤ n) (hn : n ≤ 48) : MU l yX2_become wsX2_become ({ frames := 3, cells := 0, slots := 0, locals := 66 } : Room) D cI cZ [(aR, .inr (2, [.ref aN, .int (nI dg), .int (nI tr)])), (aN, .inl (cI, 49, .inl fN))] [.ref aR, .int (nI n)] none [(aR, .inr (2, [.ref aN, .int (nI (dgN n)), .int (nI n)])), (aN, .inl (cI, 49, .inl (cyR n)))] := by
  refine mu_start (by decide) rfl (Nat.le_of_ble_eq_true rfl) ?_
  intro p e s m args below meth c hx hb hr hml hlocks hts hown hT hP hD hS ls hl
  have hown : s.vm.findClass RX2 = some m.cls := hown
  have hl : lv_has ls 4 [(0, .ref aR), (1, .int (nI n))] := hl
  refine lv_aload_n hx hb dX2_become_0 rfl (lv_at hl 0 rfl) ?_
  refine lv_iload_n hx hb dX2_become_1 rfl (lv_at hl 1 rfl) ?_
  refine va_put (D := D) (ci := 2) (v := .int (nI n)) (ty := .int) (C := RX2) (T := TX2) (N := 3) hx hb hts hi_X2_become_X2 tyX2 tyX2_ok nmX2 hown hT.1 hP hD hS 0 rfl rfl 2 (by decide) (hts (.fieldLink RX2 15 "SlotStar$Root" "turns" "I") (List.mem_of_getElem? (i := 1) rfl)) (fun _ h9 => h9) rfl (by decide +kernel) rfl rfl (Nat.le_of_ble_eq_true rfl) dX2_become_2 (fun H locs hP hD hS => ?_)
  have hP : va_P D cls5 [(aR, .inr (2, [.ref aN, .int (nI dg), .int (nI n)])), (aN, .inl (cI, 49, .inl fN))] H := hP
  have hD : va_D (va_M [(aR, .inr (2, [.ref aN, .int (nI dg), .int (nI tr)])), (aN, .inl (cI, 49, .inl fN))]) [(aR, .inr (2, [.ref aN, .int (nI dg), .int (nI n)])), (aN, .inl (cI, 49, .inl fN))] := hD
  refine lv_aload_n hx hb dX2_become_5 rfl (lv_at hl 0 rfl) ?_
  refine va_get (D := D) (ci := 2) (v := .ref aN) (C := RX2) (T := TX2) (N := 3) hx hb hts hi_X2_become_X2 hown hT.1 hP 0 rfl rfl 0 (by decide) (hts (.fieldLink RX2 9 "SlotStar$Root" "numbers" "[I") (List.mem_of_getElem? (i := 2) rfl)) (fun _ h9 => h9) rfl dX2_become_6 ?_
  refine lv_iconst (v := 0) hx hb dX2_become_9 (by decide) ?_
  refine mu_S (As := [.ref aN, .int 0]) (rest := []) (W1 := [(aR, .inr (2, [.ref aN, .int (nI dg), .int (nI n)])), (aN, .inl (cI, 49, .inl (fun _ => 0)))]) (st1 := []) ⟨hx, hb, hml, hown, hts⟩ hT hP hD hS (k_J7_fill_53178 l D cI cZ aN 49 fN 0 (by decide)) gX2_become_J7_fill_53178 rfl nd_J7_fill_53178 [1] (by decide) rfl rfl rfl rfl hl.1 rfl rfl (Nat.le_of_ble_eq_true rfl) ⟨Nat.le_of_ble_eq_true rfl, Nat.le_of_ble_eq_true rfl⟩ ⟨rfl, rfl⟩ ⟨Nat.zero_le _, Nat.zero_le _⟩ dX2_become_10 (fun H locs hP hD hS => ?_)
  refine lv_aload_n hx hb dX2_become_13 rfl (lv_at hl 0 rfl) ?_
  refine va_get (D := D) (ci := 2) (v := .ref aN) (C := RX2) (T := TX2) (N := 3) hx hb hts hi_X2_become_X2 hown hT.1 hP 0 rfl rfl 0 (by decide) (hts (.fieldLink RX2 9 "SlotStar$Root" "numbers" "[I") (List.mem_of_getElem? (i := 2) rfl)) (fun _ h9 => h9) rfl dX2_become_14 ?_
  refine lv_iconst (v := 0) hx hb dX2_become_17 (by decide) ?_
  refine lv_iload_n hx hb dX2_become_18 rfl (lv_at hl 1 rfl) ?_
  refine lv_iconst (v := 1) hx hb dX2_become_19 (by decide) ?_
  refine lv_icmp_ne (tgt := 27) hx hb dX2_become_20 (by decide) (fun c_1 => ?_) (fun c_1 => ?_)
  · skip
    refine lv_iconst (v := 1) hx hb dX2_become_27 (by decide) ?_
    refine top_eq (z := (if n = 1 then (-1) else 1)) (by rw [if_neg (fun q => c_1 ((nI_eq1 (by omega)).mpr q))]) ?_
    refine mu_N (As := [.ref aN, .int 0, .int (if n = 1 then (-1) else 1)]) (rest := []) (W1 := [(aR, .inr (2, [.ref aN, .int (nI dg), .int (nI n)])), (aN, .inl (cI, 49, .inl (upd (fun _ => 0) 0 (if n = 1 then (-1) else 1))))]) (st1 := []) ⟨hx, hb, hml, hown, hts⟩ hT hP hD hS (k_X3_put l D cI cZ aN 49 (fun _ => 0) 0 (if n = 1 then (-1) else 1) (by decide) (by decide)) (List.mem_of_getElem? (i := 9) rfl) gX2_become_X3_put_n25 (hts (.initialized RX3) (List.mem_of_getElem? (i := 9) rfl)) (hts (.static yX3_put) (List.mem_of_getElem? (i := 8) rfl)) rfl nd_X3_put [1] (by decide) rfl rfl rfl rfl hl.1 rfl rfl (Nat.le_of_ble_eq_true rfl) ⟨Nat.le_of_ble_eq_true rfl, Nat.le_of_ble_eq_true rfl⟩ ⟨rfl, rfl⟩ ⟨Nat.zero_le _, Nat.zero_le _⟩ dX2_become_28 (fun H locs hP hD hS => ?_)
    refine lv_iconst (v := 1) hx hb dX2_become_31 (by decide) ?_
    refine lv_istore_n (lv' := [(2, .int 1), (0, .ref aR), (1, .int (nI n))]) hx hb dX2_become_32 rfl hl (by decide) rfl (fun ls hl => ?_)
    have L_33 : ∀ (f : Nat) (d : Nat) (w : Nat → Int32), d + f = n + 1 → 1 ≤ d → cyR n = bcL n f d w → ∀ (H : Heap) (locs : List Loc), va_P D cls5 [(aR, .inr (2, [.ref aN, .int (nI dg), .int (nI n)])), (aN, .inl (cI, 49, .inl w))] H → va_D (va_M [(aR, .inr (2, [.ref aN, .int (nI dg), .int (nI tr)])), (aN, .inl (cI, 49, .inl fN))]) [(aR, .inr (2, [.ref aN, .int (nI dg), .int (nI n)])), (aN, .inl (cI, 49, .inl w))] → va_S (va_M [(aR, .inr (2, [.ref aN, .int (nI dg), .int (nI tr)])), (aN, .inl (cI, 49, .inl fN))]) s.heap H locs → ∀ ls : Array Slot, lv_has ls 4 [(0, .ref aR), (1, .int (nI n)), (2, .int (nI d))] → W p l e (headSpec wsX2_become ({ frames := 3, cells := 0, slots := 0, locals := 66 } : Room)).room s m args below meth c H locs 0 0 (MQ below (QcM D [(aR, .inr (2, [.ref aN, .int (nI dg), .int (nI tr)])), (aN, .inl (cI, 49, .inl fN))] [(aR, .inr (2, [.ref aN, .int (nI (dgN n)), .int (nI n)])), (aN, .inl (cI, 49, .inl (cyR n)))] none) args s 0 0 (va_M [(aR, .inr (2, [.ref aN, .int (nI dg), .int (nI tr)])), (aN, .inl (cI, 49, .inl fN))])) (F0 m 33 ls []) := by
      intro f
      induction f with
      | zero =>
        intro d w h1 h3 h2 H locs hP hD hS ls hl
        refine lv_iload_n hx hb dX2_become_33 rfl (lv_at hl 2 rfl) ?_
        refine lv_iload_n hx hb dX2_become_34 rfl (lv_at hl 1 rfl) ?_
        refine lv_icmp_gt (tgt := 82) hx hb dX2_become_35 (by decide) (fun c_2 => ?_) (fun c_2 => ?_)
        · skip
          refine lv_aload_n hx hb dX2_become_82 rfl (lv_at hl 0 rfl) ?_
          refine lv_aload_n hx hb dX2_become_83 rfl (lv_at hl 0 rfl) ?_
          refine ro_V (As := []) (rest := [.ref aR]) ⟨hx, hb, hml, hown, hts⟩ hT hP (k_X2_highestPower l D cI cZ aR aN dg n w hn) gX2_become_X2_highestPower rfl rfl nd_X2_highestPower [0, 1] rfl (ci := 2) rfl rfl (q0 := 0) rfl hl.1 rfl rfl (Nat.le_of_ble_eq_true rfl) ⟨Nat.le_of_ble_eq_true rfl, Nat.le_of_ble_eq_true rfl⟩ ⟨rfl, rfl⟩ ⟨Nat.zero_le _, Nat.zero_le _⟩ dX2_become_84 ?_
          refine va_put (D := D) (ci := 2) (v := .int (nI (hpL w n))) (ty := .int) (C := RX2) (T := TX2) (N := 3) hx hb hts hi_X2_become_X2 tyX2 tyX2_ok nmX2 hown hT.1 hP hD hS 0 rfl rfl 1 (by decide) (hts (.fieldLink RX2 51 "SlotStar$Root" "degree" "I") (List.mem_of_getElem? (i := 3) rfl)) (fun _ h9 => h9) rfl (by decide +kernel) rfl rfl (Nat.le_of_ble_eq_true rfl) dX2_become_87 (fun H locs hP hD hS => ?_)
          have hP : va_P D cls5 [(aR, .inr (2, [.ref aN, .int (nI (hpL w n)), .int (nI n)])), (aN, .inl (cI, 49, .inl w))] H := hP
          have hD : va_D (va_M [(aR, .inr (2, [.ref aN, .int (nI dg), .int (nI tr)])), (aN, .inl (cI, 49, .inl fN))]) [(aR, .inr (2, [.ref aN, .int (nI (hpL w n)), .int (nI n)])), (aN, .inl (cI, 49, .inl w))] := hD
          exact mu_retv hx hb hr hlocks dX2_become_90 (by unfold dgN; rw [h2]; exact hP) hS
        · exfalso; exact c_2 (nI_lt (by omega) (by omega))
      | succ f ih_33 =>
        intro d w h1 h3 h2 H locs hP hD hS ls hl
        refine lv_iload_n hx hb dX2_become_33 rfl (lv_at hl 2 rfl) ?_
        refine lv_iload_n hx hb dX2_become_34 rfl (lv_at hl 1 rfl) ?_
        refine lv_icmp_gt (tgt := 82) hx hb dX2_become_35 (by decide) (fun c_3 => ?_) (fun c_3 => ?_)
        · exfalso; exact nI_nlt (show d ≤ n by omega) (by omega) c_3
        · skip
          refine lv_iload_n hx hb dX2_become_38 rfl (lv_at hl 1 rfl) ?_
          refine lv_iload_n hx hb dX2_become_39 rfl (lv_at hl 2 rfl) ?_
          refine ro_N (As := [.int (nI n), .int (nI d)]) (rest := []) ⟨hx, hb, hml, hown, hts⟩ hT hP (k_X3_leftOver l D cI cZ (nI n) (nI d)) (List.mem_of_getElem? (i := 8) rfl) gX2_become_X3_leftOver_n29 (hts (.initialized RX3) (List.mem_of_getElem? (i := 9) rfl)) (hts (.static yX3_leftOver) (List.mem_of_getElem? (i := 14) rfl)) rfl nd_X3_leftOver [] rfl hl.1 rfl rfl (Nat.le_of_ble_eq_true rfl) ⟨Nat.le_of_ble_eq_true rfl, Nat.le_of_ble_eq_true rfl⟩ ⟨rfl, rfl⟩ ⟨Nat.zero_le _, Nat.zero_le _⟩ dX2_become_40 ?_
          refine lv_if_ne (tgt := 76) hx hb dX2_become_43 (by decide) (fun c_4 => ?_) (fun c_4 => ?_)
          · skip
            have hm1 : ¬ n % d = 0 := fun q => c_4 ((nI_mod0 (by omega) (by omega) (by omega)).mpr q)
            refine lv_iinc (v := nI (d + 1)) (lv' := [(2, .int (nI (d + 1))), (0, .ref aR), (1, .int (nI n))]) hx hb dX2_become_76 hl (k := 2) rfl ((nI_succ d).symm) (by decide) rfl (fun ls hl => ?_)
            refine lv_goto (tgt := 33) hx hb dX2_become_79 (by decide) ?_
            exact ih_33 (d + 1) _ (by omega) (by omega) (by rw [h2]; first | simp [bcL, bcS, hm1, hq1, hq2] | simp [bcL, bcS, hm1, hq1] | simp [bcL, bcS, hm1]) _ _ hP hD hS ls (lv_sub hl [1, 2, 0] rfl)
          · skip
            have hm1 : n % d = 0 := (nI_mod0 (by omega) (by omega) (by omega)).mp c_4
            have hnd : n / d < 1000 := Nat.lt_of_le_of_lt (Nat.div_le_self _ _) (by omega)
            refine lv_iload_n hx hb dX2_become_46 rfl (lv_at hl 1 rfl) ?_
            refine lv_iload_n hx hb dX2_become_47 rfl (lv_at hl 2 rfl) ?_
            refine ro_N (As := [.int (nI n), .int (nI d)]) (rest := []) ⟨hx, hb, hml, hown, hts⟩ hT hP (k_X3_cut l D cI cZ (nI n) (nI d)) (List.mem_of_getElem? (i := 7) rfl) gX2_become_X3_cut_n33 (hts (.initialized RX3) (List.mem_of_getElem? (i := 9) rfl)) (hts (.static yX3_cut) (List.mem_of_getElem? (i := 16) rfl)) rfl nd_X3_cut [] rfl hl.1 rfl rfl (Nat.le_of_ble_eq_true rfl) ⟨Nat.le_of_ble_eq_true rfl, Nat.le_of_ble_eq_true rfl⟩ ⟨rfl, rfl⟩ ⟨Nat.zero_le _, Nat.zero_le _⟩ dX2_become_48 ?_
            refine top_eq (z := (nI (n / d))) (by exact jCut_nI (by omega) (by omega) (by omega)) ?_
            refine ro_S (As := [.int (nI (n / d))]) (rest := []) ⟨hx, hb, hml, hown, hts⟩ hT hP (k_X2_moebius l D cI cZ (n / d) hnd) gX2_become_X2_moebius rfl nd_X2_moebius [] rfl hl.1 rfl rfl (Nat.le_of_ble_eq_true rfl) ⟨Nat.le_of_ble_eq_true rfl, Nat.le_of_ble_eq_true rfl⟩ ⟨rfl, rfl⟩ ⟨Nat.zero_le _, Nat.zero_le _⟩ dX2_become_51 ?_
            refine lv_istore_n (lv' := [(3, .int (mob (n / d))), (0, .ref aR), (1, .int (nI n)), (2, .int (nI d))]) hx hb dX2_become_54 rfl hl (by decide) rfl (fun ls hl => ?_)
            refine lv_iload_n hx hb dX2_become_55 rfl (lv_at hl 0 rfl) ?_
            refine lv_if_le (tgt := 67) hx hb dX2_become_56 (by decide) (fun c_5 => ?_) (fun c_5 => ?_)
            · skip
              have hq1 := c_5
              refine lv_iload_n hx hb dX2_become_67 rfl (lv_at hl 0 rfl) ?_
              refine lv_if_ge (tgt := 76) hx hb dX2_become_68 (by decide) (fun c_6 => ?_) (fun c_6 => ?_)
              · skip
                have hq2 := c_6
                refine lv_iinc (v := nI (d + 1)) (lv' := [(2, .int (nI (d + 1))), (3, .int (mob (n / d))), (0, .ref aR), (1, .int (nI n))]) hx hb dX2_become_76 hl (k := 3) rfl ((nI_succ d).symm) (by decide) rfl (fun ls hl => ?_)
                refine lv_goto (tgt := 33) hx hb dX2_become_79 (by decide) ?_
                exact ih_33 (d + 1) _ (by omega) (by omega) (by rw [h2]; first | simp [bcL, bcS, hm1, hq1, hq2] | simp [bcL, bcS, hm1, hq1] | simp [bcL, bcS, hm1]) _ _ hP hD hS ls (lv_sub hl [2, 3, 0] rfl)
              · skip
                have hq2 := c_6
                refine lv_aload_n hx hb dX2_become_71 rfl (lv_at hl 1 rfl) ?_
                refine lv_iload_n hx hb dX2_become_72 rfl (lv_at hl 3 rfl) ?_
                refine mu_V (As := [.int (nI d)]) (rest := []) (W1 := [(aR, .inr (2, [.ref aN, .int (nI dg), .int (nI n)])), (aN, .inl (cI, 49, .inl (divL d (n + 1 - d) d w)))]) (st1 := []) ⟨hx, hb, hml, hown, hts⟩ hT hP hD hS (k_X2_divideByOneLess l D cI cZ aR aN dg n w d hn (by omega) (by omega)) gX2_become_X2_divideByOneLess rfl rfl nd_X2_divideByOneLess [0, 1] (by decide) rfl rfl rfl rfl (ci := 2) rfl rfl (q0 := 0) rfl hl.1 rfl rfl (Nat.le_of_ble_eq_true rfl) ⟨Nat.le_of_ble_eq_true rfl, Nat.le_of_ble_eq_true rfl⟩ ⟨rfl, rfl⟩ ⟨Nat.zero_le _, Nat.zero_le _⟩ dX2_become_73 (fun H locs hP hD hS => ?_)
                refine lv_iinc (v := nI (d + 1)) (lv' := [(2, .int (nI (d + 1))), (3, .int (mob (n / d))), (0, .ref aR), (1, .int (nI n))]) hx hb dX2_become_76 hl (k := 3) rfl ((nI_succ d).symm) (by decide) rfl (fun ls hl => ?_)
                refine lv_goto (tgt := 33) hx hb dX2_become_79 (by decide) ?_
                exact ih_33 (d + 1) _ (by omega) (by omega) (by rw [h2]; first | simp [bcL, bcS, hm1, hq1, hq2] | simp [bcL, bcS, hm1, hq1] | simp [bcL, bcS, hm1]) _ _ hP hD hS ls (lv_sub hl [2, 3, 0] rfl)
            · skip
              have hq1 := c_5
              refine lv_aload_n hx hb dX2_become_59 rfl (lv_at hl 1 rfl) ?_
              refine lv_iload_n hx hb dX2_become_60 rfl (lv_at hl 3 rfl) ?_
              refine mu_V (As := [.int (nI d)]) (rest := []) (W1 := [(aR, .inr (2, [.ref aN, .int (nI dg), .int (nI n)])), (aN, .inl (cI, 49, .inl (mulL d (n + 1 - d) n w)))]) (st1 := []) ⟨hx, hb, hml, hown, hts⟩ hT hP hD hS (k_X2_multiplyByOneLess l D cI cZ aR aN dg n w d hn (by omega) (by omega)) gX2_become_X2_multiplyByOneLess rfl rfl nd_X2_multiplyByOneLess [0, 1] (by decide) rfl rfl rfl rfl (ci := 2) rfl rfl (q0 := 0) rfl hl.1 rfl rfl (Nat.le_of_ble_eq_true rfl) ⟨Nat.le_of_ble_eq_true rfl, Nat.le_of_ble_eq_true rfl⟩ ⟨rfl, rfl⟩ ⟨Nat.zero_le _, Nat.zero_le _⟩ dX2_become_61 (fun H locs hP hD hS => ?_)
              refine lv_goto (tgt := 76) hx hb dX2_become_64 (by decide) ?_
              refine lv_iinc (v := nI (d + 1)) (lv' := [(2, .int (nI (d + 1))), (3, .int (mob (n / d))), (0, .ref aR), (1, .int (nI n))]) hx hb dX2_become_76 hl (k := 3) rfl ((nI_succ d).symm) (by decide) rfl (fun ls hl => ?_)
              refine lv_goto (tgt := 33) hx hb dX2_become_79 (by decide) ?_
              exact ih_33 (d + 1) _ (by omega) (by omega) (by rw [h2]; first | simp [bcL, bcS, hm1, hq1, hq2] | simp [bcL, bcS, hm1, hq1] | simp [bcL, bcS, hm1]) _ _ hP hD hS ls (lv_sub hl [2, 3, 0] rfl)
    exact L_33 n 1 _ (by omega) (by decide) rfl _ _ hP hD hS ls (lv_sub hl [1, 2, 0] rfl)
  · skip
    refine lv_iconst (v := (-1)) hx hb dX2_become_23 (by decide) ?_
    refine top_eq (z := (if n = 1 then (-1) else 1)) (by rw [if_pos ((nI_eq1 (by omega)).mp c_1)]) ?_
    refine lv_goto (tgt := 28) hx hb dX2_become_24 (by decide) ?_
    refine mu_N (As := [.ref aN, .int 0, .int (if n = 1 then (-1) else 1)]) (rest := []) (W1 := [(aR, .inr (2, [.ref aN, .int (nI dg), .int (nI n)])), (aN, .inl (cI, 49, .inl (upd (fun _ => 0) 0 (if n = 1 then (-1) else 1))))]) (st1 := []) ⟨hx, hb, hml, hown, hts⟩ hT hP hD hS (k_X3_put l D cI cZ aN 49 (fun _ => 0) 0 (if n = 1 then (-1) else 1) (by decide) (by decide)) (List.mem_of_getElem? (i := 9) rfl) gX2_become_X3_put_n25 (hts (.initialized RX3) (List.mem_of_getElem? (i := 9) rfl)) (hts (.static yX3_put) (List.mem_of_getElem? (i := 8) rfl)) rfl nd_X3_put [1] (by decide) rfl rfl rfl rfl hl.1 rfl rfl (Nat.le_of_ble_eq_true rfl) ⟨Nat.le_of_ble_eq_true rfl, Nat.le_of_ble_eq_true rfl⟩ ⟨rfl, rfl⟩ ⟨Nat.zero_le _, Nat.zero_le _⟩ dX2_become_28 (fun H locs hP hD hS => ?_)
    refine lv_iconst (v := 1) hx hb dX2_become_31 (by decide) ?_
    refine lv_istore_n (lv' := [(2, .int 1), (0, .ref aR), (1, .int (nI n))]) hx hb dX2_become_32 rfl hl (by decide) rfl (fun ls hl => ?_)
    have L_33 : ∀ (f : Nat) (d : Nat) (w : Nat → Int32), d + f = n + 1 → 1 ≤ d → cyR n = bcL n f d w → ∀ (H : Heap) (locs : List Loc), va_P D cls5 [(aR, .inr (2, [.ref aN, .int (nI dg), .int (nI n)])), (aN, .inl (cI, 49, .inl w))] H → va_D (va_M [(aR, .inr (2, [.ref aN, .int (nI dg), .int (nI tr)])), (aN, .inl (cI, 49, .inl fN))]) [(aR, .inr (2, [.ref aN, .int (nI dg), .int (nI n)])), (aN, .inl (cI, 49, .inl w))] → va_S (va_M [(aR, .inr (2, [.ref aN, .int (nI dg), .int (nI tr)])), (aN, .inl (cI, 49, .inl fN))]) s.heap H locs → ∀ ls : Array Slot, lv_has ls 4 [(0, .ref aR), (1, .int (nI n)), (2, .int (nI d))] → W p l e (headSpec wsX2_become ({ frames := 3, cells := 0, slots := 0, locals := 66 } : Room)).room s m args below meth c H locs 0 0 (MQ below (QcM D [(aR, .inr (2, [.ref aN, .int (nI dg), .int (nI tr)])), (aN, .inl (cI, 49, .inl fN))] [(aR, .inr (2, [.ref aN, .int (nI (dgN n)), .int (nI n)])), (aN, .inl (cI, 49, .inl (cyR n)))] none) args s 0 0 (va_M [(aR, .inr (2, [.ref aN, .int (nI dg), .int (nI tr)])), (aN, .inl (cI, 49, .inl fN))])) (F0 m 33 ls []) := by
      intro f
      induction f with
      | zero =>
        intro d w h1 h3 h2 H locs hP hD hS ls hl
        refine lv_iload_n hx hb dX2_become_33 rfl (lv_at hl 2 rfl) ?_
        refine lv_iload_n hx hb dX2_become_34 rfl (lv_at hl 1 rfl) ?_
        refine lv_icmp_gt (tgt := 82) hx hb dX2_become_35 (by decide) (fun c_7 => ?_) (fun c_7 => ?_)
        · skip
          refine lv_aload_n hx hb dX2_become_82 rfl (lv_at hl 0 rfl) ?_
          refine lv_aload_n hx hb dX2_become_83 rfl (lv_at hl 0 rfl) ?_
          refine ro_V (As := []) (rest := [.ref aR]) ⟨hx, hb, hml, hown, hts⟩ hT hP (k_X2_highestPower l D cI cZ aR aN dg n w hn) gX2_become_X2_highestPower rfl rfl nd_X2_highestPower [0, 1] rfl (ci := 2) rfl rfl (q0 := 0) rfl hl.1 rfl rfl (Nat.le_of_ble_eq_true rfl) ⟨Nat.le_of_ble_eq_true rfl, Nat.le_of_ble_eq_true rfl⟩ ⟨rfl, rfl⟩ ⟨Nat.zero_le _, Nat.zero_le _⟩ dX2_become_84 ?_
          refine va_put (D := D) (ci := 2) (v := .int (nI (hpL w n))) (ty := .int) (C := RX2) (T := TX2) (N := 3) hx hb hts hi_X2_become_X2 tyX2 tyX2_ok nmX2 hown hT.1 hP hD hS 0 rfl rfl 1 (by decide) (hts (.fieldLink RX2 51 "SlotStar$Root" "degree" "I") (List.mem_of_getElem? (i := 3) rfl)) (fun _ h9 => h9) rfl (by decide +kernel) rfl rfl (Nat.le_of_ble_eq_true rfl) dX2_become_87 (fun H locs hP hD hS => ?_)
          have hP : va_P D cls5 [(aR, .inr (2, [.ref aN, .int (nI (hpL w n)), .int (nI n)])), (aN, .inl (cI, 49, .inl w))] H := hP
          have hD : va_D (va_M [(aR, .inr (2, [.ref aN, .int (nI dg), .int (nI tr)])), (aN, .inl (cI, 49, .inl fN))]) [(aR, .inr (2, [.ref aN, .int (nI (hpL w n)), .int (nI n)])), (aN, .inl (cI, 49, .inl w))] := hD
          exact mu_retv hx hb hr hlocks dX2_become_90 (by unfold dgN; rw [h2]; exact hP) hS
        · exfalso; exact c_7 (nI_lt (by omega) (by omega))
      | succ f ih_33 =>
        intro d w h1 h3 h2 H locs hP hD hS ls hl
        refine lv_iload_n hx hb dX2_become_33 rfl (lv_at hl 2 rfl) ?_
        refine lv_iload_n hx hb dX2_become_34 rfl (lv_at hl 1 rfl) ?_
        refine lv_icmp_gt (tgt := 82) hx hb dX2_become_35 (by decide) (fun c_8 => ?_) (fun c_8 => ?_)
        · exfalso; exact nI_nlt (show d ≤ n by omega) (by omega) c_8
        · skip
          refine lv_iload_n hx hb dX2_become_38 rfl (lv_at hl 1 rfl) ?_
          refine lv_iload_n hx hb dX2_become_39 rfl (lv_at hl 2 rfl) ?_
          refine ro_N (As := [.int (nI n), .int (nI d)]) (rest := []) ⟨hx, hb, hml, hown, hts⟩ hT hP (k_X3_leftOver l D cI cZ (nI n) (nI d)) (List.mem_of_getElem? (i := 8) rfl) gX2_become_X3_leftOver_n29 (hts (.initialized RX3) (List.mem_of_getElem? (i := 9) rfl)) (hts (.static yX3_leftOver) (List.mem_of_getElem? (i := 14) rfl)) rfl nd_X3_leftOver [] rfl hl.1 rfl rfl (Nat.le_of_ble_eq_true rfl) ⟨Nat.le_of_ble_eq_true rfl, Nat.le_of_ble_eq_true rfl⟩ ⟨rfl, rfl⟩ ⟨Nat.zero_le _, Nat.zero_le _⟩ dX2_become_40 ?_
          refine lv_if_ne (tgt := 76) hx hb dX2_become_43 (by decide) (fun c_9 => ?_) (fun c_9 => ?_)
          · skip
            have hm1 : ¬ n % d = 0 := fun q => c_9 ((nI_mod0 (by omega) (by omega) (by omega)).mpr q)
            refine lv_iinc (v := nI (d + 1)) (lv' := [(2, .int (nI (d + 1))), (0, .ref aR), (1, .int (nI n))]) hx hb dX2_become_76 hl (k := 2) rfl ((nI_succ d).symm) (by decide) rfl (fun ls hl => ?_)
            refine lv_goto (tgt := 33) hx hb dX2_become_79 (by decide) ?_
            exact ih_33 (d + 1) _ (by omega) (by omega) (by rw [h2]; first | simp [bcL, bcS, hm1, hq1, hq2] | simp [bcL, bcS, hm1, hq1] | simp [bcL, bcS, hm1]) _ _ hP hD hS ls (lv_sub hl [1, 2, 0] rfl)
          · skip
            have hm1 : n % d = 0 := (nI_mod0 (by omega) (by omega) (by omega)).mp c_9
            have hnd : n / d < 1000 := Nat.lt_of_le_of_lt (Nat.div_le_self _ _) (by omega)
            refine lv_iload_n hx hb dX2_become_46 rfl (lv_at hl 1 rfl) ?_
            refine lv_iload_n hx hb dX2_become_47 rfl (lv_at hl 2 rfl) ?_
            refine ro_N (As := [.int (nI n), .int (nI d)]) (rest := []) ⟨hx, hb, hml, hown, hts⟩ hT hP (k_X3_cut l D cI cZ (nI n) (nI d)) (List.mem_of_getElem? (i := 7) rfl) gX2_become_X3_cut_n33 (hts (.initialized RX3) (List.mem_of_getElem? (i := 9) rfl)) (hts (.static yX3_cut) (List.mem_of_getElem? (i := 16) rfl)) rfl nd_X3_cut [] rfl hl.1 rfl rfl (Nat.le_of_ble_eq_true rfl) ⟨Nat.le_of_ble_eq_true rfl, Nat.le_of_ble_eq_true rfl⟩ ⟨rfl, rfl⟩ ⟨Nat.zero_le _, Nat.zero_le _⟩ dX2_become_48 ?_
            refine top_eq (z := (nI (n / d))) (by exact jCut_nI (by omega) (by omega) (by omega)) ?_
            refine ro_S (As := [.int (nI (n / d))]) (rest := []) ⟨hx, hb, hml, hown, hts⟩ hT hP (k_X2_moebius l D cI cZ (n / d) hnd) gX2_become_X2_moebius rfl nd_X2_moebius [] rfl hl.1 rfl rfl (Nat.le_of_ble_eq_true rfl) ⟨Nat.le_of_ble_eq_true rfl, Nat.le_of_ble_eq_true rfl⟩ ⟨rfl, rfl⟩ ⟨Nat.zero_le _, Nat.zero_le _⟩ dX2_become_51 ?_
            refine lv_istore_n (lv' := [(3, .int (mob (n / d))), (0, .ref aR), (1, .int (nI n)), (2, .int (nI d))]) hx hb dX2_become_54 rfl hl (by decide) rfl (fun ls hl => ?_)
            refine lv_iload_n hx hb dX2_become_55 rfl (lv_at hl 0 rfl) ?_
            refine lv_if_le (tgt := 67) hx hb dX2_become_56 (by decide) (fun c_10 => ?_) (fun c_10 => ?_)
            · skip
              have hq1 := c_10
              refine lv_iload_n hx hb dX2_become_67 rfl (lv_at hl 0 rfl) ?_
              refine lv_if_ge (tgt := 76) hx hb dX2_become_68 (by decide) (fun c_11 => ?_) (fun c_11 => ?_)
              · skip
                have hq2 := c_11
                refine lv_iinc (v := nI (d + 1)) (lv' := [(2, .int (nI (d + 1))), (3, .int (mob (n / d))), (0, .ref aR), (1, .int (nI n))]) hx hb dX2_become_76 hl (k := 3) rfl ((nI_succ d).symm) (by decide) rfl (fun ls hl => ?_)
                refine lv_goto (tgt := 33) hx hb dX2_become_79 (by decide) ?_
                exact ih_33 (d + 1) _ (by omega) (by omega) (by rw [h2]; first | simp [bcL, bcS, hm1, hq1, hq2] | simp [bcL, bcS, hm1, hq1] | simp [bcL, bcS, hm1]) _ _ hP hD hS ls (lv_sub hl [2, 3, 0] rfl)
              · skip
                have hq2 := c_11
                refine lv_aload_n hx hb dX2_become_71 rfl (lv_at hl 1 rfl) ?_
                refine lv_iload_n hx hb dX2_become_72 rfl (lv_at hl 3 rfl) ?_
                refine mu_V (As := [.int (nI d)]) (rest := []) (W1 := [(aR, .inr (2, [.ref aN, .int (nI dg), .int (nI n)])), (aN, .inl (cI, 49, .inl (divL d (n + 1 - d) d w)))]) (st1 := []) ⟨hx, hb, hml, hown, hts⟩ hT hP hD hS (k_X2_divideByOneLess l D cI cZ aR aN dg n w d hn (by omega) (by omega)) gX2_become_X2_divideByOneLess rfl rfl nd_X2_divideByOneLess [0, 1] (by decide) rfl rfl rfl rfl (ci := 2) rfl rfl (q0 := 0) rfl hl.1 rfl rfl (Nat.le_of_ble_eq_true rfl) ⟨Nat.le_of_ble_eq_true rfl, Nat.le_of_ble_eq_true rfl⟩ ⟨rfl, rfl⟩ ⟨Nat.zero_le _, Nat.zero_le _⟩ dX2_become_73 (fun H locs hP hD hS => ?_)
                refine lv_iinc (v := nI (d + 1)) (lv' := [(2, .int (nI (d + 1))), (3, .int (mob (n / d))), (0, .ref aR), (1, .int (nI n))]) hx hb dX2_become_76 hl (k := 3) rfl ((nI_succ d).symm) (by decide) rfl (fun ls hl => ?_)
                refine lv_goto (tgt := 33) hx hb dX2_become_79 (by decide) ?_
                exact ih_33 (d + 1) _ (by omega) (by omega) (by rw [h2]; first | simp [bcL, bcS, hm1, hq1, hq2] | simp [bcL, bcS, hm1, hq1] | simp [bcL, bcS, hm1]) _ _ hP hD hS ls (lv_sub hl [2, 3, 0] rfl)
            · skip
              have hq1 := c_10
              refine lv_aload_n hx hb dX2_become_59 rfl (lv_at hl 1 rfl) ?_
              refine lv_iload_n hx hb dX2_become_60 rfl (lv_at hl 3 rfl) ?_
              refine mu_V (As := [.int (nI d)]) (rest := []) (W1 := [(aR, .inr (2, [.ref aN, .int (nI dg), .int (nI n)])), (aN, .inl (cI, 49, .inl (mulL d (n + 1 - d) n w)))]) (st1 := []) ⟨hx, hb, hml, hown, hts⟩ hT hP hD hS (k_X2_multiplyByOneLess l D cI cZ aR aN dg n w d hn (by omega) (by omega)) gX2_become_X2_multiplyByOneLess rfl rfl nd_X2_multiplyByOneLess [0, 1] (by decide) rfl rfl rfl rfl (ci := 2) rfl rfl (q0 := 0) rfl hl.1 rfl rfl (Nat.le_of_ble_eq_true rfl) ⟨Nat.le_of_ble_eq_true rfl, Nat.le_of_ble_eq_true rfl⟩ ⟨rfl, rfl⟩ ⟨Nat.zero_le _, Nat.zero_le _⟩ dX2_become_61 (fun H locs hP hD hS => ?_)
              refine lv_goto (tgt := 76) hx hb dX2_become_64 (by decide) ?_
              refine lv_iinc (v := nI (d + 1)) (lv' := [(2, .int (nI (d + 1))), (3, .int (mob (n / d))), (0, .ref aR), (1, .int (nI n))]) hx hb dX2_become_76 hl (k := 3) rfl ((nI_succ d).symm) (by decide) rfl (fun ls hl => ?_)
              refine lv_goto (tgt := 33) hx hb dX2_become_79 (by decide) ?_
              exact ih_33 (d + 1) _ (by omega) (by omega) (by rw [h2]; first | simp [bcL, bcS, hm1, hq1, hq2] | simp [bcL, bcS, hm1, hq1] | simp [bcL, bcS, hm1]) _ _ hP hD hS ls (lv_sub hl [2, 3, 0] rfl)
    exact L_33 n 1 _ (by omega) (by decide) rfl _ _ hP hD hS ls (lv_sub hl [1, 2, 0] rfl)

set_option maxRecDepth 20000 in
theorem hi_X2_reduce_X2 : ∀ w ∈ wsX20, w ∈ wsX2_reduce := by
  intro w h
  unfold wsX2_reduce
  simp only [List.mem_cons, List.mem_append, h, or_true, true_or]
theorem nd_X2_reduce : okName yX2_reduce 1 := by decide +kernel
set_option maxHeartbeats 4000000 in
set_option maxRecDepth 100000 in
theorem k_X2_reduce (l : Launch) (D : va_G) (cI cZ : ClassId) (aR : Nat) (aN : Nat) (dg : Nat) (tr : Nat) (fN : Nat → Int32) (aX : Nat) (fX : Nat → Int32) (hg : 1 ≤ dg) (hgt : dg ≤ tr) (ht : tr ≤ 48) : MU l yX2_reduce wsX2_reduce ({ frames := 2, cells := 0, slots := 0, locals := 44 } : Room) D cI cZ [(aR, .inr (2, [.ref aN, .int (nI dg), .int (nI tr)])), (aN, .inl (cI, 49, .inl fN)), (aX, .inl (cI, 48, .inl fX))] [.ref aR, .ref aX] none [(aR, .inr (2, [.ref aN, .int (nI dg), .int (nI tr)])), (aN, .inl (cI, 49, .inl fN)), (aX, .inl (cI, 48, .inl (rdO fN dg (tr - dg) (tr - 1) fX)))] := by
  refine mu_start (by decide) rfl (Nat.le_of_ble_eq_true rfl) ?_
  intro p e s m args below meth c hx hb hr hml hlocks hts hown hT hP hD hS ls hl
  have hown : s.vm.findClass RX2 = some m.cls := hown
  have hl : lv_has ls 6 [(0, .ref aR), (1, .ref aX)] := hl
  refine lv_aload_n hx hb dX2_reduce_0 rfl (lv_at hl 0 rfl) ?_
  refine va_get (D := D) (ci := 2) (v := .int (nI tr)) (C := RX2) (T := TX2) (N := 3) hx hb hts hi_X2_reduce_X2 hown hT.1 hP 0 rfl rfl 2 (by decide) (hts (.fieldLink RX2 15 "SlotStar$Root" "turns" "I") (List.mem_of_getElem? (i := 1) rfl)) (fun _ h9 => h9) rfl dX2_reduce_1 ?_
  refine lv_iconst (v := 1) hx hb dX2_reduce_4 (by decide) ?_
  refine lv_isub hx hb dX2_reduce_5 ?_
  refine top_eq (z := (nI (tr - 1))) (by exact nI_sub1 (by omega)) ?_
  refine lv_istore_n (lv' := [(2, .int (nI (tr - 1))), (0, .ref aR), (1, .ref aX)]) hx hb dX2_reduce_6 rfl hl (by decide) rfl (fun ls hl => ?_)
  have L_7 : ∀ (f : Nat) (i : Nat) (w : Nat → Int32), i + 1 = dg + f → i + 1 ≤ tr → rdO fN dg (tr - dg) (tr - 1) fX = rdO fN dg f i w → ∀ (H : Heap) (locs : List Loc), va_P D cls5 [(aR, .inr (2, [.ref aN, .int (nI dg), .int (nI tr)])), (aN, .inl (cI, 49, .inl fN)), (aX, .inl (cI, 48, .inl w))] H → va_D (va_M [(aR, .inr (2, [.ref aN, .int (nI dg), .int (nI tr)])), (aN, .inl (cI, 49, .inl fN)), (aX, .inl (cI, 48, .inl fX))]) [(aR, .inr (2, [.ref aN, .int (nI dg), .int (nI tr)])), (aN, .inl (cI, 49, .inl fN)), (aX, .inl (cI, 48, .inl w))] → va_S (va_M [(aR, .inr (2, [.ref aN, .int (nI dg), .int (nI tr)])), (aN, .inl (cI, 49, .inl fN)), (aX, .inl (cI, 48, .inl fX))]) s.heap H locs → ∀ ls : Array Slot, lv_has ls 6 [(0, .ref aR), (1, .ref aX), (2, .int (nI i))] → W p l e (headSpec wsX2_reduce ({ frames := 2, cells := 0, slots := 0, locals := 44 } : Room)).room s m args below meth c H locs 0 0 (MQ below (QcM D [(aR, .inr (2, [.ref aN, .int (nI dg), .int (nI tr)])), (aN, .inl (cI, 49, .inl fN)), (aX, .inl (cI, 48, .inl fX))] [(aR, .inr (2, [.ref aN, .int (nI dg), .int (nI tr)])), (aN, .inl (cI, 49, .inl fN)), (aX, .inl (cI, 48, .inl (rdO fN dg (tr - dg) (tr - 1) fX)))] none) args s 0 0 (va_M [(aR, .inr (2, [.ref aN, .int (nI dg), .int (nI tr)])), (aN, .inl (cI, 49, .inl fN)), (aX, .inl (cI, 48, .inl fX))])) (F0 m 7 ls []) := by
    intro f
    induction f with
    | zero =>
      intro i w h1 h3 h2 H locs hP hD hS ls hl
      refine lv_iload_n hx hb dX2_reduce_7 rfl (lv_at hl 2 rfl) ?_
      refine lv_aload_n hx hb dX2_reduce_8 rfl (lv_at hl 0 rfl) ?_
      refine va_get (D := D) (ci := 2) (v := .int (nI dg)) (C := RX2) (T := TX2) (N := 3) hx hb hts hi_X2_reduce_X2 hown hT.1 hP 0 rfl rfl 1 (by decide) (hts (.fieldLink RX2 51 "SlotStar$Root" "degree" "I") (List.mem_of_getElem? (i := 2) rfl)) (fun _ h9 => h9) rfl dX2_reduce_9 ?_
      refine lv_icmp_lt (tgt := 80) hx hb dX2_reduce_12 (by decide) (fun c_1 => ?_) (fun c_1 => ?_)
      · skip
        exact mu_retv hx hb hr hlocks dX2_reduce_80 (by rw [h2]; exact hP) hS
      · exfalso; exact c_1 (nI_lt (by omega) (by omega))
    | succ f ih_7 =>
      intro i w h1 h3 h2 H locs hP hD hS ls hl
      refine lv_iload_n hx hb dX2_reduce_7 rfl (lv_at hl 2 rfl) ?_
      refine lv_aload_n hx hb dX2_reduce_8 rfl (lv_at hl 0 rfl) ?_
      refine va_get (D := D) (ci := 2) (v := .int (nI dg)) (C := RX2) (T := TX2) (N := 3) hx hb hts hi_X2_reduce_X2 hown hT.1 hP 0 rfl rfl 1 (by decide) (hts (.fieldLink RX2 51 "SlotStar$Root" "degree" "I") (List.mem_of_getElem? (i := 2) rfl)) (fun _ h9 => h9) rfl dX2_reduce_9 ?_
      refine lv_icmp_lt (tgt := 80) hx hb dX2_reduce_12 (by decide) (fun c_2 => ?_) (fun c_2 => ?_)
      · exfalso; exact nI_nlt (show dg ≤ i by omega) (by omega) c_2
      · skip
        refine lv_aload_n hx hb dX2_reduce_15 rfl (lv_at hl 1 rfl) ?_
        refine lv_iload_n hx hb dX2_reduce_16 rfl (lv_at hl 2 rfl) ?_
        refine ro_N (As := [.ref aX, .int (nI i)]) (rest := []) ⟨hx, hb, hml, hown, hts⟩ hT hP (k_X3_at l D cI cZ aX 48 w i (by decide) (by omega)) (List.mem_of_getElem? (i := 6) rfl) gX2_reduce_X3_at_n54 (hts (.initialized RX3) (List.mem_of_getElem? (i := 5) rfl)) (hts (.static yX3_at) (List.mem_of_getElem? (i := 4) rfl)) rfl nd_X3_at [2] rfl hl.1 rfl rfl (Nat.le_of_ble_eq_true rfl) ⟨Nat.le_of_ble_eq_true rfl, Nat.le_of_ble_eq_true rfl⟩ ⟨rfl, rfl⟩ ⟨Nat.zero_le _, Nat.zero_le _⟩ dX2_reduce_17 ?_
        refine lv_istore_n (lv' := [(3, .int (w i)), (0, .ref aR), (1, .ref aX), (2, .int (nI i))]) hx hb dX2_reduce_20 rfl hl (by decide) rfl (fun ls hl => ?_)
        refine lv_iconst (v := 0) hx hb dX2_reduce_21 (by decide) ?_
        refine lv_istore (lv' := [(4, .int 0), (3, .int (w i)), (0, .ref aR), (1, .ref aX), (2, .int (nI i))]) hx hb dX2_reduce_22 hl (by decide) rfl (fun ls hl => ?_)
        have L_24 : ∀ (f2 : Nat) (j : Nat) (v : Nat → Int32), j + f2 = dg + 1 → rdI fN (i - dg) (w i) (dg + 1) 0 w = rdI fN (i - dg) (w i) f2 j v → ∀ (H : Heap) (locs : List Loc), va_P D cls5 [(aR, .inr (2, [.ref aN, .int (nI dg), .int (nI tr)])), (aN, .inl (cI, 49, .inl fN)), (aX, .inl (cI, 48, .inl v))] H → va_D (va_M [(aR, .inr (2, [.ref aN, .int (nI dg), .int (nI tr)])), (aN, .inl (cI, 49, .inl fN)), (aX, .inl (cI, 48, .inl fX))]) [(aR, .inr (2, [.ref aN, .int (nI dg), .int (nI tr)])), (aN, .inl (cI, 49, .inl fN)), (aX, .inl (cI, 48, .inl v))] → va_S (va_M [(aR, .inr (2, [.ref aN, .int (nI dg), .int (nI tr)])), (aN, .inl (cI, 49, .inl fN)), (aX, .inl (cI, 48, .inl fX))]) s.heap H locs → ∀ ls : Array Slot, lv_has ls 6 [(0, .ref aR), (1, .ref aX), (2, .int (nI i)), (3, .int (w i)), (4, .int (nI j))] → W p l e (headSpec wsX2_reduce ({ frames := 2, cells := 0, slots := 0, locals := 44 } : Room)).room s m args below meth c H locs 0 0 (MQ below (QcM D [(aR, .inr (2, [.ref aN, .int (nI dg), .int (nI tr)])), (aN, .inl (cI, 49, .inl fN)), (aX, .inl (cI, 48, .inl fX))] [(aR, .inr (2, [.ref aN, .int (nI dg), .int (nI tr)])), (aN, .inl (cI, 49, .inl fN)), (aX, .inl (cI, 48, .inl (rdO fN dg (tr - dg) (tr - 1) fX)))] none) args s 0 0 (va_M [(aR, .inr (2, [.ref aN, .int (nI dg), .int (nI tr)])), (aN, .inl (cI, 49, .inl fN)), (aX, .inl (cI, 48, .inl fX))])) (F0 m 24 ls []) := by
          intro f2
          induction f2 with
          | zero =>
            intro j v h5 h4 H locs hP hD hS ls hl
            refine lv_iload hx hb dX2_reduce_24 (lv_at hl 4 rfl) ?_
            refine lv_aload_n hx hb dX2_reduce_26 rfl (lv_at hl 0 rfl) ?_
            refine va_get (D := D) (ci := 2) (v := .int (nI dg)) (C := RX2) (T := TX2) (N := 3) hx hb hts hi_X2_reduce_X2 hown hT.1 hP 0 rfl rfl 1 (by decide) (hts (.fieldLink RX2 51 "SlotStar$Root" "degree" "I") (List.mem_of_getElem? (i := 2) rfl)) (fun _ h9 => h9) rfl dX2_reduce_27 ?_
            refine lv_icmp_gt (tgt := 74) hx hb dX2_reduce_30 (by decide) (fun c_3 => ?_) (fun c_3 => ?_)
            · skip
              refine lv_iinc (v := nI (i - 1)) (lv' := [(2, .int (nI (i - 1))), (0, .ref aR), (1, .ref aX), (3, .int (w i)), (4, .int (nI j))]) hx hb dX2_reduce_74 hl (k := 2) rfl (sb_m1 (by omega)) (by decide) rfl (fun ls hl => ?_)
              refine lv_goto (tgt := 7) hx hb dX2_reduce_77 (by decide) ?_
              exact ih_7 (i - 1) _ (by omega) (by omega) (by rw [h2]; simp only [rdO]; rw [h4]; rfl) _ _ hP hD hS ls (lv_sub hl [1, 2, 0] rfl)
            · exfalso; exact c_3 (nI_lt (by omega) (by omega))
          | succ f2 ih_24 =>
            intro j v h5 h4 H locs hP hD hS ls hl
            refine lv_iload hx hb dX2_reduce_24 (lv_at hl 4 rfl) ?_
            refine lv_aload_n hx hb dX2_reduce_26 rfl (lv_at hl 0 rfl) ?_
            refine va_get (D := D) (ci := 2) (v := .int (nI dg)) (C := RX2) (T := TX2) (N := 3) hx hb hts hi_X2_reduce_X2 hown hT.1 hP 0 rfl rfl 1 (by decide) (hts (.fieldLink RX2 51 "SlotStar$Root" "degree" "I") (List.mem_of_getElem? (i := 2) rfl)) (fun _ h9 => h9) rfl dX2_reduce_27 ?_
            refine lv_icmp_gt (tgt := 74) hx hb dX2_reduce_30 (by decide) (fun c_4 => ?_) (fun c_4 => ?_)
            · exfalso; exact nI_nlt (show j ≤ dg by omega) (by omega) c_4
            · skip
              refine lv_iload_n hx hb dX2_reduce_33 rfl (lv_at hl 2 rfl) ?_
              refine lv_aload_n hx hb dX2_reduce_34 rfl (lv_at hl 0 rfl) ?_
              refine va_get (D := D) (ci := 2) (v := .int (nI dg)) (C := RX2) (T := TX2) (N := 3) hx hb hts hi_X2_reduce_X2 hown hT.1 hP 0 rfl rfl 1 (by decide) (hts (.fieldLink RX2 51 "SlotStar$Root" "degree" "I") (List.mem_of_getElem? (i := 2) rfl)) (fun _ h9 => h9) rfl dX2_reduce_35 ?_
              refine lv_isub hx hb dX2_reduce_38 ?_
              refine top_eq (z := (nI (i - dg))) (by exact pk_sub (by omega)) ?_
              refine lv_iload hx hb dX2_reduce_39 (lv_at hl 4 rfl) ?_
              refine lv_iadd hx hb dX2_reduce_41 ?_
              refine top_eq (z := (nI (i - dg + j))) (by exact nI_add _ _) ?_
              refine lv_istore (lv' := [(5, .int (nI (i - dg + j))), (0, .ref aR), (1, .ref aX), (2, .int (nI i)), (3, .int (w i)), (4, .int (nI j))]) hx hb dX2_reduce_42 hl (by decide) rfl (fun ls hl => ?_)
              refine lv_aload_n hx hb dX2_reduce_44 rfl (lv_at hl 2 rfl) ?_
              refine lv_iload hx hb dX2_reduce_45 (lv_at hl 0 rfl) ?_
              refine lv_aload_n hx hb dX2_reduce_47 rfl (lv_at hl 2 rfl) ?_
              refine lv_iload hx hb dX2_reduce_48 (lv_at hl 0 rfl) ?_
              refine ro_N (As := [.ref aX, .int (nI (i - dg + j))]) (rest := [.int (nI (i - dg + j)), .ref aX]) ⟨hx, hb, hml, hown, hts⟩ hT hP (k_X3_at l D cI cZ aX 48 v (i - dg + j) (by decide) (by omega)) (List.mem_of_getElem? (i := 6) rfl) gX2_reduce_X3_at_n54 (hts (.initialized RX3) (List.mem_of_getElem? (i := 5) rfl)) (hts (.static yX3_at) (List.mem_of_getElem? (i := 4) rfl)) rfl nd_X3_at [2] rfl hl.1 rfl rfl (Nat.le_of_ble_eq_true rfl) ⟨Nat.le_of_ble_eq_true rfl, Nat.le_of_ble_eq_true rfl⟩ ⟨rfl, rfl⟩ ⟨Nat.zero_le _, Nat.zero_le _⟩ dX2_reduce_50 ?_
              refine lv_iload_n hx hb dX2_reduce_53 rfl (lv_at hl 4 rfl) ?_
              refine lv_aload_n hx hb dX2_reduce_54 rfl (lv_at hl 1 rfl) ?_
              refine va_get (D := D) (ci := 2) (v := .ref aN) (C := RX2) (T := TX2) (N := 3) hx hb hts hi_X2_reduce_X2 hown hT.1 hP 0 rfl rfl 0 (by decide) (hts (.fieldLink RX2 9 "SlotStar$Root" "numbers" "[I") (List.mem_of_getElem? (i := 3) rfl)) (fun _ h9 => h9) rfl dX2_reduce_55 ?_
              refine lv_iload hx hb dX2_reduce_58 (lv_at hl 5 rfl) ?_
              refine ro_N (As := [.ref aN, .int (nI j)]) (rest := [.int (w i), .int (v (i - dg + j)), .int (nI (i - dg + j)), .ref aX]) ⟨hx, hb, hml, hown, hts⟩ hT hP (k_X3_at l D cI cZ aN 49 fN j (by decide) (by omega)) (List.mem_of_getElem? (i := 6) rfl) gX2_reduce_X3_at_n54 (hts (.initialized RX3) (List.mem_of_getElem? (i := 5) rfl)) (hts (.static yX3_at) (List.mem_of_getElem? (i := 4) rfl)) rfl nd_X3_at [1] rfl hl.1 rfl rfl (Nat.le_of_ble_eq_true rfl) ⟨Nat.le_of_ble_eq_true rfl, Nat.le_of_ble_eq_true rfl⟩ ⟨rfl, rfl⟩ ⟨Nat.zero_le _, Nat.zero_le _⟩ dX2_reduce_60 ?_
              refine lv_imul hx hb dX2_reduce_63 ?_
              refine lv_isub hx hb dX2_reduce_64 ?_
              refine mu_N (As := [.ref aX, .int (nI (i - dg + j)), .int ((v (i - dg + j)) - ((w i) * (fN j)))]) (rest := []) (W1 := [(aR, .inr (2, [.ref aN, .int (nI dg), .int (nI tr)])), (aN, .inl (cI, 49, .inl fN)), (aX, .inl (cI, 48, .inl (upd v (i - dg + j) ((v (i - dg + j)) - ((w i) * (fN j))))))]) (st1 := []) ⟨hx, hb, hml, hown, hts⟩ hT hP hD hS (k_X3_put l D cI cZ aX 48 v (i - dg + j) ((v (i - dg + j)) - ((w i) * (fN j))) (by decide) (by omega)) (List.mem_of_getElem? (i := 9) rfl) gX2_reduce_X3_put_n25 (hts (.initialized RX3) (List.mem_of_getElem? (i := 5) rfl)) (hts (.static yX3_put) (List.mem_of_getElem? (i := 10) rfl)) rfl nd_X3_put [2] (by decide) rfl rfl rfl rfl hl.1 rfl rfl (Nat.le_of_ble_eq_true rfl) ⟨Nat.le_of_ble_eq_true rfl, Nat.le_of_ble_eq_true rfl⟩ ⟨rfl, rfl⟩ ⟨Nat.zero_le _, Nat.zero_le _⟩ dX2_reduce_65 (fun H locs hP hD hS => ?_)
              refine lv_iinc (v := nI (j + 1)) (lv' := [(4, .int (nI (j + 1))), (5, .int (nI (i - dg + j))), (0, .ref aR), (1, .ref aX), (2, .int (nI i)), (3, .int (w i))]) hx hb dX2_reduce_68 hl (k := 5) rfl ((nI_succ j).symm) (by decide) rfl (fun ls hl => ?_)
              refine lv_goto (tgt := 24) hx hb dX2_reduce_71 (by decide) ?_
              exact ih_24 (j + 1) _ (by omega) (by rw [h4]; rfl) _ _ hP hD hS ls (lv_sub hl [2, 3, 4, 5, 0] rfl)
        exact L_24 (dg + 1) 0 w (by omega) rfl _ _ hP hD hS ls (lv_sub hl [2, 3, 4, 1, 0] rfl)
  exact L_7 (tr - dg) (tr - 1) fX (by omega) (by omega) rfl _ _ hP hD hS ls (lv_sub hl [1, 2, 0] rfl)

set_option maxRecDepth 20000 in
theorem hi_X2_multiplyByX_X2 : ∀ w ∈ wsX20, w ∈ wsX2_multiplyByX := by
  intro w h
  unfold wsX2_multiplyByX
  simp only [List.mem_cons, List.mem_append, h, or_true, true_or]
theorem nd_X2_multiplyByX : okName yX2_multiplyByX 1 := by decide +kernel
set_option maxHeartbeats 4000000 in
set_option maxRecDepth 100000 in
theorem k_X2_multiplyByX (l : Launch) (D : va_G) (cI cZ : ClassId) (aR : Nat) (aN : Nat) (dg : Nat) (tr : Nat) (fN : Nat → Int32) (aX : Nat) (fX : Nat → Int32) (hg : 1 ≤ dg) (hgt : dg ≤ tr) (ht : tr ≤ 48) (hg2 : dg ≤ 48) : MU l yX2_multiplyByX wsX2_multiplyByX ({ frames := 2, cells := 0, slots := 0, locals := 44 } : Room) D cI cZ [(aR, .inr (2, [.ref aN, .int (nI dg), .int (nI tr)])), (aN, .inl (cI, 49, .inl fN)), (aX, .inl (cI, 48, .inl fX))] [.ref aR, .ref aX] none [(aR, .inr (2, [.ref aN, .int (nI dg), .int (nI tr)])), (aN, .inl (cI, 49, .inl fN)), (aX, .inl (cI, 48, .inl (rmx fN dg fX)))] := by
  refine mu_start (by decide) rfl (Nat.le_of_ble_eq_true rfl) ?_
  intro p e s m args below meth c hx hb hr hml hlocks hts hown hT hP hD hS ls hl
  have hown : s.vm.findClass RX2 = some m.cls := hown
  have hl : lv_has ls 4 [(0, .ref aR), (1, .ref aX)] := hl
  refine lv_aload_n hx hb dX2_multiplyByX_0 rfl (lv_at hl 1 rfl) ?_
  refine lv_aload_n hx hb dX2_multiplyByX_1 rfl (lv_at hl 0 rfl) ?_
  refine va_get (D := D) (ci := 2) (v := .int (nI dg)) (C := RX2) (T := TX2) (N := 3) hx hb hts hi_X2_multiplyByX_X2 hown hT.1 hP 0 rfl rfl 1 (by decide) (hts (.fieldLink RX2 51 "SlotStar$Root" "degree" "I") (List.mem_of_getElem? (i := 1) rfl)) (fun _ h9 => h9) rfl dX2_multiplyByX_2 ?_
  refine lv_iconst (v := 1) hx hb dX2_multiplyByX_5 (by decide) ?_
  refine lv_isub hx hb dX2_multiplyByX_6 ?_
  refine top_eq (z := (nI (dg - 1))) (by exact nI_sub1 (by omega)) ?_
  refine ro_N (As := [.ref aX, .int (nI (dg - 1))]) (rest := []) ⟨hx, hb, hml, hown, hts⟩ hT hP (k_X3_at l D cI cZ aX 48 fX (dg - 1) (by decide) (by omega)) (List.mem_of_getElem? (i := 6) rfl) gX2_multiplyByX_X3_at_n54 (hts (.initialized RX3) (List.mem_of_getElem? (i := 4) rfl)) (hts (.static yX3_at) (List.mem_of_getElem? (i := 3) rfl)) rfl nd_X3_at [2] rfl hl.1 rfl rfl (Nat.le_of_ble_eq_true rfl) ⟨Nat.le_of_ble_eq_true rfl, Nat.le_of_ble_eq_true rfl⟩ ⟨rfl, rfl⟩ ⟨Nat.zero_le _, Nat.zero_le _⟩ dX2_multiplyByX_7 ?_
  refine lv_istore_n (lv' := [(2, .int (fX (dg - 1))), (0, .ref aR), (1, .ref aX)]) hx hb dX2_multiplyByX_10 rfl hl (by decide) rfl (fun ls hl => ?_)
  refine lv_aload_n hx hb dX2_multiplyByX_11 rfl (lv_at hl 1 rfl) ?_
  refine va_get (D := D) (ci := 2) (v := .int (nI dg)) (C := RX2) (T := TX2) (N := 3) hx hb hts hi_X2_multiplyByX_X2 hown hT.1 hP 0 rfl rfl 1 (by decide) (hts (.fieldLink RX2 51 "SlotStar$Root" "degree" "I") (List.mem_of_getElem? (i := 1) rfl)) (fun _ h9 => h9) rfl dX2_multiplyByX_12 ?_
  refine lv_iconst (v := 1) hx hb dX2_multiplyByX_15 (by decide) ?_
  refine lv_isub hx hb dX2_multiplyByX_16 ?_
  refine top_eq (z := (nI (dg - 1))) (by exact nI_sub1 (by omega)) ?_
  refine lv_istore_n (lv' := [(3, .int (nI (dg - 1))), (2, .int (fX (dg - 1))), (0, .ref aR), (1, .ref aX)]) hx hb dX2_multiplyByX_17 rfl hl (by decide) rfl (fun ls hl => ?_)
  have L_18 : ∀ (i : Nat) (w : Nat → Int32), i + 1 ≤ dg → mxL fN (fX (dg - 1)) (dg - 1) fX = mxL fN (fX (dg - 1)) i w → ∀ (H : Heap) (locs : List Loc), va_P D cls5 [(aR, .inr (2, [.ref aN, .int (nI dg), .int (nI tr)])), (aN, .inl (cI, 49, .inl fN)), (aX, .inl (cI, 48, .inl w))] H → va_D (va_M [(aR, .inr (2, [.ref aN, .int (nI dg), .int (nI tr)])), (aN, .inl (cI, 49, .inl fN)), (aX, .inl (cI, 48, .inl fX))]) [(aR, .inr (2, [.ref aN, .int (nI dg), .int (nI tr)])), (aN, .inl (cI, 49, .inl fN)), (aX, .inl (cI, 48, .inl w))] → va_S (va_M [(aR, .inr (2, [.ref aN, .int (nI dg), .int (nI tr)])), (aN, .inl (cI, 49, .inl fN)), (aX, .inl (cI, 48, .inl fX))]) s.heap H locs → ∀ ls : Array Slot, lv_has ls 4 [(0, .ref aR), (1, .ref aX), (2, .int (fX (dg - 1))), (3, .int (nI i))] → W p l e (headSpec wsX2_multiplyByX ({ frames := 2, cells := 0, slots := 0, locals := 44 } : Room)).room s m args below meth c H locs 0 0 (MQ below (QcM D [(aR, .inr (2, [.ref aN, .int (nI dg), .int (nI tr)])), (aN, .inl (cI, 49, .inl fN)), (aX, .inl (cI, 48, .inl fX))] [(aR, .inr (2, [.ref aN, .int (nI dg), .int (nI tr)])), (aN, .inl (cI, 49, .inl fN)), (aX, .inl (cI, 48, .inl (rmx fN dg fX)))] none) args s 0 0 (va_M [(aR, .inr (2, [.ref aN, .int (nI dg), .int (nI tr)])), (aN, .inl (cI, 49, .inl fN)), (aX, .inl (cI, 48, .inl fX))])) (F0 m 18 ls []) := by
    intro i
    induction i with
    | zero =>
      intro w h3 h2 H locs hP hD hS ls hl
      refine lv_iload_n hx hb dX2_multiplyByX_18 rfl (lv_at hl 3 rfl) ?_
      refine lv_if_le (tgt := 51) hx hb dX2_multiplyByX_19 (by decide) (fun c_1 => ?_) (fun c_1 => ?_)
      · skip
        refine lv_aload_n hx hb dX2_multiplyByX_51 rfl (lv_at hl 1 rfl) ?_
        refine lv_iconst (v := 0) hx hb dX2_multiplyByX_52 (by decide) ?_
        refine lv_iload_n hx hb dX2_multiplyByX_53 rfl (lv_at hl 2 rfl) ?_
        refine lv_ineg hx hb dX2_multiplyByX_54 ?_
        refine lv_aload_n hx hb dX2_multiplyByX_55 rfl (lv_at hl 0 rfl) ?_
        refine va_get (D := D) (ci := 2) (v := .ref aN) (C := RX2) (T := TX2) (N := 3) hx hb hts hi_X2_multiplyByX_X2 hown hT.1 hP 0 rfl rfl 0 (by decide) (hts (.fieldLink RX2 9 "SlotStar$Root" "numbers" "[I") (List.mem_of_getElem? (i := 2) rfl)) (fun _ h9 => h9) rfl dX2_multiplyByX_56 ?_
        refine lv_iconst (v := 0) hx hb dX2_multiplyByX_59 (by decide) ?_
        refine ro_N (As := [.ref aN, .int 0]) (rest := [.int (-(fX (dg - 1))), .int 0, .ref aX]) ⟨hx, hb, hml, hown, hts⟩ hT hP (k_X3_at l D cI cZ aN 49 fN 0 (by decide) (by omega)) (List.mem_of_getElem? (i := 6) rfl) gX2_multiplyByX_X3_at_n54 (hts (.initialized RX3) (List.mem_of_getElem? (i := 4) rfl)) (hts (.static yX3_at) (List.mem_of_getElem? (i := 3) rfl)) rfl nd_X3_at [1] rfl hl.1 rfl rfl (Nat.le_of_ble_eq_true rfl) ⟨Nat.le_of_ble_eq_true rfl, Nat.le_of_ble_eq_true rfl⟩ ⟨rfl, rfl⟩ ⟨Nat.zero_le _, Nat.zero_le _⟩ dX2_multiplyByX_60 ?_
        refine lv_imul hx hb dX2_multiplyByX_63 ?_
        refine mu_N (As := [.ref aX, .int 0, .int ((-(fX (dg - 1))) * (fN 0))]) (rest := []) (W1 := [(aR, .inr (2, [.ref aN, .int (nI dg), .int (nI tr)])), (aN, .inl (cI, 49, .inl fN)), (aX, .inl (cI, 48, .inl (upd w 0 ((-(fX (dg - 1))) * (fN 0)))))]) (st1 := []) ⟨hx, hb, hml, hown, hts⟩ hT hP hD hS (k_X3_put l D cI cZ aX 48 w 0 ((-(fX (dg - 1))) * (fN 0)) (by decide) (by omega)) (List.mem_of_getElem? (i := 9) rfl) gX2_multiplyByX_X3_put_n25 (hts (.initialized RX3) (List.mem_of_getElem? (i := 4) rfl)) (hts (.static yX3_put) (List.mem_of_getElem? (i := 9) rfl)) rfl nd_X3_put [2] (by decide) rfl rfl rfl rfl hl.1 rfl rfl (Nat.le_of_ble_eq_true rfl) ⟨Nat.le_of_ble_eq_true rfl, Nat.le_of_ble_eq_true rfl⟩ ⟨rfl, rfl⟩ ⟨Nat.zero_le _, Nat.zero_le _⟩ dX2_multiplyByX_64 (fun H locs hP hD hS => ?_)
        exact mu_retv hx hb hr hlocks dX2_multiplyByX_67 (by unfold rmx; rw [h2]; exact hP) hS
      · exfalso; exact c_1 (by decide)
    | succ i ih_18 =>
      intro w h3 h2 H locs hP hD hS ls hl
      refine lv_iload_n hx hb dX2_multiplyByX_18 rfl (lv_at hl 3 rfl) ?_
      refine lv_if_le (tgt := 51) hx hb dX2_multiplyByX_19 (by decide) (fun c_2 => ?_) (fun c_2 => ?_)
      · exfalso; exact nI_nle (by omega) (by omega) c_2
      · skip
        refine lv_aload_n hx hb dX2_multiplyByX_22 rfl (lv_at hl 1 rfl) ?_
        refine lv_iload_n hx hb dX2_multiplyByX_23 rfl (lv_at hl 3 rfl) ?_
        refine lv_aload_n hx hb dX2_multiplyByX_24 rfl (lv_at hl 1 rfl) ?_
        refine lv_iload_n hx hb dX2_multiplyByX_25 rfl (lv_at hl 3 rfl) ?_
        refine lv_iconst (v := 1) hx hb dX2_multiplyByX_26 (by decide) ?_
        refine lv_isub hx hb dX2_multiplyByX_27 ?_
        refine top_eq (z := (nI i)) (by exact nI_pred i) ?_
        refine ro_N (As := [.ref aX, .int (nI i)]) (rest := [.int (nI (i + 1)), .ref aX]) ⟨hx, hb, hml, hown, hts⟩ hT hP (k_X3_at l D cI cZ aX 48 w i (by decide) (by omega)) (List.mem_of_getElem? (i := 6) rfl) gX2_multiplyByX_X3_at_n54 (hts (.initialized RX3) (List.mem_of_getElem? (i := 4) rfl)) (hts (.static yX3_at) (List.mem_of_getElem? (i := 3) rfl)) rfl nd_X3_at [2] rfl hl.1 rfl rfl (Nat.le_of_ble_eq_true rfl) ⟨Nat.le_of_ble_eq_true rfl, Nat.le_of_ble_eq_true rfl⟩ ⟨rfl, rfl⟩ ⟨Nat.zero_le _, Nat.zero_le _⟩ dX2_multiplyByX_28 ?_
        refine lv_iload_n hx hb dX2_multiplyByX_31 rfl (lv_at hl 2 rfl) ?_
        refine lv_aload_n hx hb dX2_multiplyByX_32 rfl (lv_at hl 0 rfl) ?_
        refine va_get (D := D) (ci := 2) (v := .ref aN) (C := RX2) (T := TX2) (N := 3) hx hb hts hi_X2_multiplyByX_X2 hown hT.1 hP 0 rfl rfl 0 (by decide) (hts (.fieldLink RX2 9 "SlotStar$Root" "numbers" "[I") (List.mem_of_getElem? (i := 2) rfl)) (fun _ h9 => h9) rfl dX2_multiplyByX_33 ?_
        refine lv_iload_n hx hb dX2_multiplyByX_36 rfl (lv_at hl 3 rfl) ?_
        refine ro_N (As := [.ref aN, .int (nI (i + 1))]) (rest := [.int (fX (dg - 1)), .int (w i), .int (nI (i + 1)), .ref aX]) ⟨hx, hb, hml, hown, hts⟩ hT hP (k_X3_at l D cI cZ aN 49 fN (i + 1) (by decide) (by omega)) (List.mem_of_getElem? (i := 6) rfl) gX2_multiplyByX_X3_at_n54 (hts (.initialized RX3) (List.mem_of_getElem? (i := 4) rfl)) (hts (.static yX3_at) (List.mem_of_getElem? (i := 3) rfl)) rfl nd_X3_at [1] rfl hl.1 rfl rfl (Nat.le_of_ble_eq_true rfl) ⟨Nat.le_of_ble_eq_true rfl, Nat.le_of_ble_eq_true rfl⟩ ⟨rfl, rfl⟩ ⟨Nat.zero_le _, Nat.zero_le _⟩ dX2_multiplyByX_37 ?_
        refine lv_imul hx hb dX2_multiplyByX_40 ?_
        refine lv_isub hx hb dX2_multiplyByX_41 ?_
        refine mu_N (As := [.ref aX, .int (nI (i + 1)), .int ((w i) - ((fX (dg - 1)) * (fN (i + 1))))]) (rest := []) (W1 := [(aR, .inr (2, [.ref aN, .int (nI dg), .int (nI tr)])), (aN, .inl (cI, 49, .inl fN)), (aX, .inl (cI, 48, .inl (upd w (i + 1) ((w i) - ((fX (dg - 1)) * (fN (i + 1)))))))]) (st1 := []) ⟨hx, hb, hml, hown, hts⟩ hT hP hD hS (k_X3_put l D cI cZ aX 48 w (i + 1) ((w i) - ((fX (dg - 1)) * (fN (i + 1)))) (by decide) (by omega)) (List.mem_of_getElem? (i := 9) rfl) gX2_multiplyByX_X3_put_n25 (hts (.initialized RX3) (List.mem_of_getElem? (i := 4) rfl)) (hts (.static yX3_put) (List.mem_of_getElem? (i := 9) rfl)) rfl nd_X3_put [2] (by decide) rfl rfl rfl rfl hl.1 rfl rfl (Nat.le_of_ble_eq_true rfl) ⟨Nat.le_of_ble_eq_true rfl, Nat.le_of_ble_eq_true rfl⟩ ⟨rfl, rfl⟩ ⟨Nat.zero_le _, Nat.zero_le _⟩ dX2_multiplyByX_42 (fun H locs hP hD hS => ?_)
        refine lv_iinc (v := nI i) (lv' := [(3, .int (nI i)), (0, .ref aR), (1, .ref aX), (2, .int (fX (dg - 1)))]) hx hb dX2_multiplyByX_45 hl (k := 3) rfl (pk_m1 i) (by decide) rfl (fun ls hl => ?_)
        refine lv_goto (tgt := 18) hx hb dX2_multiplyByX_48 (by decide) ?_
        exact ih_18 _ (by omega) (by rw [h2]; rfl) _ _ hP hD hS ls (lv_sub hl [1, 2, 3, 0] rfl)
  exact L_18 (dg - 1) fX (by omega) rfl _ _ hP hD hS ls (lv_sub hl [2, 3, 1, 0] rfl)

set_option maxRecDepth 20000 in
theorem hi_X2_isZero_X2 : ∀ w ∈ wsX20, w ∈ wsX2_isZero := by
  intro w h
  unfold wsX2_isZero
  simp only [List.mem_cons, List.mem_append, h, or_true, true_or]
theorem nd_X2_isZero : okName yX2_isZero 1 := by decide +kernel
set_option maxHeartbeats 4000000 in
set_option maxRecDepth 100000 in
theorem k_X2_isZero (l : Launch) (D : va_G) (cI cZ : ClassId) (aR : Nat) (aN : Nat) (dg : Nat) (tr : Nat) (aX : Nat) (fX : Nat → Int32) (hg : dg ≤ 48) : RO l yX2_isZero wsX2_isZero ({ frames := 2, cells := 0, slots := 0, locals := 43 } : Room) D cI cZ [(aR, .inr (2, [.ref aN, .int (nI dg), .int (nI tr)])), (aX, .inl (cI, 48, .inl fX))] [.ref aR, .ref aX] (zrL fX dg 0) := by
  refine ro_start (by decide) rfl (Nat.le_of_ble_eq_true rfl) ?_
  intro p e s m args below meth c hx hb hr hml hlocks hts hown hT hP ls hl
  have hown : s.vm.findClass RX2 = some m.cls := hown
  have hl : lv_has ls 3 [(0, .ref aR), (1, .ref aX)] := hl
  refine lv_iconst (v := 0) hx hb dX2_isZero_0 (by decide) ?_
  refine lv_istore_n (lv' := [(2, .int 0), (0, .ref aR), (1, .ref aX)]) hx hb dX2_isZero_1 rfl hl (by decide) rfl (fun ls hl => ?_)
  have L_2 : ∀ (f : Nat) (i : Nat), i + f = dg → zrL fX dg 0 = zrL fX f i → ∀ ls : Array Slot, lv_has ls 3 [(0, .ref aR), (1, .ref aX), (2, .int (nI i))] → W p l e (headSpec wsX2_isZero ({ frames := 2, cells := 0, slots := 0, locals := 43 } : Room)).room s m args below meth c s.heap [] 0 0 (MQ below (QcRead (zrL fX dg 0)) args s 0 0 (fun _ => False)) (F0 m 2 ls []) := by
    intro f
    induction f with
    | zero =>
      intro i h1 h2 ls hl
      refine lv_iload_n hx hb dX2_isZero_2 rfl (lv_at hl 2 rfl) ?_
      refine lv_aload_n hx hb dX2_isZero_3 rfl (lv_at hl 0 rfl) ?_
      refine va_get (D := D) (ci := 2) (v := .int (nI dg)) (C := RX2) (T := TX2) (N := 3) hx hb hts hi_X2_isZero_X2 hown hT.1 hP 0 rfl rfl 1 (by decide) (hts (.fieldLink RX2 51 "SlotStar$Root" "degree" "I") (List.mem_of_getElem? (i := 1) rfl)) (fun _ h9 => h9) rfl dX2_isZero_4 ?_
      refine lv_icmp_ge (tgt := 26) hx hb dX2_isZero_7 (by decide) (fun c_1 => ?_) (fun c_1 => ?_)
      · skip
        refine lv_iconst (v := 1) hx hb dX2_isZero_26 (by decide) ?_
        exact ro_retz hx hb hr hlocks dX2_isZero_27 (by rw [h2]; rfl) (by exact zrL01 _ _ _)
      · exfalso; exact c_1 (nI_le (by omega) (by omega))
    | succ f ih_2 =>
      intro i h1 h2 ls hl
      refine lv_iload_n hx hb dX2_isZero_2 rfl (lv_at hl 2 rfl) ?_
      refine lv_aload_n hx hb dX2_isZero_3 rfl (lv_at hl 0 rfl) ?_
      refine va_get (D := D) (ci := 2) (v := .int (nI dg)) (C := RX2) (T := TX2) (N := 3) hx hb hts hi_X2_isZero_X2 hown hT.1 hP 0 rfl rfl 1 (by decide) (hts (.fieldLink RX2 51 "SlotStar$Root" "degree" "I") (List.mem_of_getElem? (i := 1) rfl)) (fun _ h9 => h9) rfl dX2_isZero_4 ?_
      refine lv_icmp_ge (tgt := 26) hx hb dX2_isZero_7 (by decide) (fun c_2 => ?_) (fun c_2 => ?_)
      · exfalso; exact nI_ge (show i < dg by omega) (by omega) c_2
      · skip
        refine lv_aload_n hx hb dX2_isZero_10 rfl (lv_at hl 1 rfl) ?_
        refine lv_iload_n hx hb dX2_isZero_11 rfl (lv_at hl 2 rfl) ?_
        refine ro_N (As := [.ref aX, .int (nI i)]) (rest := []) ⟨hx, hb, hml, hown, hts⟩ hT hP (k_X3_at l D cI cZ aX 48 fX i (by decide) (by omega)) (List.mem_of_getElem? (i := 6) rfl) gX2_isZero_X3_at_n54 (hts (.initialized RX3) (List.mem_of_getElem? (i := 3) rfl)) (hts (.static yX3_at) (List.mem_of_getElem? (i := 2) rfl)) rfl nd_X3_at [1] rfl hl.1 rfl rfl (Nat.le_of_ble_eq_true rfl) ⟨Nat.le_of_ble_eq_true rfl, Nat.le_of_ble_eq_true rfl⟩ ⟨rfl, rfl⟩ ⟨Nat.zero_le _, Nat.zero_le _⟩ dX2_isZero_12 ?_
        refine lv_if_eq (tgt := 20) hx hb dX2_isZero_15 (by decide) (fun c_3 => ?_) (fun c_3 => ?_)
        · skip
          refine lv_iinc (v := nI (i + 1)) (lv' := [(2, .int (nI (i + 1))), (0, .ref aR), (1, .ref aX)]) hx hb dX2_isZero_20 hl (k := 2) rfl ((nI_succ i).symm) (by decide) rfl (fun ls hl => ?_)
          refine lv_goto (tgt := 2) hx hb dX2_isZero_23 (by decide) ?_
          exact ih_2 (i + 1) (by omega) (by rw [h2]; simp [zrL, c_2, c_3]) ls (lv_sub hl [1, 2, 0] rfl)
        · skip
          refine lv_iconst (v := 0) hx hb dX2_isZero_18 (by decide) ?_
          exact ro_retz hx hb hr hlocks dX2_isZero_19 (by rw [h2]; simp [zrL, c_2, c_3]) (by exact zrL01 _ _ _)
  exact L_2 dg 0 (by omega) rfl ls (lv_sub hl [1, 2, 0] rfl)

set_option maxRecDepth 20000 in
theorem hi_X2_areSame_X2 : ∀ w ∈ wsX20, w ∈ wsX2_areSame := by
  intro w h
  unfold wsX2_areSame
  simp only [List.mem_cons, List.mem_append, h, or_true, true_or]
theorem nd_X2_areSame : okName yX2_areSame 2 := by decide +kernel
set_option maxHeartbeats 4000000 in
set_option maxRecDepth 100000 in
theorem k_X2_areSame (l : Launch) (D : va_G) (cI cZ : ClassId) (aR : Nat) (aN : Nat) (dg : Nat) (tr : Nat) (aX : Nat) (fX : Nat → Int32) (aY : Nat) (fY : Nat → Int32) (hg : dg ≤ 48) : RO l yX2_areSame wsX2_areSame ({ frames := 2, cells := 0, slots := 0, locals := 43 } : Room) D cI cZ [(aR, .inr (2, [.ref aN, .int (nI dg), .int (nI tr)])), (aX, .inl (cI, 48, .inl fX)), (aY, .inl (cI, 48, .inl fY))] [.ref aR, .ref aX, .ref aY] (smL fX fY dg 0) := by
  refine ro_start (by decide) rfl (Nat.le_of_ble_eq_true rfl) ?_
  intro p e s m args below meth c hx hb hr hml hlocks hts hown hT hP ls hl
  have hown : s.vm.findClass RX2 = some m.cls := hown
  have hl : lv_has ls 4 [(0, .ref aR), (1, .ref aX), (2, .ref aY)] := hl
  refine lv_iconst (v := 0) hx hb dX2_areSame_0 (by decide) ?_
  refine lv_istore_n (lv' := [(3, .int 0), (0, .ref aR), (1, .ref aX), (2, .ref aY)]) hx hb dX2_areSame_1 rfl hl (by decide) rfl (fun ls hl => ?_)
  have L_2 : ∀ (f : Nat) (i : Nat), i + f = dg → smL fX fY dg 0 = smL fX fY f i → ∀ ls : Array Slot, lv_has ls 4 [(0, .ref aR), (1, .ref aX), (2, .ref aY), (3, .int (nI i))] → W p l e (headSpec wsX2_areSame ({ frames := 2, cells := 0, slots := 0, locals := 43 } : Room)).room s m args below meth c s.heap [] 0 0 (MQ below (QcRead (smL fX fY dg 0)) args s 0 0 (fun _ => False)) (F0 m 2 ls []) := by
    intro f
    induction f with
    | zero =>
      intro i h1 h2 ls hl
      refine lv_iload_n hx hb dX2_areSame_2 rfl (lv_at hl 3 rfl) ?_
      refine lv_aload_n hx hb dX2_areSame_3 rfl (lv_at hl 0 rfl) ?_
      refine va_get (D := D) (ci := 2) (v := .int (nI dg)) (C := RX2) (T := TX2) (N := 3) hx hb hts hi_X2_areSame_X2 hown hT.1 hP 0 rfl rfl 1 (by decide) (hts (.fieldLink RX2 51 "SlotStar$Root" "degree" "I") (List.mem_of_getElem? (i := 1) rfl)) (fun _ h9 => h9) rfl dX2_areSame_4 ?_
      refine lv_icmp_ge (tgt := 31) hx hb dX2_areSame_7 (by decide) (fun c_1 => ?_) (fun c_1 => ?_)
      · skip
        refine lv_iconst (v := 1) hx hb dX2_areSame_31 (by decide) ?_
        exact ro_retz hx hb hr hlocks dX2_areSame_32 (by rw [h2]; rfl) (by exact smL01 _ _ _ _)
      · exfalso; exact c_1 (nI_le (by omega) (by omega))
    | succ f ih_2 =>
      intro i h1 h2 ls hl
      refine lv_iload_n hx hb dX2_areSame_2 rfl (lv_at hl 3 rfl) ?_
      refine lv_aload_n hx hb dX2_areSame_3 rfl (lv_at hl 0 rfl) ?_
      refine va_get (D := D) (ci := 2) (v := .int (nI dg)) (C := RX2) (T := TX2) (N := 3) hx hb hts hi_X2_areSame_X2 hown hT.1 hP 0 rfl rfl 1 (by decide) (hts (.fieldLink RX2 51 "SlotStar$Root" "degree" "I") (List.mem_of_getElem? (i := 1) rfl)) (fun _ h9 => h9) rfl dX2_areSame_4 ?_
      refine lv_icmp_ge (tgt := 31) hx hb dX2_areSame_7 (by decide) (fun c_2 => ?_) (fun c_2 => ?_)
      · exfalso; exact nI_ge (show i < dg by omega) (by omega) c_2
      · skip
        refine lv_aload_n hx hb dX2_areSame_10 rfl (lv_at hl 1 rfl) ?_
        refine lv_iload_n hx hb dX2_areSame_11 rfl (lv_at hl 3 rfl) ?_
        refine ro_N (As := [.ref aX, .int (nI i)]) (rest := []) ⟨hx, hb, hml, hown, hts⟩ hT hP (k_X3_at l D cI cZ aX 48 fX i (by decide) (by omega)) (List.mem_of_getElem? (i := 6) rfl) gX2_areSame_X3_at_n54 (hts (.initialized RX3) (List.mem_of_getElem? (i := 3) rfl)) (hts (.static yX3_at) (List.mem_of_getElem? (i := 2) rfl)) rfl nd_X3_at [1] rfl hl.1 rfl rfl (Nat.le_of_ble_eq_true rfl) ⟨Nat.le_of_ble_eq_true rfl, Nat.le_of_ble_eq_true rfl⟩ ⟨rfl, rfl⟩ ⟨Nat.zero_le _, Nat.zero_le _⟩ dX2_areSame_12 ?_
        refine lv_aload_n hx hb dX2_areSame_15 rfl (lv_at hl 2 rfl) ?_
        refine lv_iload_n hx hb dX2_areSame_16 rfl (lv_at hl 3 rfl) ?_
        refine ro_N (As := [.ref aY, .int (nI i)]) (rest := [.int (fX i)]) ⟨hx, hb, hml, hown, hts⟩ hT hP (k_X3_at l D cI cZ aY 48 fY i (by decide) (by omega)) (List.mem_of_getElem? (i := 6) rfl) gX2_areSame_X3_at_n54 (hts (.initialized RX3) (List.mem_of_getElem? (i := 3) rfl)) (hts (.static yX3_at) (List.mem_of_getElem? (i := 2) rfl)) rfl nd_X3_at [2] rfl hl.1 rfl rfl (Nat.le_of_ble_eq_true rfl) ⟨Nat.le_of_ble_eq_true rfl, Nat.le_of_ble_eq_true rfl⟩ ⟨rfl, rfl⟩ ⟨Nat.zero_le _, Nat.zero_le _⟩ dX2_areSame_17 ?_
        refine lv_icmp_eq (tgt := 25) hx hb dX2_areSame_20 (by decide) (fun c_3 => ?_) (fun c_3 => ?_)
        · skip
          refine lv_iinc (v := nI (i + 1)) (lv' := [(3, .int (nI (i + 1))), (0, .ref aR), (1, .ref aX), (2, .ref aY)]) hx hb dX2_areSame_25 hl (k := 3) rfl ((nI_succ i).symm) (by decide) rfl (fun ls hl => ?_)
          refine lv_goto (tgt := 2) hx hb dX2_areSame_28 (by decide) ?_
          exact ih_2 (i + 1) (by omega) (by rw [h2]; simp [smL, c_2, c_3]) ls (lv_sub hl [1, 2, 3, 0] rfl)
        · skip
          refine lv_iconst (v := 0) hx hb dX2_areSame_23 (by decide) ?_
          exact ro_retz hx hb hr hlocks dX2_areSame_24 (by rw [h2]; simp [smL, c_2, c_3]) (by exact smL01 _ _ _ _)
  exact L_2 dg 0 (by omega) rfl ls (lv_sub hl [1, 2, 3, 0] rfl)
end
section
/-! ===== one layer: what the joint's methods leave ===== -/
def cl (x : Int32) : Nat := x.toNatClampNeg
theorem cl_nI {k : Nat} (h : k < 2 ^ 31) : cl (nI k) = k := nI_clamp h
def clL (Q P M : Nat) (a : Int32) : Nat → Nat → Nat → Nat → (Nat → Int32) → (Nat → Int32) → Nat × Nat × (Nat → Int32) × (Nat → Int32)
  | 0, _, fw, bk, U, V => (fw, bk, U, V)
  | f + 1, k, fw, bk, U, V => if nI (ph Q P M k) = a then (if fwd Q P M k = 0 then clL Q P M a f (k + 1) fw (bk + 1) U (upd V bk (nI k)) else clL Q P M a f (k + 1) (fw + 1) bk (upd U fw (nI k)) V) else clL Q P M a f (k + 1) fw bk U V
def clS (Q P M : Nat) (a : Int32) (U V : Nat → Int32) : Nat × Nat × (Nat → Int32) × (Nat → Int32) := clL Q P M a Q 0 0 0 U V
/-- the canonical collection -/
def cA (Q P M : Nat) (a : Int32) : Nat × Nat × (Nat → Int32) × (Nat → Int32) := clS Q P M a (fun _ => 0) (fun _ => 0)
def fwN (Q P M : Nat) (a : Int32) : Nat := (cA Q P M a).1
def bkN (Q P M : Nat) (a : Int32) : Nat := (cA Q P M a).2.1
def uA (Q P M : Nat) (a : Int32) : Nat → Int32 := (cA Q P M a).2.2.1
def vA (Q P M : Nat) (a : Int32) : Nat → Int32 := (cA Q P M a).2.2.2
def clAgree (x y : Nat × Nat × (Nat → Int32) × (Nat → Int32)) : Prop := x.1 = y.1 ∧ x.2.1 = y.2.1 ∧ (∀ i, i < x.1 → x.2.2.1 i = y.2.2.1 i) ∧ (∀ i, i < x.2.1 → x.2.2.2 i = y.2.2.2 i)
theorem upd_agree {n k : Nat} {U U' : Nat → Int32} (h : ∀ i, i < n → U i = U' i) : ∀ i, i < n + 1 → upd U n (nI k) i = upd U' n (nI k) i := by
  intro i hi
  by_cases e : i = n
  · subst e
    rw [pk_us, pk_us]
  · rw [pk_un e, pk_un e]
    exact h i (by omega)
theorem clL_agree (Q P M : Nat) (a : Int32) : ∀ (f k fw bk : Nat) (U V U' V' : Nat → Int32), (∀ i, i < fw → U i = U' i) → (∀ i, i < bk → V i = V' i) → clAgree (clL Q P M a f k fw bk U V) (clL Q P M a f k fw bk U' V')
  | 0, _, _, _, _, _, _, _, hU, hV => ⟨rfl, rfl, hU, hV⟩
  | f + 1, k, fw, bk, U, V, U', V', hU, hV => by
    unfold clL
    split
    · split
      · exact clL_agree Q P M a f (k + 1) fw (bk + 1) _ _ _ _ hU (upd_agree hV)
      · exact clL_agree Q P M a f (k + 1) (fw + 1) bk _ _ _ _ (upd_agree hU) hV
    · exact clL_agree Q P M a f (k + 1) fw bk _ _ _ _ hU hV
theorem clS_agree (Q P M : Nat) (a : Int32) (U V : Nat → Int32) : clAgree (clS Q P M a U V) (cA Q P M a) := clL_agree Q P M a Q 0 0 0 U V _ _ (fun i h => absurd h (by omega)) (fun i h => absurd h (by omega))
theorem clS_fw (Q P M : Nat) (a : Int32) (U V : Nat → Int32) : fwN Q P M a = (clS Q P M a U V).1 := (clS_agree Q P M a U V).1.symm
theorem clS_bk (Q P M : Nat) (a : Int32) (U V : Nat → Int32) : bkN Q P M a = (clS Q P M a U V).2.1 := (clS_agree Q P M a U V).2.1.symm
theorem clS_u (Q P M : Nat) (a : Int32) (U V : Nat → Int32) {i : Nat} (h : i < fwN Q P M a) : (clS Q P M a U V).2.2.1 i = uA Q P M a i := (clS_agree Q P M a U V).2.2.1 i (by rw [← clS_fw]; exact h)
theorem clS_v (Q P M : Nat) (a : Int32) (U V : Nat → Int32) {i : Nat} (h : i < bkN Q P M a) : (clS Q P M a U V).2.2.2 i = vA Q P M a i := (clS_agree Q P M a U V).2.2.2 i (by rw [← clS_bk]; exact h)
/-- every slot that is kept is a slot: of this phase, and forward or back -/
def clOk (Q P M : Nat) (a : Int32) (x : Nat × Nat × (Nat → Int32) × (Nat → Int32)) : Prop := x.1 + x.2.1 ≤ Q ∧ (∀ i, i < x.1 → ∃ k, k < Q ∧ x.2.2.1 i = nI k ∧ nI (ph Q P M k) = a ∧ ¬ fwd Q P M k = 0) ∧ (∀ i, i < x.2.1 → ∃ k, k < Q ∧ x.2.2.2 i = nI k ∧ nI (ph Q P M k) = a ∧ fwd Q P M k = 0)
theorem clL_ok (Q P M : Nat) (a : Int32) : ∀ (f k fw bk : Nat) (U V : Nat → Int32), k + f = Q → fw + bk ≤ k → (∀ i, i < fw → ∃ k, k < Q ∧ U i = nI k ∧ nI (ph Q P M k) = a ∧ ¬ fwd Q P M k = 0) → (∀ i, i < bk → ∃ k, k < Q ∧ V i = nI k ∧ nI (ph Q P M k) = a ∧ fwd Q P M k = 0) → clOk Q P M a (clL Q P M a f k fw bk U V)
  | 0, k, fw, bk, U, V, h1, h2, hU, hV => ⟨by show fw + bk ≤ Q; omega, hU, hV⟩
  | f + 1, k, fw, bk, U, V, h1, h2, hU, hV => by
    unfold clL
    split
    · rename_i ha
      split
      · rename_i hf
        refine clL_ok Q P M a f (k + 1) fw (bk + 1) _ _ (by omega) (by omega) hU ?_
        intro i hi
        by_cases e : i = bk
        · subst e
          exact ⟨k, by omega, pk_us, ha, hf⟩
        · rw [pk_un e]
          exact hV i (by omega)
      · rename_i hf
        refine clL_ok Q P M a f (k + 1) (fw + 1) bk _ _ (by omega) (by omega) ?_ hV
        intro i hi
        by_cases e : i = fw
        · subst e
          exact ⟨k, by omega, pk_us, ha, hf⟩
        · rw [pk_un e]
          exact hU i (by omega)
    · exact clL_ok Q P M a f (k + 1) fw bk _ _ (by omega) (by omega) hU hV
theorem clS_ok (Q P M : Nat) (a : Int32) (U V : Nat → Int32) : clOk Q P M a (clS Q P M a U V) := clL_ok Q P M a Q 0 0 0 U V (by omega) (by omega) (fun i h => absurd h (by omega)) (fun i h => absurd h (by omega))
theorem fb_le (Q P M : Nat) (a : Int32) : fwN Q P M a + bkN Q P M a ≤ Q := (clS_ok Q P M a (fun _ => 0) (fun _ => 0)).1
/-- a row whose first n places hold slots -/
def slR (Q n : Nat) (U : Nat → Int32) : Prop := ∀ i, i < n → U i = nI (cl (U i)) ∧ cl (U i) < Q
theorem slR_u {Q P M : Nat} (hQ : Q ≤ 48) (a : Int32) (U V : Nat → Int32) : slR Q (fwN Q P M a) (clS Q P M a U V).2.2.1 := by
  intro i hi
  obtain ⟨k, hk, e, -⟩ := (clS_ok Q P M a U V).2.1 i (by rw [← clS_fw]; exact hi)
  rw [e, cl_nI (by omega)]
  exact ⟨rfl, hk⟩
theorem slR_v {Q P M : Nat} (hQ : Q ≤ 48) (a : Int32) (U V : Nat → Int32) : slR Q (bkN Q P M a) (clS Q P M a U V).2.2.2 := by
  intro i hi
  obtain ⟨k, hk, e, -⟩ := (clS_ok Q P M a U V).2.2 i (by rw [← clS_bk]; exact hi)
  rw [e, cl_nI (by omega)]
  exact ⟨rfl, hk⟩
def wyL (Q : Nat) (U V : Nat → Int32) (n sv : Nat) : Nat → Nat → Nat → Nat
  | 0, _, t => t
  | f + 1, i, t => wyL Q U V n sv f (i + 1) (t + wB Q (cl (U i)) (cl (V ((i + sv) % n))))
theorem wyL_congr (Q : Nat) {U V U' V' : Nat → Int32} {n sv : Nat} (hU : ∀ i, i < n → U i = U' i) (hV : ∀ i, i < n → V i = V' i) : ∀ (f i t : Nat), i + f ≤ n → wyL Q U V n sv f i t = wyL Q U' V' n sv f i t
  | 0, _, _, _ => rfl
  | f + 1, i, t, h => by
    unfold wyL
    rw [hU i (by omega), hV _ (Nat.mod_lt _ (by omega))]
    exact wyL_congr Q hU hV f (i + 1) _ (by omega)
/-- the ways together for a shift -/
def wyS (Q P M : Nat) (a : Int32) (sv : Nat) : Nat := wyL Q (uA Q P M a) (vA Q P M a) (fwN Q P M a) sv (fwN Q P M a) 0 0
theorem wyS_of {Q P M : Nat} {a : Int32} (U V : Nat → Int32) (sv : Nat) (h : fwN Q P M a = bkN Q P M a) : wyL Q (clS Q P M a U V).2.2.1 (clS Q P M a U V).2.2.2 (fwN Q P M a) sv (fwN Q P M a) 0 0 = wyS Q P M a sv :=
  wyL_congr Q (fun i hi => clS_u Q P M a U V hi) (fun i hi => clS_v Q P M a U V (by omega)) _ 0 0 (by omega)
def joL (Q P M : Nat) (a : Int32) : Nat → Nat → Nat → Nat → Nat × Nat
  | 0, _, sh, wy => (sh, wy)
  | f + 1, sv, sh, wy => if nI wy ≤ nI (wyS Q P M a sv) then joL Q P M a f (sv + 1) sh wy else joL Q P M a f (sv + 1) sv (wyS Q P M a sv)
def joS (Q P M : Nat) (a : Int32) : Nat × Nat := joL Q P M a (fwN Q P M a - 1) 1 0 (wyS Q P M a 0)
def jnR (Q P M : Nat) (a : Int32) : Int32 := if fwN Q P M a = bkN Q P M a then 1 else 0
theorem jnR01 (Q P M : Nat) (a : Int32) : jnR Q P M a = 0 ∨ jnR Q P M a = 1 := by
  unfold jnR
  split
  · exact Or.inr rfl
  · exact Or.inl rfl
theorem jnR_ne {Q P M : Nat} {a : Int32} (h : ¬ jnR Q P M a = 0) : fwN Q P M a = bkN Q P M a := by
  unfold jnR at h
  split at h
  · assumption
  · exact absurd rfl h
theorem jnR_eq {Q P M : Nat} {a : Int32} (h : jnR Q P M a = 0) : ¬ fwN Q P M a = bkN Q P M a := by
  unfold jnR at h
  split at h
  · exact absurd h (by decide)
  · assumption
theorem joL_lt (Q P M : Nat) (a : Int32) : ∀ (f sv sh wy : Nat), sv + f ≤ 1000 → sh < 1000 → (joL Q P M a f sv sh wy).1 < 1000
  | 0, _, sh, _, _, h => h
  | f + 1, sv, sh, wy, h1, h2 => by
    unfold joL
    split
    · exact joL_lt Q P M a f (sv + 1) sh wy (by omega) h2
    · exact joL_lt Q P M a f (sv + 1) sv _ (by omega) (by omega)
theorem joS_lt {Q P M Wd : Nat} (h : MV Q P M Wd) (a : Int32) : (joS Q P M a).1 < 1000 := by
  have h1 := fb_le Q P M a
  have h2 : Q ≤ 48 := by unfold MV at h; omega
  exact joL_lt Q P M a _ 1 0 _ (by omega) (by omega)
def ooL (U V : Nat → Int32) (n sh : Nat) (k b : Int32) : Nat → Nat → Int32
  | 0, _ => (-5)
  | f + 1, i => if b = 0 then (if k = V ((i + sh) % n) then U i else ooL U V n sh k b f (i + 1)) else (if k = U i then V ((i + sh) % n) else ooL U V n sh k b f (i + 1))
theorem ooL_congr {U V U' V' : Nat → Int32} {n sh : Nat} {k b : Int32} (hU : ∀ i, i < n → U i = U' i) (hV : ∀ i, i < n → V i = V' i) : ∀ (f i : Nat), i + f ≤ n → ooL U V n sh k b f i = ooL U' V' n sh k b f i
  | 0, _, _ => rfl
  | f + 1, i, h => by
    unfold ooL
    rw [hU i (by omega), hV _ (Nat.mod_lt _ (by omega)), ooL_congr hU hV f (i + 1) (by omega)]
def ooS (Q P M k : Nat) : Int32 := ooL (uA Q P M (nI (ph Q P M k))) (vA Q P M (nI (ph Q P M k))) (fwN Q P M (nI (ph Q P M k))) (joS Q P M (nI (ph Q P M k))).1 (nI k) (fwd Q P M k) (fwN Q P M (nI (ph Q P M k))) 0
theorem ooS_of {Q P M k : Nat} (U V : Nat → Int32) (h : fwN Q P M (nI (ph Q P M k)) = bkN Q P M (nI (ph Q P M k))) : ooL (clS Q P M (nI (ph Q P M k)) U V).2.2.1 (clS Q P M (nI (ph Q P M k)) U V).2.2.2 (fwN Q P M (nI (ph Q P M k))) (joS Q P M (nI (ph Q P M k))).1 (nI k) (fwd Q P M k) (fwN Q P M (nI (ph Q P M k))) 0 = ooS Q P M k :=
  ooL_congr (fun i hi => clS_u Q P M _ U V hi) (fun i hi => clS_v Q P M _ U V (by omega)) _ 0 (by omega)
end
section
set_option maxRecDepth 20000 in
theorem hi_X0_backOf_X0 : ∀ w ∈ wsX00, w ∈ wsX0_backOf := by
  intro w h
  unfold wsX0_backOf
  simp only [List.mem_cons, List.mem_append, h, or_true, true_or]
theorem nd_X0_backOf : okName yX0_backOf 2 := by decide +kernel
set_option maxHeartbeats 4000000 in
set_option maxRecDepth 100000 in
theorem k_X0_backOf (l : Launch) (D : va_G) (cI cZ : ClassId) (aJ : Nat) (aU : Nat) (aV : Nat) (fw : Nat) (sh : Nat) (wy : Nat) (bk : Nat) (fV : Nat → Int32) (i : Nat) (sv : Nat) (hf : 0 < fw ∧ fw ≤ 48) (hi : i < 1000) (hs : sv < 1000) : RO l yX0_backOf wsX0_backOf ({ frames := 2, cells := 0, slots := 0, locals := 43 } : Room) D cI cZ [(aJ, .inr (0, [.int (nI fw), .int (nI sh), .int (nI wy), .int (nI bk), .ref aU, .ref aV])), (aV, .inl (cI, 48, .inl fV))] [.ref aJ, .int (nI i), .int (nI sv)] (fV ((i + sv) % fw)) := by
  refine ro_start (by decide) rfl (Nat.le_of_ble_eq_true rfl) ?_
  intro p e s m args below meth c hx hb hr hml hlocks hts hown hT hP ls hl
  have hown : s.vm.findClass RX0 = some m.cls := hown
  have hl : lv_has ls 3 [(0, .ref aJ), (1, .int (nI i)), (2, .int (nI sv))] := hl
  refine lv_aload_n hx hb dX0_backOf_0 rfl (lv_at hl 0 rfl) ?_
  refine va_get (D := D) (ci := 0) (v := .ref aV) (C := RX0) (T := TX0) (N := 6) hx hb hts hi_X0_backOf_X0 hown hT.1 hP 0 rfl rfl 5 (by decide) (hts (.fieldLink RX0 15 "SlotStar$Joint" "backSlots" "[I") (List.mem_of_getElem? (i := 1) rfl)) (fun _ h9 => h9) rfl dX0_backOf_1 ?_
  refine lv_iload_n hx hb dX0_backOf_4 rfl (lv_at hl 1 rfl) ?_
  refine lv_iload_n hx hb dX0_backOf_5 rfl (lv_at hl 2 rfl) ?_
  refine lv_iadd hx hb dX0_backOf_6 ?_
  refine top_eq (z := (nI (i + sv))) (by exact nI_add _ _) ?_
  refine lv_aload_n hx hb dX0_backOf_7 rfl (lv_at hl 0 rfl) ?_
  refine va_get (D := D) (ci := 0) (v := .int (nI fw)) (C := RX0) (T := TX0) (N := 6) hx hb hts hi_X0_backOf_X0 hown hT.1 hP 0 rfl rfl 0 (by decide) (hts (.fieldLink RX0 22 "SlotStar$Joint" "forwards" "I") (List.mem_of_getElem? (i := 2) rfl)) (fun _ h9 => h9) rfl dX0_backOf_8 ?_
  refine ro_N (As := [.int (nI (i + sv)), .int (nI fw)]) (rest := [.ref aV]) ⟨hx, hb, hml, hown, hts⟩ hT hP (k_X3_leftOver l D cI cZ (nI (i + sv)) (nI fw)) (List.mem_of_getElem? (i := 2) rfl) gX0_backOf_X3_leftOver_n67 (hts (.initialized RX3) (List.mem_of_getElem? (i := 4) rfl)) (hts (.static yX3_leftOver) (List.mem_of_getElem? (i := 3) rfl)) rfl nd_X3_leftOver [] rfl hl.1 rfl rfl (Nat.le_of_ble_eq_true rfl) ⟨Nat.le_of_ble_eq_true rfl, Nat.le_of_ble_eq_true rfl⟩ ⟨rfl, rfl⟩ ⟨Nat.zero_le _, Nat.zero_le _⟩ dX0_backOf_11 ?_
  refine top_eq (z := (nI ((i + sv) % fw))) (by exact jLO_nI (by omega) (by omega) (by omega)) ?_
  refine ro_N (As := [.ref aV, .int (nI ((i + sv) % fw))]) (rest := []) ⟨hx, hb, hml, hown, hts⟩ hT hP (k_X3_at l D cI cZ aV 48 fV ((i + sv) % fw) (by decide) (Nat.lt_of_lt_of_le (Nat.mod_lt _ hf.1) hf.2)) (List.mem_of_getElem? (i := 1) rfl) gX0_backOf_X3_at_n56 (hts (.initialized RX3) (List.mem_of_getElem? (i := 4) rfl)) (hts (.static yX3_at) (List.mem_of_getElem? (i := 6) rfl)) rfl nd_X3_at [1] rfl hl.1 rfl rfl (Nat.le_of_ble_eq_true rfl) ⟨Nat.le_of_ble_eq_true rfl, Nat.le_of_ble_eq_true rfl⟩ ⟨rfl, rfl⟩ ⟨Nat.zero_le _, Nat.zero_le _⟩ dX0_backOf_14 ?_
  exact ro_ret hx hb hr hlocks dX0_backOf_17 (by rfl)

set_option maxRecDepth 20000 in
theorem hi_X0_waysOf_X0 : ∀ w ∈ wsX00, w ∈ wsX0_waysOf := by
  intro w h
  unfold wsX0_waysOf
  simp only [List.mem_cons, List.mem_append, h, or_true, true_or]
theorem nd_X0_waysOf : okName yX0_waysOf 2 := by decide +kernel
set_option maxHeartbeats 4000000 in
set_option maxRecDepth 100000 in
theorem k_X0_waysOf (l : Launch) (D : va_G) (cI cZ : ClassId) (aJ : Nat) (aU : Nat) (aV : Nat) (fw : Nat) (sh : Nat) (wy : Nat) (bk : Nat) (fU : Nat → Int32) (fV : Nat → Int32) (aM : Nat) (Q : Nat) (P : Nat) (M : Nat) (Wd : Nat) (sv : Nat) (hv : MV Q P M Wd) (hf : fw ≤ 48) (hs : sv < 1000) (hU : slR Q fw fU) (hV : slR Q fw fV) : RO l yX0_waysOf wsX0_waysOf ({ frames := 3, cells := 0, slots := 0, locals := 65 } : Room) D cI cZ [(aJ, .inr (0, [.int (nI fw), .int (nI sh), .int (nI wy), .int (nI bk), .ref aU, .ref aV])), (aM, .inr (1, [.int (nI Q), .int (nI P), .int (nI M), .int (nI Wd), .int (nI (tT Q P)), .int (nI (tN Q P))])), (aU, .inl (cI, 48, .inl fU)), (aV, .inl (cI, 48, .inl fV))] [.ref aJ, .ref aM, .int (nI sv)] (nI (wyL Q fU fV fw sv fw 0 0)) := by
  refine ro_start (by decide) rfl (Nat.le_of_ble_eq_true rfl) ?_
  intro p e s m args below meth c hx hb hr hml hlocks hts hown hT hP ls hl
  have hown : s.vm.findClass RX0 = some m.cls := hown
  have hl : lv_has ls 5 [(0, .ref aJ), (1, .ref aM), (2, .int (nI sv))] := hl
  have hv' := hv
  unfold MV at hv'
  refine lv_iconst (v := 0) hx hb dX0_waysOf_0 (by decide) ?_
  refine lv_istore_n (lv' := [(3, .int 0), (0, .ref aJ), (1, .ref aM), (2, .int (nI sv))]) hx hb dX0_waysOf_1 rfl hl (by decide) rfl (fun ls hl => ?_)
  refine lv_iconst (v := 0) hx hb dX0_waysOf_2 (by decide) ?_
  refine lv_istore (lv' := [(4, .int 0), (3, .int 0), (0, .ref aJ), (1, .ref aM), (2, .int (nI sv))]) hx hb dX0_waysOf_3 hl (by decide) rfl (fun ls hl => ?_)
  have L_5 : ∀ (f : Nat) (i : Nat) (t : Nat), i + f = fw → wyL Q fU fV fw sv fw 0 0 = wyL Q fU fV fw sv f i t → ∀ ls : Array Slot, lv_has ls 5 [(0, .ref aJ), (1, .ref aM), (2, .int (nI sv)), (3, .int (nI t)), (4, .int (nI i))] → W p l e (headSpec wsX0_waysOf ({ frames := 3, cells := 0, slots := 0, locals := 65 } : Room)).room s m args below meth c s.heap [] 0 0 (MQ below (QcRead (nI (wyL Q fU fV fw sv fw 0 0))) args s 0 0 (fun _ => False)) (F0 m 5 ls []) := by
    intro f
    induction f with
    | zero =>
      intro i t h1 h2 ls hl
      refine lv_iload hx hb dX0_waysOf_5 (lv_at hl 4 rfl) ?_
      refine lv_aload_n hx hb dX0_waysOf_7 rfl (lv_at hl 0 rfl) ?_
      refine va_get (D := D) (ci := 0) (v := .int (nI fw)) (C := RX0) (T := TX0) (N := 6) hx hb hts hi_X0_waysOf_X0 hown hT.1 hP 0 rfl rfl 0 (by decide) (hts (.fieldLink RX0 22 "SlotStar$Joint" "forwards" "I") (List.mem_of_getElem? (i := 1) rfl)) (fun _ h9 => h9) rfl dX0_waysOf_8 ?_
      refine lv_icmp_ge (tgt := 43) hx hb dX0_waysOf_11 (by decide) (fun c_1 => ?_) (fun c_1 => ?_)
      · skip
        refine lv_iload_n hx hb dX0_waysOf_43 rfl (lv_at hl 3 rfl) ?_
        exact ro_ret hx hb hr hlocks dX0_waysOf_44 (by rw [h2]; rfl)
      · exfalso; exact c_1 (nI_le (by omega) (by omega))
    | succ f ih_5 =>
      intro i t h1 h2 ls hl
      refine lv_iload hx hb dX0_waysOf_5 (lv_at hl 4 rfl) ?_
      refine lv_aload_n hx hb dX0_waysOf_7 rfl (lv_at hl 0 rfl) ?_
      refine va_get (D := D) (ci := 0) (v := .int (nI fw)) (C := RX0) (T := TX0) (N := 6) hx hb hts hi_X0_waysOf_X0 hown hT.1 hP 0 rfl rfl 0 (by decide) (hts (.fieldLink RX0 22 "SlotStar$Joint" "forwards" "I") (List.mem_of_getElem? (i := 1) rfl)) (fun _ h9 => h9) rfl dX0_waysOf_8 ?_
      refine lv_icmp_ge (tgt := 43) hx hb dX0_waysOf_11 (by decide) (fun c_2 => ?_) (fun c_2 => ?_)
      · exfalso; exact nI_ge (show i < fw by omega) (by omega) c_2
      · skip
        refine lv_iload_n hx hb dX0_waysOf_14 rfl (lv_at hl 3 rfl) ?_
        refine lv_aload_n hx hb dX0_waysOf_15 rfl (lv_at hl 1 rfl) ?_
        refine lv_aload_n hx hb dX0_waysOf_16 rfl (lv_at hl 0 rfl) ?_
        refine va_get (D := D) (ci := 0) (v := .ref aU) (C := RX0) (T := TX0) (N := 6) hx hb hts hi_X0_waysOf_X0 hown hT.1 hP 0 rfl rfl 4 (by decide) (hts (.fieldLink RX0 9 "SlotStar$Joint" "forwardSlots" "[I") (List.mem_of_getElem? (i := 2) rfl)) (fun _ h9 => h9) rfl dX0_waysOf_17 ?_
        refine lv_iload hx hb dX0_waysOf_20 (lv_at hl 4 rfl) ?_
        refine ro_N (As := [.ref aU, .int (nI i)]) (rest := [.ref aM, .int (nI t)]) ⟨hx, hb, hml, hown, hts⟩ hT hP (k_X3_at l D cI cZ aU 48 fU i (by decide) (by omega)) (List.mem_of_getElem? (i := 1) rfl) gX0_waysOf_X3_at_n56 (hts (.initialized RX3) (List.mem_of_getElem? (i := 4) rfl)) (hts (.static yX3_at) (List.mem_of_getElem? (i := 3) rfl)) rfl nd_X3_at [2] rfl hl.1 rfl rfl (Nat.le_of_ble_eq_true rfl) ⟨Nat.le_of_ble_eq_true rfl, Nat.le_of_ble_eq_true rfl⟩ ⟨rfl, rfl⟩ ⟨Nat.zero_le _, Nat.zero_le _⟩ dX0_waysOf_22 ?_
        refine top_eq (z := (nI (cl (fU i)))) (by exact (hU i (by omega)).1) ?_
        refine lv_aload_n hx hb dX0_waysOf_25 rfl (lv_at hl 0 rfl) ?_
        refine lv_iload hx hb dX0_waysOf_26 (lv_at hl 4 rfl) ?_
        refine lv_iload_n hx hb dX0_waysOf_28 rfl (lv_at hl 2 rfl) ?_
        refine ro_V (As := [.int (nI i), .int (nI sv)]) (rest := [.int (nI (cl (fU i))), .ref aM, .int (nI t)]) ⟨hx, hb, hml, hown, hts⟩ hT hP (k_X0_backOf l D cI cZ aJ aU aV fw sh wy bk fV i sv (by omega) (by omega) hs) gX0_waysOf_X0_backOf rfl rfl nd_X0_backOf [0, 3] rfl (ci := 0) rfl rfl (q0 := 0) rfl hl.1 rfl rfl (Nat.le_of_ble_eq_true rfl) ⟨Nat.le_of_ble_eq_true rfl, Nat.le_of_ble_eq_true rfl⟩ ⟨rfl, rfl⟩ ⟨Nat.zero_le _, Nat.zero_le _⟩ dX0_waysOf_29 ?_
        refine top_eq (z := (nI (cl (fV ((i + sv) % fw))))) (by exact (hV _ (Nat.mod_lt _ (by omega))).1) ?_
        refine ro_V (As := [.int (nI (cl (fU i))), .int (nI (cl (fV ((i + sv) % fw))))]) (rest := [.int (nI t)]) ⟨hx, hb, hml, hown, hts⟩ hT hP (k_X1_wayBetween l D cI cZ aM Q P M Wd (cl (fU i)) (cl (fV ((i + sv) % fw))) (by omega) ((hU i (by omega)).2) ((hV _ (Nat.mod_lt _ (by omega))).2)) gX0_waysOf_X1_wayBetween rfl rfl nd_X1_wayBetween [1] rfl (ci := 1) rfl rfl (q0 := 1) rfl hl.1 rfl rfl (Nat.le_of_ble_eq_true rfl) ⟨Nat.le_of_ble_eq_true rfl, Nat.le_of_ble_eq_true rfl⟩ ⟨rfl, rfl⟩ ⟨Nat.zero_le _, Nat.zero_le _⟩ dX0_waysOf_32 ?_
        refine lv_iadd hx hb dX0_waysOf_35 ?_
        refine top_eq (z := (nI (t + wB Q (cl (fU i)) (cl (fV ((i + sv) % fw)))))) (by exact nI_add _ _) ?_
        refine lv_istore_n (lv' := [(3, .int (nI (t + wB Q (cl (fU i)) (cl (fV ((i + sv) % fw)))))), (0, .ref aJ), (1, .ref aM), (2, .int (nI sv)), (4, .int (nI i))]) hx hb dX0_waysOf_36 rfl hl (by decide) rfl (fun ls hl => ?_)
        refine lv_iinc (v := nI (i + 1)) (lv' := [(4, .int (nI (i + 1))), (3, .int (nI (t + wB Q (cl (fU i)) (cl (fV ((i + sv) % fw)))))), (0, .ref aJ), (1, .ref aM), (2, .int (nI sv))]) hx hb dX0_waysOf_37 hl (k := 4) rfl ((nI_succ i).symm) (by decide) rfl (fun ls hl => ?_)
        refine lv_goto (tgt := 5) hx hb dX0_waysOf_40 (by decide) ?_
        exact ih_5 (i + 1) (t + wB Q (cl (fU i)) (cl (fV ((i + sv) % fw)))) (by omega) (by rw [h2]; rfl) ls (lv_sub hl [2, 3, 4, 1, 0] rfl)
  exact L_5 fw 0 0 (by omega) rfl ls (lv_sub hl [2, 3, 4, 1, 0] rfl)

set_option maxRecDepth 20000 in
theorem hi_X0_otherOf_X0 : ∀ w ∈ wsX00, w ∈ wsX0_otherOf := by
  intro w h
  unfold wsX0_otherOf
  simp only [List.mem_cons, List.mem_append, h, or_true, true_or]
theorem nd_X0_otherOf : okName yX0_otherOf 2 := by decide +kernel
set_option maxHeartbeats 4000000 in
set_option maxRecDepth 100000 in
theorem k_X0_otherOf (l : Launch) (D : va_G) (cI cZ : ClassId) (aJ : Nat) (aU : Nat) (aV : Nat) (fw : Nat) (sh : Nat) (wy : Nat) (bk : Nat) (fU : Nat → Int32) (fV : Nat → Int32) (k : Int32) (b : Int32) (hf : fw ≤ 48) (hs : sh < 1000) : RO l yX0_otherOf wsX0_otherOf ({ frames := 3, cells := 0, slots := 0, locals := 65 } : Room) D cI cZ [(aJ, .inr (0, [.int (nI fw), .int (nI sh), .int (nI wy), .int (nI bk), .ref aU, .ref aV])), (aU, .inl (cI, 48, .inl fU)), (aV, .inl (cI, 48, .inl fV))] [.ref aJ, .int k, .int b] (ooL fU fV fw sh k b fw 0) := by
  refine ro_start (by decide) rfl (Nat.le_of_ble_eq_true rfl) ?_
  intro p e s m args below meth c hx hb hr hml hlocks hts hown hT hP ls hl
  have hown : s.vm.findClass RX0 = some m.cls := hown
  have hl : lv_has ls 6 [(0, .ref aJ), (1, .int k), (2, .int b)] := hl
  refine lv_iconst (v := 0) hx hb dX0_otherOf_0 (by decide) ?_
  refine lv_istore_n (lv' := [(3, .int 0), (0, .ref aJ), (1, .int k), (2, .int b)]) hx hb dX0_otherOf_1 rfl hl (by decide) rfl (fun ls hl => ?_)
  have L_2 : ∀ (f : Nat) (i : Nat), i + f = fw → ooL fU fV fw sh k b fw 0 = ooL fU fV fw sh k b f i → ∀ ls : Array Slot, lv_has ls 6 [(0, .ref aJ), (1, .int k), (2, .int b), (3, .int (nI i))] → W p l e (headSpec wsX0_otherOf ({ frames := 3, cells := 0, slots := 0, locals := 65 } : Room)).room s m args below meth c s.heap [] 0 0 (MQ below (QcRead (ooL fU fV fw sh k b fw 0)) args s 0 0 (fun _ => False)) (F0 m 2 ls []) := by
    intro f
    induction f with
    | zero =>
      intro i h1 h2 ls hl
      refine lv_iload_n hx hb dX0_otherOf_2 rfl (lv_at hl 3 rfl) ?_
      refine lv_aload_n hx hb dX0_otherOf_3 rfl (lv_at hl 0 rfl) ?_
      refine va_get (D := D) (ci := 0) (v := .int (nI fw)) (C := RX0) (T := TX0) (N := 6) hx hb hts hi_X0_otherOf_X0 hown hT.1 hP 0 rfl rfl 0 (by decide) (hts (.fieldLink RX0 22 "SlotStar$Joint" "forwards" "I") (List.mem_of_getElem? (i := 1) rfl)) (fun _ h9 => h9) rfl dX0_otherOf_4 ?_
      refine lv_icmp_ge (tgt := 64) hx hb dX0_otherOf_7 (by decide) (fun c_1 => ?_) (fun c_1 => ?_)
      · skip
        refine lv_bipush (v := (-5)) hx hb dX0_otherOf_64 (by decide) ?_
        exact ro_ret hx hb hr hlocks dX0_otherOf_66 (by rw [h2]; rfl)
      · exfalso; exact c_1 (nI_le (by omega) (by omega))
    | succ f ih_2 =>
      intro i h1 h2 ls hl
      refine lv_iload_n hx hb dX0_otherOf_2 rfl (lv_at hl 3 rfl) ?_
      refine lv_aload_n hx hb dX0_otherOf_3 rfl (lv_at hl 0 rfl) ?_
      refine va_get (D := D) (ci := 0) (v := .int (nI fw)) (C := RX0) (T := TX0) (N := 6) hx hb hts hi_X0_otherOf_X0 hown hT.1 hP 0 rfl rfl 0 (by decide) (hts (.fieldLink RX0 22 "SlotStar$Joint" "forwards" "I") (List.mem_of_getElem? (i := 1) rfl)) (fun _ h9 => h9) rfl dX0_otherOf_4 ?_
      refine lv_icmp_ge (tgt := 64) hx hb dX0_otherOf_7 (by decide) (fun c_2 => ?_) (fun c_2 => ?_)
      · exfalso; exact nI_ge (show i < fw by omega) (by omega) c_2
      · skip
        refine lv_aload_n hx hb dX0_otherOf_10 rfl (lv_at hl 0 rfl) ?_
        refine va_get (D := D) (ci := 0) (v := .ref aU) (C := RX0) (T := TX0) (N := 6) hx hb hts hi_X0_otherOf_X0 hown hT.1 hP 0 rfl rfl 4 (by decide) (hts (.fieldLink RX0 9 "SlotStar$Joint" "forwardSlots" "[I") (List.mem_of_getElem? (i := 2) rfl)) (fun _ h9 => h9) rfl dX0_otherOf_11 ?_
        refine lv_iload_n hx hb dX0_otherOf_14 rfl (lv_at hl 3 rfl) ?_
        refine ro_N (As := [.ref aU, .int (nI i)]) (rest := []) ⟨hx, hb, hml, hown, hts⟩ hT hP (k_X3_at l D cI cZ aU 48 fU i (by decide) (by omega)) (List.mem_of_getElem? (i := 1) rfl) gX0_otherOf_X3_at_n56 (hts (.initialized RX3) (List.mem_of_getElem? (i := 5) rfl)) (hts (.static yX3_at) (List.mem_of_getElem? (i := 4) rfl)) rfl nd_X3_at [1] rfl hl.1 rfl rfl (Nat.le_of_ble_eq_true rfl) ⟨Nat.le_of_ble_eq_true rfl, Nat.le_of_ble_eq_true rfl⟩ ⟨rfl, rfl⟩ ⟨Nat.zero_le _, Nat.zero_le _⟩ dX0_otherOf_15 ?_
        refine lv_istore (lv' := [(4, .int (fU i)), (0, .ref aJ), (1, .int k), (2, .int b), (3, .int (nI i))]) hx hb dX0_otherOf_18 hl (by decide) rfl (fun ls hl => ?_)
        refine lv_aload_n hx hb dX0_otherOf_20 rfl (lv_at hl 1 rfl) ?_
        refine lv_iload_n hx hb dX0_otherOf_21 rfl (lv_at hl 4 rfl) ?_
        refine lv_aload_n hx hb dX0_otherOf_22 rfl (lv_at hl 1 rfl) ?_
        refine va_get (D := D) (ci := 0) (v := .int (nI sh)) (C := RX0) (T := TX0) (N := 6) hx hb hts hi_X0_otherOf_X0 hown hT.1 hP 0 rfl rfl 1 (by decide) (hts (.fieldLink RX0 29 "SlotStar$Joint" "shift" "I") (List.mem_of_getElem? (i := 3) rfl)) (fun _ h9 => h9) rfl dX0_otherOf_23 ?_
        refine ro_V (As := [.int (nI i), .int (nI sh)]) (rest := []) ⟨hx, hb, hml, hown, hts⟩ hT hP (k_X0_backOf l D cI cZ aJ aU aV fw sh wy bk fV i sh (by omega) (by omega) hs) gX0_otherOf_X0_backOf rfl rfl nd_X0_backOf [0, 2] rfl (ci := 0) rfl rfl (q0 := 0) rfl hl.1 rfl rfl (Nat.le_of_ble_eq_true rfl) ⟨Nat.le_of_ble_eq_true rfl, Nat.le_of_ble_eq_true rfl⟩ ⟨rfl, rfl⟩ ⟨Nat.zero_le _, Nat.zero_le _⟩ dX0_otherOf_26 ?_
        refine lv_istore (lv' := [(5, .int (fV ((i + sh) % fw))), (4, .int (fU i)), (0, .ref aJ), (1, .int k), (2, .int b), (3, .int (nI i))]) hx hb dX0_otherOf_29 hl (by decide) rfl (fun ls hl => ?_)
        refine lv_iload_n hx hb dX0_otherOf_31 rfl (lv_at hl 3 rfl) ?_
        refine lv_iload_n hx hb dX0_otherOf_32 rfl (lv_at hl 4 rfl) ?_
        refine lv_if_eq (tgt := 41) hx hb dX0_otherOf_33 (by decide) (fun c_3 => ?_) (fun c_3 => ?_)
        · skip
          refine lv_iload hx hb dX0_otherOf_41 (lv_at hl 0 rfl) ?_
          refine lv_icmp_ne (tgt := 58) hx hb dX0_otherOf_43 (by decide) (fun c_4 => ?_) (fun c_4 => ?_)
          · skip
            refine lv_iinc (v := nI (i + 1)) (lv' := [(3, .int (nI (i + 1))), (5, .int (fV ((i + sh) % fw))), (4, .int (fU i)), (0, .ref aJ), (1, .int k), (2, .int b)]) hx hb dX0_otherOf_58 hl (k := 5) rfl ((nI_succ i).symm) (by decide) rfl (fun ls hl => ?_)
            refine lv_goto (tgt := 2) hx hb dX0_otherOf_61 (by decide) ?_
            exact ih_2 (i + 1) (by omega) (by rw [h2]; simp [ooL, c_2, c_3, c_4]) ls (lv_sub hl [3, 4, 5, 0] rfl)
          · skip
            refine lv_iload_n hx hb dX0_otherOf_46 rfl (lv_at hl 4 rfl) ?_
            refine lv_if_eq (tgt := 55) hx hb dX0_otherOf_47 (by decide) (fun c_5 => ?_) (fun c_5 => ?_)
            · skip
              refine lv_iload hx hb dX0_otherOf_55 (lv_at hl 1 rfl) ?_
              exact ro_ret hx hb hr hlocks dX0_otherOf_57 (by rw [h2]; simp_all [ooL])
            · skip
              refine lv_iload hx hb dX0_otherOf_50 (lv_at hl 0 rfl) ?_
              refine lv_goto (tgt := 57) hx hb dX0_otherOf_52 (by decide) ?_
              exact ro_ret hx hb hr hlocks dX0_otherOf_57 (by rw [h2]; simp_all [ooL])
        · skip
          refine lv_iload hx hb dX0_otherOf_36 (lv_at hl 1 rfl) ?_
          refine lv_goto (tgt := 43) hx hb dX0_otherOf_38 (by decide) ?_
          refine lv_icmp_ne (tgt := 58) hx hb dX0_otherOf_43 (by decide) (fun c_6 => ?_) (fun c_6 => ?_)
          · skip
            refine lv_iinc (v := nI (i + 1)) (lv' := [(3, .int (nI (i + 1))), (5, .int (fV ((i + sh) % fw))), (4, .int (fU i)), (0, .ref aJ), (1, .int k), (2, .int b)]) hx hb dX0_otherOf_58 hl (k := 5) rfl ((nI_succ i).symm) (by decide) rfl (fun ls hl => ?_)
            refine lv_goto (tgt := 2) hx hb dX0_otherOf_61 (by decide) ?_
            exact ih_2 (i + 1) (by omega) (by rw [h2]; simp [ooL, c_2, c_3, c_6]) ls (lv_sub hl [3, 4, 5, 0] rfl)
          · skip
            refine lv_iload_n hx hb dX0_otherOf_46 rfl (lv_at hl 4 rfl) ?_
            refine lv_if_eq (tgt := 55) hx hb dX0_otherOf_47 (by decide) (fun c_7 => ?_) (fun c_7 => ?_)
            · skip
              refine lv_iload hx hb dX0_otherOf_55 (lv_at hl 1 rfl) ?_
              exact ro_ret hx hb hr hlocks dX0_otherOf_57 (by rw [h2]; simp_all [ooL])
            · skip
              refine lv_iload hx hb dX0_otherOf_50 (lv_at hl 0 rfl) ?_
              refine lv_goto (tgt := 57) hx hb dX0_otherOf_52 (by decide) ?_
              exact ro_ret hx hb hr hlocks dX0_otherOf_57 (by rw [h2]; simp_all [ooL])
  exact L_2 fw 0 (by omega) rfl ls (lv_sub hl [1, 2, 3, 0] rfl)

set_option maxRecDepth 20000 in
theorem hi_X0_collect_X0 : ∀ w ∈ wsX00, w ∈ wsX0_collect := by
  intro w h
  unfold wsX0_collect
  simp only [List.mem_cons, List.mem_append, h, or_true, true_or]
set_option maxRecDepth 20000 in
theorem hi_X0_collect_X1 : ∀ w ∈ wsX10, w ∈ wsX0_collect := by
  intro w h
  unfold wsX0_collect
  simp only [List.mem_cons, List.mem_append, h, or_true, true_or]
theorem nd_X0_collect : okName yX0_collect 2 := by decide +kernel
set_option maxHeartbeats 4000000 in
set_option maxRecDepth 100000 in
theorem k_X0_collect (l : Launch) (D : va_G) (cI cZ : ClassId) (aJ : Nat) (aU : Nat) (aV : Nat) (fw : Nat) (sh : Nat) (wy : Nat) (bk : Nat) (fU : Nat → Int32) (fV : Nat → Int32) (aM : Nat) (Q : Nat) (P : Nat) (M : Nat) (Wd : Nat) (a : Int32) (hv : MV Q P M Wd) : MU l yX0_collect wsX0_collect ({ frames := 4, cells := 0, slots := 0, locals := 86 } : Room) D cI cZ [(aJ, .inr (0, [.int (nI fw), .int (nI sh), .int (nI wy), .int (nI bk), .ref aU, .ref aV])), (aM, .inr (1, [.int (nI Q), .int (nI P), .int (nI M), .int (nI Wd), .int (nI (tT Q P)), .int (nI (tN Q P))])), (aU, .inl (cI, 48, .inl fU)), (aV, .inl (cI, 48, .inl fV))] [.ref aJ, .ref aM, .int a] none [(aJ, .inr (0, [.int (nI (fwN Q P M a)), .int (nI sh), .int (nI wy), .int (nI (bkN Q P M a)), .ref aU, .ref aV])), (aM, .inr (1, [.int (nI Q), .int (nI P), .int (nI M), .int (nI Wd), .int (nI (tT Q P)), .int (nI (tN Q P))])), (aU, .inl (cI, 48, .inl ((clS Q P M a fU fV).2.2.1))), (aV, .inl (cI, 48, .inl ((clS Q P M a fU fV).2.2.2)))] := by
  refine mu_start (by decide) rfl (Nat.le_of_ble_eq_true rfl) ?_
  intro p e s m args below meth c hx hb hr hml hlocks hts hown hT hP hD hS ls hl
  have hown : s.vm.findClass RX0 = some m.cls := hown
  have hl : lv_has ls 4 [(0, .ref aJ), (1, .ref aM), (2, .int a)] := hl
  have hv' := hv
  unfold MV at hv'
  refine lv_aload_n hx hb dX0_collect_0 rfl (lv_at hl 0 rfl) ?_
  refine lv_iconst (v := 0) hx hb dX0_collect_1 (by decide) ?_
  refine va_put (D := D) (ci := 0) (v := .int 0) (ty := .int) (C := RX0) (T := TX0) (N := 6) hx hb hts hi_X0_collect_X0 tyX0 tyX0_ok nmX0 hown hT.1 hP hD hS 0 rfl rfl 0 (by decide) (hts (.fieldLink RX0 22 "SlotStar$Joint" "forwards" "I") (List.mem_of_getElem? (i := 1) rfl)) (fun _ h9 => h9) rfl (by decide +kernel) rfl rfl (Nat.le_of_ble_eq_true rfl) dX0_collect_2 (fun H locs hP hD hS => ?_)
  have hP : va_P D cls5 [(aJ, .inr (0, [.int 0, .int (nI sh), .int (nI wy), .int (nI bk), .ref aU, .ref aV])), (aM, .inr (1, [.int (nI Q), .int (nI P), .int (nI M), .int (nI Wd), .int (nI (tT Q P)), .int (nI (tN Q P))])), (aU, .inl (cI, 48, .inl fU)), (aV, .inl (cI, 48, .inl fV))] H := hP
  have hD : va_D (va_M [(aJ, .inr (0, [.int (nI fw), .int (nI sh), .int (nI wy), .int (nI bk), .ref aU, .ref aV])), (aM, .inr (1, [.int (nI Q), .int (nI P), .int (nI M), .int (nI Wd), .int (nI (tT Q P)), .int (nI (tN Q P))])), (aU, .inl (cI, 48, .inl fU)), (aV, .inl (cI, 48, .inl fV))]) [(aJ, .inr (0, [.int 0, .int (nI sh), .int (nI wy), .int (nI bk), .ref aU, .ref aV])), (aM, .inr (1, [.int (nI Q), .int (nI P), .int (nI M), .int (nI Wd), .int (nI (tT Q P)), .int (nI (tN Q P))])), (aU, .inl (cI, 48, .inl fU)), (aV, .inl (cI, 48, .inl fV))] := hD
  refine lv_aload_n hx hb dX0_collect_5 rfl (lv_at hl 0 rfl) ?_
  refine lv_iconst (v := 0) hx hb dX0_collect_6 (by decide) ?_
  refine va_put (D := D) (ci := 0) (v := .int 0) (ty := .int) (C := RX0) (T := TX0) (N := 6) hx hb hts hi_X0_collect_X0 tyX0 tyX0_ok nmX0 hown hT.1 hP hD hS 0 rfl rfl 3 (by decide) (hts (.fieldLink RX0 26 "SlotStar$Joint" "backs" "I") (List.mem_of_getElem? (i := 2) rfl)) (fun _ h9 => h9) rfl (by decide +kernel) rfl rfl (Nat.le_of_ble_eq_true rfl) dX0_collect_7 (fun H locs hP hD hS => ?_)
  have hP : va_P D cls5 [(aJ, .inr (0, [.int 0, .int (nI sh), .int (nI wy), .int 0, .ref aU, .ref aV])), (aM, .inr (1, [.int (nI Q), .int (nI P), .int (nI M), .int (nI Wd), .int (nI (tT Q P)), .int (nI (tN Q P))])), (aU, .inl (cI, 48, .inl fU)), (aV, .inl (cI, 48, .inl fV))] H := hP
  have hD : va_D (va_M [(aJ, .inr (0, [.int (nI fw), .int (nI sh), .int (nI wy), .int (nI bk), .ref aU, .ref aV])), (aM, .inr (1, [.int (nI Q), .int (nI P), .int (nI M), .int (nI Wd), .int (nI (tT Q P)), .int (nI (tN Q P))])), (aU, .inl (cI, 48, .inl fU)), (aV, .inl (cI, 48, .inl fV))]) [(aJ, .inr (0, [.int 0, .int (nI sh), .int (nI wy), .int 0, .ref aU, .ref aV])), (aM, .inr (1, [.int (nI Q), .int (nI P), .int (nI M), .int (nI Wd), .int (nI (tT Q P)), .int (nI (tN Q P))])), (aU, .inl (cI, 48, .inl fU)), (aV, .inl (cI, 48, .inl fV))] := hD
  refine lv_iconst (v := 0) hx hb dX0_collect_10 (by decide) ?_
  refine lv_istore_n (lv' := [(3, .int 0), (0, .ref aJ), (1, .ref aM), (2, .int a)]) hx hb dX0_collect_11 rfl hl (by decide) rfl (fun ls hl => ?_)
  have L_12 : ∀ (f : Nat) (i : Nat) (x : Nat) (y : Nat) (u : Nat → Int32) (v : Nat → Int32), i + f = Q → x + y ≤ i → clS Q P M a fU fV = clL Q P M a f i x y u v → ∀ (H : Heap) (locs : List Loc), va_P D cls5 [(aJ, .inr (0, [.int (nI x), .int (nI sh), .int (nI wy), .int (nI y), .ref aU, .ref aV])), (aM, .inr (1, [.int (nI Q), .int (nI P), .int (nI M), .int (nI Wd), .int (nI (tT Q P)), .int (nI (tN Q P))])), (aU, .inl (cI, 48, .inl u)), (aV, .inl (cI, 48, .inl v))] H → va_D (va_M [(aJ, .inr (0, [.int (nI fw), .int (nI sh), .int (nI wy), .int (nI bk), .ref aU, .ref aV])), (aM, .inr (1, [.int (nI Q), .int (nI P), .int (nI M), .int (nI Wd), .int (nI (tT Q P)), .int (nI (tN Q P))])), (aU, .inl (cI, 48, .inl fU)), (aV, .inl (cI, 48, .inl fV))]) [(aJ, .inr (0, [.int (nI x), .int (nI sh), .int (nI wy), .int (nI y), .ref aU, .ref aV])), (aM, .inr (1, [.int (nI Q), .int (nI P), .int (nI M), .int (nI Wd), .int (nI (tT Q P)), .int (nI (tN Q P))])), (aU, .inl (cI, 48, .inl u)), (aV, .inl (cI, 48, .inl v))] → va_S (va_M [(aJ, .inr (0, [.int (nI fw), .int (nI sh), .int (nI wy), .int (nI bk), .ref aU, .ref aV])), (aM, .inr (1, [.int (nI Q), .int (nI P), .int (nI M), .int (nI Wd), .int (nI (tT Q P)), .int (nI (tN Q P))])), (aU, .inl (cI, 48, .inl fU)), (aV, .inl (cI, 48, .inl fV))]) s.heap H locs → ∀ ls : Array Slot, lv_has ls 4 [(0, .ref aJ), (1, .ref aM), (2, .int a), (3, .int (nI i))] → W p l e (headSpec wsX0_collect ({ frames := 4, cells := 0, slots := 0, locals := 86 } : Room)).room s m args below meth c H locs 0 0 (MQ below (QcM D [(aJ, .inr (0, [.int (nI fw), .int (nI sh), .int (nI wy), .int (nI bk), .ref aU, .ref aV])), (aM, .inr (1, [.int (nI Q), .int (nI P), .int (nI M), .int (nI Wd), .int (nI (tT Q P)), .int (nI (tN Q P))])), (aU, .inl (cI, 48, .inl fU)), (aV, .inl (cI, 48, .inl fV))] [(aJ, .inr (0, [.int (nI (fwN Q P M a)), .int (nI sh), .int (nI wy), .int (nI (bkN Q P M a)), .ref aU, .ref aV])), (aM, .inr (1, [.int (nI Q), .int (nI P), .int (nI M), .int (nI Wd), .int (nI (tT Q P)), .int (nI (tN Q P))])), (aU, .inl (cI, 48, .inl ((clS Q P M a fU fV).2.2.1))), (aV, .inl (cI, 48, .inl ((clS Q P M a fU fV).2.2.2)))] none) args s 0 0 (va_M [(aJ, .inr (0, [.int (nI fw), .int (nI sh), .int (nI wy), .int (nI bk), .ref aU, .ref aV])), (aM, .inr (1, [.int (nI Q), .int (nI P), .int (nI M), .int (nI Wd), .int (nI (tT Q P)), .int (nI (tN Q P))])), (aU, .inl (cI, 48, .inl fU)), (aV, .inl (cI, 48, .inl fV))])) (F0 m 12 ls []) := by
    intro f
    induction f with
    | zero =>
      intro i x y u v h1 h3 h2 H locs hP hD hS ls hl
      refine lv_iload_n hx hb dX0_collect_12 rfl (lv_at hl 3 rfl) ?_
      refine lv_aload_n hx hb dX0_collect_13 rfl (lv_at hl 1 rfl) ?_
      refine va_get (D := D) (ci := 1) (v := .int (nI Q)) (C := RX1) (T := TX1) (N := 6) hx hb hts hi_X0_collect_X1 hown hT.1 hP 1 rfl rfl 0 (by decide) (hts (.fieldLink RX0 39 "SlotStar$Machine" "slots" "I") (List.mem_of_getElem? (i := 3) rfl)) (fun _ h9 => h9) rfl dX0_collect_14 ?_
      refine lv_icmp_ge (tgt := 90) hx hb dX0_collect_17 (by decide) (fun c_1 => ?_) (fun c_1 => ?_)
      · skip
        exact mu_retv hx hb hr hlocks dX0_collect_90 (by rw [clS_fw Q P M a fU fV, clS_bk Q P M a fU fV, h2]; exact hP) hS
      · exfalso; exact c_1 (nI_le (by omega) (by omega))
    | succ f ih_12 =>
      intro i x y u v h1 h3 h2 H locs hP hD hS ls hl
      refine lv_iload_n hx hb dX0_collect_12 rfl (lv_at hl 3 rfl) ?_
      refine lv_aload_n hx hb dX0_collect_13 rfl (lv_at hl 1 rfl) ?_
      refine va_get (D := D) (ci := 1) (v := .int (nI Q)) (C := RX1) (T := TX1) (N := 6) hx hb hts hi_X0_collect_X1 hown hT.1 hP 1 rfl rfl 0 (by decide) (hts (.fieldLink RX0 39 "SlotStar$Machine" "slots" "I") (List.mem_of_getElem? (i := 3) rfl)) (fun _ h9 => h9) rfl dX0_collect_14 ?_
      refine lv_icmp_ge (tgt := 90) hx hb dX0_collect_17 (by decide) (fun c_2 => ?_) (fun c_2 => ?_)
      · exfalso; exact nI_ge (show i < Q by omega) (by omega) c_2
      · skip
        refine lv_aload_n hx hb dX0_collect_20 rfl (lv_at hl 1 rfl) ?_
        refine lv_iload_n hx hb dX0_collect_21 rfl (lv_at hl 3 rfl) ?_
        refine ro_V (As := [.int (nI i)]) (rest := []) ⟨hx, hb, hml, hown, hts⟩ hT hP (k_X1_phaseOf l D cI cZ aM Q P M Wd i hv (by omega)) gX0_collect_X1_phaseOf rfl rfl nd_X1_phaseOf [1] rfl (ci := 1) rfl rfl (q0 := 1) rfl hl.1 rfl rfl (Nat.le_of_ble_eq_true rfl) ⟨Nat.le_of_ble_eq_true rfl, Nat.le_of_ble_eq_true rfl⟩ ⟨rfl, rfl⟩ ⟨Nat.zero_le _, Nat.zero_le _⟩ dX0_collect_22 ?_
        refine lv_iload_n hx hb dX0_collect_25 rfl (lv_at hl 2 rfl) ?_
        refine lv_icmp_ne (tgt := 84) hx hb dX0_collect_26 (by decide) (fun c_3 => ?_) (fun c_3 => ?_)
        · skip
          refine lv_iinc (v := nI (i + 1)) (lv' := [(3, .int (nI (i + 1))), (0, .ref aJ), (1, .ref aM), (2, .int a)]) hx hb dX0_collect_84 hl (k := 3) rfl ((nI_succ i).symm) (by decide) rfl (fun ls hl => ?_)
          refine lv_goto (tgt := 12) hx hb dX0_collect_87 (by decide) ?_
          exact ih_12 (i + 1) x y _ _ (by omega) (by omega) (by rw [h2]; simp [clL, c_2, c_3]) _ _ hP hD hS ls (lv_sub hl [1, 2, 3, 0] rfl)
        · skip
          refine lv_aload_n hx hb dX0_collect_29 rfl (lv_at hl 1 rfl) ?_
          refine lv_iload_n hx hb dX0_collect_30 rfl (lv_at hl 3 rfl) ?_
          refine ro_V (As := [.int (nI i)]) (rest := []) ⟨hx, hb, hml, hown, hts⟩ hT hP (k_X1_isForward l D cI cZ aM Q P M Wd i hv (by omega)) gX0_collect_X1_isForward rfl rfl nd_X1_isForward [1] rfl (ci := 1) rfl rfl (q0 := 1) rfl hl.1 rfl rfl (Nat.le_of_ble_eq_true rfl) ⟨Nat.le_of_ble_eq_true rfl, Nat.le_of_ble_eq_true rfl⟩ ⟨rfl, rfl⟩ ⟨Nat.zero_le _, Nat.zero_le _⟩ dX0_collect_31 ?_
          refine lv_if_eq (tgt := 62) hx hb dX0_collect_34 (by decide) (fun c_4 => ?_) (fun c_4 => ?_)
          · skip
            refine lv_aload_n hx hb dX0_collect_62 rfl (lv_at hl 0 rfl) ?_
            refine va_get (D := D) (ci := 0) (v := .ref aV) (C := RX0) (T := TX0) (N := 6) hx hb hts hi_X0_collect_X0 hown hT.1 hP 0 rfl rfl 5 (by decide) (hts (.fieldLink RX0 15 "SlotStar$Joint" "backSlots" "[I") (List.mem_of_getElem? (i := 5) rfl)) (fun _ h9 => h9) rfl dX0_collect_63 ?_
            refine lv_aload_n hx hb dX0_collect_66 rfl (lv_at hl 0 rfl) ?_
            refine va_get (D := D) (ci := 0) (v := .int (nI y)) (C := RX0) (T := TX0) (N := 6) hx hb hts hi_X0_collect_X0 hown hT.1 hP 0 rfl rfl 3 (by decide) (hts (.fieldLink RX0 26 "SlotStar$Joint" "backs" "I") (List.mem_of_getElem? (i := 2) rfl)) (fun _ h9 => h9) rfl dX0_collect_67 ?_
            refine lv_iload_n hx hb dX0_collect_70 rfl (lv_at hl 3 rfl) ?_
            refine mu_N (As := [.ref aV, .int (nI y), .int (nI i)]) (rest := []) (W1 := [(aJ, .inr (0, [.int (nI x), .int (nI sh), .int (nI wy), .int (nI y), .ref aU, .ref aV])), (aM, .inr (1, [.int (nI Q), .int (nI P), .int (nI M), .int (nI Wd), .int (nI (tT Q P)), .int (nI (tN Q P))])), (aU, .inl (cI, 48, .inl u)), (aV, .inl (cI, 48, .inl (upd v y (nI i))))]) (st1 := []) ⟨hx, hb, hml, hown, hts⟩ hT hP hD hS (k_X3_put l D cI cZ aV 48 v y (nI i) (by decide) (by omega)) (List.mem_of_getElem? (i := 0) rfl) gX0_collect_X3_put_n52 (hts (.initialized RX3) (List.mem_of_getElem? (i := 25) rfl)) (hts (.static yX3_put) (List.mem_of_getElem? (i := 33) rfl)) rfl nd_X3_put [3] (by decide) rfl rfl rfl rfl hl.1 rfl rfl (Nat.le_of_ble_eq_true rfl) ⟨Nat.le_of_ble_eq_true rfl, Nat.le_of_ble_eq_true rfl⟩ ⟨rfl, rfl⟩ ⟨Nat.zero_le _, Nat.zero_le _⟩ dX0_collect_71 (fun H locs hP hD hS => ?_)
            refine lv_aload_n hx hb dX0_collect_74 rfl (lv_at hl 0 rfl) ?_
            refine lv_dup hx hb dX0_collect_75 rfl ?_
            refine va_get (D := D) (ci := 0) (v := .int (nI y)) (C := RX0) (T := TX0) (N := 6) hx hb hts hi_X0_collect_X0 hown hT.1 hP 0 rfl rfl 3 (by decide) (hts (.fieldLink RX0 26 "SlotStar$Joint" "backs" "I") (List.mem_of_getElem? (i := 2) rfl)) (fun _ h9 => h9) rfl dX0_collect_76 ?_
            refine lv_iconst (v := 1) hx hb dX0_collect_79 (by decide) ?_
            refine lv_iadd hx hb dX0_collect_80 ?_
            refine top_eq (z := (nI (y + 1))) (by exact nI_1 y) ?_
            refine va_put (D := D) (ci := 0) (v := .int (nI (y + 1))) (ty := .int) (C := RX0) (T := TX0) (N := 6) hx hb hts hi_X0_collect_X0 tyX0 tyX0_ok nmX0 hown hT.1 hP hD hS 0 rfl rfl 3 (by decide) (hts (.fieldLink RX0 26 "SlotStar$Joint" "backs" "I") (List.mem_of_getElem? (i := 2) rfl)) (fun _ h9 => h9) rfl (by decide +kernel) rfl rfl (Nat.le_of_ble_eq_true rfl) dX0_collect_81 (fun H locs hP hD hS => ?_)
            have hP : va_P D cls5 [(aJ, .inr (0, [.int (nI x), .int (nI sh), .int (nI wy), .int (nI (y + 1)), .ref aU, .ref aV])), (aM, .inr (1, [.int (nI Q), .int (nI P), .int (nI M), .int (nI Wd), .int (nI (tT Q P)), .int (nI (tN Q P))])), (aU, .inl (cI, 48, .inl u)), (aV, .inl (cI, 48, .inl (upd v y (nI i))))] H := hP
            have hD : va_D (va_M [(aJ, .inr (0, [.int (nI fw), .int (nI sh), .int (nI wy), .int (nI bk), .ref aU, .ref aV])), (aM, .inr (1, [.int (nI Q), .int (nI P), .int (nI M), .int (nI Wd), .int (nI (tT Q P)), .int (nI (tN Q P))])), (aU, .inl (cI, 48, .inl fU)), (aV, .inl (cI, 48, .inl fV))]) [(aJ, .inr (0, [.int (nI x), .int (nI sh), .int (nI wy), .int (nI (y + 1)), .ref aU, .ref aV])), (aM, .inr (1, [.int (nI Q), .int (nI P), .int (nI M), .int (nI Wd), .int (nI (tT Q P)), .int (nI (tN Q P))])), (aU, .inl (cI, 48, .inl u)), (aV, .inl (cI, 48, .inl (upd v y (nI i))))] := hD
            refine lv_iinc (v := nI (i + 1)) (lv' := [(3, .int (nI (i + 1))), (0, .ref aJ), (1, .ref aM), (2, .int a)]) hx hb dX0_collect_84 hl (k := 3) rfl ((nI_succ i).symm) (by decide) rfl (fun ls hl => ?_)
            refine lv_goto (tgt := 12) hx hb dX0_collect_87 (by decide) ?_
            exact ih_12 (i + 1) x (y + 1) _ _ (by omega) (by omega) (by rw [h2]; simp [clL, c_2, c_3, c_4]) _ _ hP hD hS ls (lv_sub hl [1, 2, 3, 0] rfl)
          · skip
            refine lv_aload_n hx hb dX0_collect_37 rfl (lv_at hl 0 rfl) ?_
            refine va_get (D := D) (ci := 0) (v := .ref aU) (C := RX0) (T := TX0) (N := 6) hx hb hts hi_X0_collect_X0 hown hT.1 hP 0 rfl rfl 4 (by decide) (hts (.fieldLink RX0 9 "SlotStar$Joint" "forwardSlots" "[I") (List.mem_of_getElem? (i := 4) rfl)) (fun _ h9 => h9) rfl dX0_collect_38 ?_
            refine lv_aload_n hx hb dX0_collect_41 rfl (lv_at hl 0 rfl) ?_
            refine va_get (D := D) (ci := 0) (v := .int (nI x)) (C := RX0) (T := TX0) (N := 6) hx hb hts hi_X0_collect_X0 hown hT.1 hP 0 rfl rfl 0 (by decide) (hts (.fieldLink RX0 22 "SlotStar$Joint" "forwards" "I") (List.mem_of_getElem? (i := 1) rfl)) (fun _ h9 => h9) rfl dX0_collect_42 ?_
            refine lv_iload_n hx hb dX0_collect_45 rfl (lv_at hl 3 rfl) ?_
            refine mu_N (As := [.ref aU, .int (nI x), .int (nI i)]) (rest := []) (W1 := [(aJ, .inr (0, [.int (nI x), .int (nI sh), .int (nI wy), .int (nI y), .ref aU, .ref aV])), (aM, .inr (1, [.int (nI Q), .int (nI P), .int (nI M), .int (nI Wd), .int (nI (tT Q P)), .int (nI (tN Q P))])), (aU, .inl (cI, 48, .inl (upd u x (nI i)))), (aV, .inl (cI, 48, .inl v))]) (st1 := []) ⟨hx, hb, hml, hown, hts⟩ hT hP hD hS (k_X3_put l D cI cZ aU 48 u x (nI i) (by decide) (by omega)) (List.mem_of_getElem? (i := 0) rfl) gX0_collect_X3_put_n52 (hts (.initialized RX3) (List.mem_of_getElem? (i := 25) rfl)) (hts (.static yX3_put) (List.mem_of_getElem? (i := 33) rfl)) rfl nd_X3_put [2] (by decide) rfl rfl rfl rfl hl.1 rfl rfl (Nat.le_of_ble_eq_true rfl) ⟨Nat.le_of_ble_eq_true rfl, Nat.le_of_ble_eq_true rfl⟩ ⟨rfl, rfl⟩ ⟨Nat.zero_le _, Nat.zero_le _⟩ dX0_collect_46 (fun H locs hP hD hS => ?_)
            refine lv_aload_n hx hb dX0_collect_49 rfl (lv_at hl 0 rfl) ?_
            refine lv_dup hx hb dX0_collect_50 rfl ?_
            refine va_get (D := D) (ci := 0) (v := .int (nI x)) (C := RX0) (T := TX0) (N := 6) hx hb hts hi_X0_collect_X0 hown hT.1 hP 0 rfl rfl 0 (by decide) (hts (.fieldLink RX0 22 "SlotStar$Joint" "forwards" "I") (List.mem_of_getElem? (i := 1) rfl)) (fun _ h9 => h9) rfl dX0_collect_51 ?_
            refine lv_iconst (v := 1) hx hb dX0_collect_54 (by decide) ?_
            refine lv_iadd hx hb dX0_collect_55 ?_
            refine top_eq (z := (nI (x + 1))) (by exact nI_1 x) ?_
            refine va_put (D := D) (ci := 0) (v := .int (nI (x + 1))) (ty := .int) (C := RX0) (T := TX0) (N := 6) hx hb hts hi_X0_collect_X0 tyX0 tyX0_ok nmX0 hown hT.1 hP hD hS 0 rfl rfl 0 (by decide) (hts (.fieldLink RX0 22 "SlotStar$Joint" "forwards" "I") (List.mem_of_getElem? (i := 1) rfl)) (fun _ h9 => h9) rfl (by decide +kernel) rfl rfl (Nat.le_of_ble_eq_true rfl) dX0_collect_56 (fun H locs hP hD hS => ?_)
            have hP : va_P D cls5 [(aJ, .inr (0, [.int (nI (x + 1)), .int (nI sh), .int (nI wy), .int (nI y), .ref aU, .ref aV])), (aM, .inr (1, [.int (nI Q), .int (nI P), .int (nI M), .int (nI Wd), .int (nI (tT Q P)), .int (nI (tN Q P))])), (aU, .inl (cI, 48, .inl (upd u x (nI i)))), (aV, .inl (cI, 48, .inl v))] H := hP
            have hD : va_D (va_M [(aJ, .inr (0, [.int (nI fw), .int (nI sh), .int (nI wy), .int (nI bk), .ref aU, .ref aV])), (aM, .inr (1, [.int (nI Q), .int (nI P), .int (nI M), .int (nI Wd), .int (nI (tT Q P)), .int (nI (tN Q P))])), (aU, .inl (cI, 48, .inl fU)), (aV, .inl (cI, 48, .inl fV))]) [(aJ, .inr (0, [.int (nI (x + 1)), .int (nI sh), .int (nI wy), .int (nI y), .ref aU, .ref aV])), (aM, .inr (1, [.int (nI Q), .int (nI P), .int (nI M), .int (nI Wd), .int (nI (tT Q P)), .int (nI (tN Q P))])), (aU, .inl (cI, 48, .inl (upd u x (nI i)))), (aV, .inl (cI, 48, .inl v))] := hD
            refine lv_goto (tgt := 84) hx hb dX0_collect_59 (by decide) ?_
            refine lv_iinc (v := nI (i + 1)) (lv' := [(3, .int (nI (i + 1))), (0, .ref aJ), (1, .ref aM), (2, .int a)]) hx hb dX0_collect_84 hl (k := 3) rfl ((nI_succ i).symm) (by decide) rfl (fun ls hl => ?_)
            refine lv_goto (tgt := 12) hx hb dX0_collect_87 (by decide) ?_
            exact ih_12 (i + 1) (x + 1) y _ _ (by omega) (by omega) (by rw [h2]; simp [clL, c_2, c_3, c_4]) _ _ hP hD hS ls (lv_sub hl [1, 2, 3, 0] rfl)
  exact L_12 Q 0 0 0 fU fV (by omega) (by omega) rfl _ _ hP hD hS ls (lv_sub hl [1, 2, 3, 0] rfl)

set_option maxRecDepth 20000 in
theorem hi_X0_join_X0 : ∀ w ∈ wsX00, w ∈ wsX0_join := by
  intro w h
  unfold wsX0_join
  simp only [List.mem_cons, List.mem_append, h, or_true, true_or]
theorem nd_X0_join : okName yX0_join 2 := by decide +kernel
set_option maxHeartbeats 4000000 in
set_option maxRecDepth 100000 in
theorem k_X0_join (l : Launch) (D : va_G) (cI cZ : ClassId) (aJ : Nat) (aU : Nat) (aV : Nat) (fw : Nat) (sh : Nat) (wy : Nat) (bk : Nat) (fU : Nat → Int32) (fV : Nat → Int32) (aM : Nat) (Q : Nat) (P : Nat) (M : Nat) (Wd : Nat) (a : Int32) (hv : MV Q P M Wd) : MU l yX0_join wsX0_join ({ frames := 5, cells := 0, slots := 0, locals := 109 } : Room) D cI cZ [(aJ, .inr (0, [.int (nI fw), .int (nI sh), .int (nI wy), .int (nI bk), .ref aU, .ref aV])), (aM, .inr (1, [.int (nI Q), .int (nI P), .int (nI M), .int (nI Wd), .int (nI (tT Q P)), .int (nI (tN Q P))])), (aU, .inl (cI, 48, .inl fU)), (aV, .inl (cI, 48, .inl fV))] [.ref aJ, .ref aM, .int a] (some (.int (jnR Q P M a))) [(aJ, .inr (0, [.int (nI (fwN Q P M a)), .int (nI (if fwN Q P M a = bkN Q P M a then (joS Q P M a).1 else sh)), .int (nI (if fwN Q P M a = bkN Q P M a then (joS Q P M a).2 else wy)), .int (nI (bkN Q P M a)), .ref aU, .ref aV])), (aM, .inr (1, [.int (nI Q), .int (nI P), .int (nI M), .int (nI Wd), .int (nI (tT Q P)), .int (nI (tN Q P))])), (aU, .inl (cI, 48, .inl ((clS Q P M a fU fV).2.2.1))), (aV, .inl (cI, 48, .inl ((clS Q P M a fU fV).2.2.2)))] := by
  refine mu_start (by decide) rfl (Nat.le_of_ble_eq_true rfl) ?_
  intro p e s m args below meth c hx hb hr hml hlocks hts hown hT hP hD hS ls hl
  have hown : s.vm.findClass RX0 = some m.cls := hown
  have hl : lv_has ls 5 [(0, .ref aJ), (1, .ref aM), (2, .int a)] := hl
  have hv' := hv
  unfold MV at hv'
  have hfb := fb_le Q P M a
  refine lv_aload_n hx hb dX0_join_0 rfl (lv_at hl 0 rfl) ?_
  refine lv_aload_n hx hb dX0_join_1 rfl (lv_at hl 1 rfl) ?_
  refine lv_iload_n hx hb dX0_join_2 rfl (lv_at hl 2 rfl) ?_
  refine mu_V (As := [.ref aM, .int a]) (rest := []) (W1 := [(aJ, .inr (0, [.int (nI (fwN Q P M a)), .int (nI sh), .int (nI wy), .int (nI (bkN Q P M a)), .ref aU, .ref aV])), (aM, .inr (1, [.int (nI Q), .int (nI P), .int (nI M), .int (nI Wd), .int (nI (tT Q P)), .int (nI (tN Q P))])), (aU, .inl (cI, 48, .inl ((clS Q P M a fU fV).2.2.1))), (aV, .inl (cI, 48, .inl ((clS Q P M a fU fV).2.2.2)))]) (st1 := []) ⟨hx, hb, hml, hown, hts⟩ hT hP hD hS (k_X0_collect l D cI cZ aJ aU aV fw sh wy bk fU fV aM Q P M Wd a hv) gX0_join_X0_collect rfl rfl nd_X0_collect [0, 1, 2, 3] (by decide) rfl rfl rfl rfl (ci := 0) rfl rfl (q0 := 0) rfl hl.1 rfl rfl (Nat.le_of_ble_eq_true rfl) ⟨Nat.le_of_ble_eq_true rfl, Nat.le_of_ble_eq_true rfl⟩ ⟨rfl, rfl⟩ ⟨Nat.zero_le _, Nat.zero_le _⟩ dX0_join_3 (fun H locs hP hD hS => ?_)
  refine lv_aload_n hx hb dX0_join_6 rfl (lv_at hl 0 rfl) ?_
  refine va_get (D := D) (ci := 0) (v := .int (nI (fwN Q P M a))) (C := RX0) (T := TX0) (N := 6) hx hb hts hi_X0_join_X0 hown hT.1 hP 0 rfl rfl 0 (by decide) (hts (.fieldLink RX0 22 "SlotStar$Joint" "forwards" "I") (List.mem_of_getElem? (i := 1) rfl)) (fun _ h9 => h9) rfl dX0_join_7 ?_
  refine lv_aload_n hx hb dX0_join_10 rfl (lv_at hl 0 rfl) ?_
  refine va_get (D := D) (ci := 0) (v := .int (nI (bkN Q P M a))) (C := RX0) (T := TX0) (N := 6) hx hb hts hi_X0_join_X0 hown hT.1 hP 0 rfl rfl 3 (by decide) (hts (.fieldLink RX0 26 "SlotStar$Joint" "backs" "I") (List.mem_of_getElem? (i := 2) rfl)) (fun _ h9 => h9) rfl dX0_join_11 ?_
  refine lv_icmp_eq (tgt := 19) hx hb dX0_join_14 (by decide) (fun c_1 => ?_) (fun c_1 => ?_)
  · skip
    have hj : fwN Q P M a = bkN Q P M a := (nI_eq (by omega) (by omega)).mp c_1
    refine lv_aload_n hx hb dX0_join_19 rfl (lv_at hl 0 rfl) ?_
    refine lv_iconst (v := 0) hx hb dX0_join_20 (by decide) ?_
    refine va_put (D := D) (ci := 0) (v := .int 0) (ty := .int) (C := RX0) (T := TX0) (N := 6) hx hb hts hi_X0_join_X0 tyX0 tyX0_ok nmX0 hown hT.1 hP hD hS 0 rfl rfl 1 (by decide) (hts (.fieldLink RX0 29 "SlotStar$Joint" "shift" "I") (List.mem_of_getElem? (i := 3) rfl)) (fun _ h9 => h9) rfl (by decide +kernel) rfl rfl (Nat.le_of_ble_eq_true rfl) dX0_join_21 (fun H locs hP hD hS => ?_)
    have hP : va_P D cls5 [(aJ, .inr (0, [.int (nI (fwN Q P M a)), .int 0, .int (nI wy), .int (nI (bkN Q P M a)), .ref aU, .ref aV])), (aM, .inr (1, [.int (nI Q), .int (nI P), .int (nI M), .int (nI Wd), .int (nI (tT Q P)), .int (nI (tN Q P))])), (aU, .inl (cI, 48, .inl ((clS Q P M a fU fV).2.2.1))), (aV, .inl (cI, 48, .inl ((clS Q P M a fU fV).2.2.2)))] H := hP
    have hD : va_D (va_M [(aJ, .inr (0, [.int (nI fw), .int (nI sh), .int (nI wy), .int (nI bk), .ref aU, .ref aV])), (aM, .inr (1, [.int (nI Q), .int (nI P), .int (nI M), .int (nI Wd), .int (nI (tT Q P)), .int (nI (tN Q P))])), (aU, .inl (cI, 48, .inl fU)), (aV, .inl (cI, 48, .inl fV))]) [(aJ, .inr (0, [.int (nI (fwN Q P M a)), .int 0, .int (nI wy), .int (nI (bkN Q P M a)), .ref aU, .ref aV])), (aM, .inr (1, [.int (nI Q), .int (nI P), .int (nI M), .int (nI Wd), .int (nI (tT Q P)), .int (nI (tN Q P))])), (aU, .inl (cI, 48, .inl ((clS Q P M a fU fV).2.2.1))), (aV, .inl (cI, 48, .inl ((clS Q P M a fU fV).2.2.2)))] := hD
    refine lv_aload_n hx hb dX0_join_24 rfl (lv_at hl 0 rfl) ?_
    refine lv_aload_n hx hb dX0_join_25 rfl (lv_at hl 0 rfl) ?_
    refine lv_aload_n hx hb dX0_join_26 rfl (lv_at hl 1 rfl) ?_
    refine lv_iconst (v := 0) hx hb dX0_join_27 (by decide) ?_
    refine ro_V (As := [.ref aM, .int 0]) (rest := [.ref aJ]) ⟨hx, hb, hml, hown, hts⟩ hT hP (k_X0_waysOf l D cI cZ aJ aU aV (fwN Q P M a) 0 wy (bkN Q P M a) ((clS Q P M a fU fV).2.2.1) ((clS Q P M a fU fV).2.2.2) aM Q P M Wd 0 hv (by omega) (by omega) (slR_u (by omega) a fU fV) (by have h9 := slR_v (Q := Q) (P := P) (M := M) (by omega) a fU fV; rw [← hj] at h9; exact h9)) gX0_join_X0_waysOf rfl rfl nd_X0_waysOf [0, 1, 2, 3] rfl (ci := 0) rfl rfl (q0 := 0) rfl hl.1 rfl rfl (Nat.le_of_ble_eq_true rfl) ⟨Nat.le_of_ble_eq_true rfl, Nat.le_of_ble_eq_true rfl⟩ ⟨rfl, rfl⟩ ⟨Nat.zero_le _, Nat.zero_le _⟩ dX0_join_28 ?_
    refine top_eq (z := (nI (wyS Q P M a 0))) (by rw [wyS_of fU fV 0 hj]) ?_
    refine va_put (D := D) (ci := 0) (v := .int (nI (wyS Q P M a 0))) (ty := .int) (C := RX0) (T := TX0) (N := 6) hx hb hts hi_X0_join_X0 tyX0 tyX0_ok nmX0 hown hT.1 hP hD hS 0 rfl rfl 2 (by decide) (hts (.fieldLink RX0 36 "SlotStar$Joint" "ways" "I") (List.mem_of_getElem? (i := 4) rfl)) (fun _ h9 => h9) rfl (by decide +kernel) rfl rfl (Nat.le_of_ble_eq_true rfl) dX0_join_31 (fun H locs hP hD hS => ?_)
    have hP : va_P D cls5 [(aJ, .inr (0, [.int (nI (fwN Q P M a)), .int 0, .int (nI (wyS Q P M a 0)), .int (nI (bkN Q P M a)), .ref aU, .ref aV])), (aM, .inr (1, [.int (nI Q), .int (nI P), .int (nI M), .int (nI Wd), .int (nI (tT Q P)), .int (nI (tN Q P))])), (aU, .inl (cI, 48, .inl ((clS Q P M a fU fV).2.2.1))), (aV, .inl (cI, 48, .inl ((clS Q P M a fU fV).2.2.2)))] H := hP
    have hD : va_D (va_M [(aJ, .inr (0, [.int (nI fw), .int (nI sh), .int (nI wy), .int (nI bk), .ref aU, .ref aV])), (aM, .inr (1, [.int (nI Q), .int (nI P), .int (nI M), .int (nI Wd), .int (nI (tT Q P)), .int (nI (tN Q P))])), (aU, .inl (cI, 48, .inl fU)), (aV, .inl (cI, 48, .inl fV))]) [(aJ, .inr (0, [.int (nI (fwN Q P M a)), .int 0, .int (nI (wyS Q P M a 0)), .int (nI (bkN Q P M a)), .ref aU, .ref aV])), (aM, .inr (1, [.int (nI Q), .int (nI P), .int (nI M), .int (nI Wd), .int (nI (tT Q P)), .int (nI (tN Q P))])), (aU, .inl (cI, 48, .inl ((clS Q P M a fU fV).2.2.1))), (aV, .inl (cI, 48, .inl ((clS Q P M a fU fV).2.2.2)))] := hD
    refine lv_iconst (v := 1) hx hb dX0_join_34 (by decide) ?_
    refine lv_istore_n (lv' := [(3, .int 1), (0, .ref aJ), (1, .ref aM), (2, .int a)]) hx hb dX0_join_35 rfl hl (by decide) rfl (fun ls hl => ?_)
    have L_36 : ∀ (f : Nat) (sv : Nat) (x : Nat) (y : Nat), sv + f = fwN Q P M a ∨ (f = 0 ∧ fwN Q P M a ≤ sv) → 1 ≤ sv ∧ sv < 1000 → joS Q P M a = joL Q P M a f sv x y → ∀ (H : Heap) (locs : List Loc), va_P D cls5 [(aJ, .inr (0, [.int (nI (fwN Q P M a)), .int (nI x), .int (nI y), .int (nI (bkN Q P M a)), .ref aU, .ref aV])), (aM, .inr (1, [.int (nI Q), .int (nI P), .int (nI M), .int (nI Wd), .int (nI (tT Q P)), .int (nI (tN Q P))])), (aU, .inl (cI, 48, .inl ((clS Q P M a fU fV).2.2.1))), (aV, .inl (cI, 48, .inl ((clS Q P M a fU fV).2.2.2)))] H → va_D (va_M [(aJ, .inr (0, [.int (nI fw), .int (nI sh), .int (nI wy), .int (nI bk), .ref aU, .ref aV])), (aM, .inr (1, [.int (nI Q), .int (nI P), .int (nI M), .int (nI Wd), .int (nI (tT Q P)), .int (nI (tN Q P))])), (aU, .inl (cI, 48, .inl fU)), (aV, .inl (cI, 48, .inl fV))]) [(aJ, .inr (0, [.int (nI (fwN Q P M a)), .int (nI x), .int (nI y), .int (nI (bkN Q P M a)), .ref aU, .ref aV])), (aM, .inr (1, [.int (nI Q), .int (nI P), .int (nI M), .int (nI Wd), .int (nI (tT Q P)), .int (nI (tN Q P))])), (aU, .inl (cI, 48, .inl ((clS Q P M a fU fV).2.2.1))), (aV, .inl (cI, 48, .inl ((clS Q P M a fU fV).2.2.2)))] → va_S (va_M [(aJ, .inr (0, [.int (nI fw), .int (nI sh), .int (nI wy), .int (nI bk), .ref aU, .ref aV])), (aM, .inr (1, [.int (nI Q), .int (nI P), .int (nI M), .int (nI Wd), .int (nI (tT Q P)), .int (nI (tN Q P))])), (aU, .inl (cI, 48, .inl fU)), (aV, .inl (cI, 48, .inl fV))]) s.heap H locs → ∀ ls : Array Slot, lv_has ls 5 [(0, .ref aJ), (1, .ref aM), (2, .int a), (3, .int (nI sv))] → W p l e (headSpec wsX0_join ({ frames := 5, cells := 0, slots := 0, locals := 109 } : Room)).room s m args below meth c H locs 0 0 (MQ below (QcM D [(aJ, .inr (0, [.int (nI fw), .int (nI sh), .int (nI wy), .int (nI bk), .ref aU, .ref aV])), (aM, .inr (1, [.int (nI Q), .int (nI P), .int (nI M), .int (nI Wd), .int (nI (tT Q P)), .int (nI (tN Q P))])), (aU, .inl (cI, 48, .inl fU)), (aV, .inl (cI, 48, .inl fV))] [(aJ, .inr (0, [.int (nI (fwN Q P M a)), .int (nI (if fwN Q P M a = bkN Q P M a then (joS Q P M a).1 else sh)), .int (nI (if fwN Q P M a = bkN Q P M a then (joS Q P M a).2 else wy)), .int (nI (bkN Q P M a)), .ref aU, .ref aV])), (aM, .inr (1, [.int (nI Q), .int (nI P), .int (nI M), .int (nI Wd), .int (nI (tT Q P)), .int (nI (tN Q P))])), (aU, .inl (cI, 48, .inl ((clS Q P M a fU fV).2.2.1))), (aV, .inl (cI, 48, .inl ((clS Q P M a fU fV).2.2.2)))] (some (.int (jnR Q P M a)))) args s 0 0 (va_M [(aJ, .inr (0, [.int (nI fw), .int (nI sh), .int (nI wy), .int (nI bk), .ref aU, .ref aV])), (aM, .inr (1, [.int (nI Q), .int (nI P), .int (nI M), .int (nI Wd), .int (nI (tT Q P)), .int (nI (tN Q P))])), (aU, .inl (cI, 48, .inl fU)), (aV, .inl (cI, 48, .inl fV))])) (F0 m 36 ls []) := by
      intro f
      induction f with
      | zero =>
        intro sv x y h1 h3 h2 H locs hP hD hS ls hl
        refine lv_iload_n hx hb dX0_join_36 rfl (lv_at hl 3 rfl) ?_
        refine lv_aload_n hx hb dX0_join_37 rfl (lv_at hl 0 rfl) ?_
        refine va_get (D := D) (ci := 0) (v := .int (nI (fwN Q P M a))) (C := RX0) (T := TX0) (N := 6) hx hb hts hi_X0_join_X0 hown hT.1 hP 0 rfl rfl 0 (by decide) (hts (.fieldLink RX0 22 "SlotStar$Joint" "forwards" "I") (List.mem_of_getElem? (i := 1) rfl)) (fun _ h9 => h9) rfl dX0_join_38 ?_
        refine lv_icmp_ge (tgt := 78) hx hb dX0_join_41 (by decide) (fun c_2 => ?_) (fun c_2 => ?_)
        · skip
          refine lv_iconst (v := 1) hx hb dX0_join_78 (by decide) ?_
          exact mu_retz hx hb hr hlocks dX0_join_79 (by rw [if_pos hj, if_pos hj, h2]; exact hP) hS (by unfold jnR; rw [if_pos hj]) (by exact jnR01 _ _ _ _)
        · exfalso; exact c_2 (nI_le (by omega) (by omega))
      | succ f ih_36 =>
        intro sv x y h1 h3 h2 H locs hP hD hS ls hl
        refine lv_iload_n hx hb dX0_join_36 rfl (lv_at hl 3 rfl) ?_
        refine lv_aload_n hx hb dX0_join_37 rfl (lv_at hl 0 rfl) ?_
        refine va_get (D := D) (ci := 0) (v := .int (nI (fwN Q P M a))) (C := RX0) (T := TX0) (N := 6) hx hb hts hi_X0_join_X0 hown hT.1 hP 0 rfl rfl 0 (by decide) (hts (.fieldLink RX0 22 "SlotStar$Joint" "forwards" "I") (List.mem_of_getElem? (i := 1) rfl)) (fun _ h9 => h9) rfl dX0_join_38 ?_
        refine lv_icmp_ge (tgt := 78) hx hb dX0_join_41 (by decide) (fun c_3 => ?_) (fun c_3 => ?_)
        · exfalso; exact nI_ge (show sv < fwN Q P M a by omega) (by omega) c_3
        · skip
          refine lv_aload_n hx hb dX0_join_44 rfl (lv_at hl 0 rfl) ?_
          refine lv_aload_n hx hb dX0_join_45 rfl (lv_at hl 1 rfl) ?_
          refine lv_iload_n hx hb dX0_join_46 rfl (lv_at hl 3 rfl) ?_
          refine ro_V (As := [.ref aM, .int (nI sv)]) (rest := []) ⟨hx, hb, hml, hown, hts⟩ hT hP (k_X0_waysOf l D cI cZ aJ aU aV (fwN Q P M a) x y (bkN Q P M a) ((clS Q P M a fU fV).2.2.1) ((clS Q P M a fU fV).2.2.2) aM Q P M Wd sv hv (by omega) (by omega) (slR_u (by omega) a fU fV) (by have h9 := slR_v (Q := Q) (P := P) (M := M) (by omega) a fU fV; rw [← hj] at h9; exact h9)) gX0_join_X0_waysOf rfl rfl nd_X0_waysOf [0, 1, 2, 3] rfl (ci := 0) rfl rfl (q0 := 0) rfl hl.1 rfl rfl (Nat.le_of_ble_eq_true rfl) ⟨Nat.le_of_ble_eq_true rfl, Nat.le_of_ble_eq_true rfl⟩ ⟨rfl, rfl⟩ ⟨Nat.zero_le _, Nat.zero_le _⟩ dX0_join_47 ?_
          refine top_eq (z := (nI (wyS Q P M a sv))) (by rw [wyS_of fU fV sv hj]) ?_
          refine lv_istore (lv' := [(4, .int (nI (wyS Q P M a sv))), (0, .ref aJ), (1, .ref aM), (2, .int a), (3, .int (nI sv))]) hx hb dX0_join_50 hl (by decide) rfl (fun ls hl => ?_)
          refine lv_iload hx hb dX0_join_52 (lv_at hl 0 rfl) ?_
          refine lv_aload_n hx hb dX0_join_54 rfl (lv_at hl 1 rfl) ?_
          refine va_get (D := D) (ci := 0) (v := .int (nI y)) (C := RX0) (T := TX0) (N := 6) hx hb hts hi_X0_join_X0 hown hT.1 hP 0 rfl rfl 2 (by decide) (hts (.fieldLink RX0 36 "SlotStar$Joint" "ways" "I") (List.mem_of_getElem? (i := 4) rfl)) (fun _ h9 => h9) rfl dX0_join_55 ?_
          refine lv_icmp_ge (tgt := 72) hx hb dX0_join_58 (by decide) (fun c_4 => ?_) (fun c_4 => ?_)
          · skip
            refine lv_iinc (v := nI (sv + 1)) (lv' := [(3, .int (nI (sv + 1))), (4, .int (nI (wyS Q P M a sv))), (0, .ref aJ), (1, .ref aM), (2, .int a)]) hx hb dX0_join_72 hl (k := 4) rfl ((nI_succ sv).symm) (by decide) rfl (fun ls hl => ?_)
            refine lv_goto (tgt := 36) hx hb dX0_join_75 (by decide) ?_
            exact ih_36 (sv + 1) x y (by omega) (by omega) (by rw [h2]; simp [joL, c_1, c_3, c_4]) _ _ hP hD hS ls (lv_sub hl [2, 3, 4, 0] rfl)
          · skip
            refine lv_aload_n hx hb dX0_join_61 rfl (lv_at hl 1 rfl) ?_
            refine lv_iload_n hx hb dX0_join_62 rfl (lv_at hl 4 rfl) ?_
            refine va_put (D := D) (ci := 0) (v := .int (nI sv)) (ty := .int) (C := RX0) (T := TX0) (N := 6) hx hb hts hi_X0_join_X0 tyX0 tyX0_ok nmX0 hown hT.1 hP hD hS 0 rfl rfl 1 (by decide) (hts (.fieldLink RX0 29 "SlotStar$Joint" "shift" "I") (List.mem_of_getElem? (i := 3) rfl)) (fun _ h9 => h9) rfl (by decide +kernel) rfl rfl (Nat.le_of_ble_eq_true rfl) dX0_join_63 (fun H locs hP hD hS => ?_)
            have hP : va_P D cls5 [(aJ, .inr (0, [.int (nI (fwN Q P M a)), .int (nI sv), .int (nI y), .int (nI (bkN Q P M a)), .ref aU, .ref aV])), (aM, .inr (1, [.int (nI Q), .int (nI P), .int (nI M), .int (nI Wd), .int (nI (tT Q P)), .int (nI (tN Q P))])), (aU, .inl (cI, 48, .inl ((clS Q P M a fU fV).2.2.1))), (aV, .inl (cI, 48, .inl ((clS Q P M a fU fV).2.2.2)))] H := hP
            have hD : va_D (va_M [(aJ, .inr (0, [.int (nI fw), .int (nI sh), .int (nI wy), .int (nI bk), .ref aU, .ref aV])), (aM, .inr (1, [.int (nI Q), .int (nI P), .int (nI M), .int (nI Wd), .int (nI (tT Q P)), .int (nI (tN Q P))])), (aU, .inl (cI, 48, .inl fU)), (aV, .inl (cI, 48, .inl fV))]) [(aJ, .inr (0, [.int (nI (fwN Q P M a)), .int (nI sv), .int (nI y), .int (nI (bkN Q P M a)), .ref aU, .ref aV])), (aM, .inr (1, [.int (nI Q), .int (nI P), .int (nI M), .int (nI Wd), .int (nI (tT Q P)), .int (nI (tN Q P))])), (aU, .inl (cI, 48, .inl ((clS Q P M a fU fV).2.2.1))), (aV, .inl (cI, 48, .inl ((clS Q P M a fU fV).2.2.2)))] := hD
            refine lv_aload_n hx hb dX0_join_66 rfl (lv_at hl 1 rfl) ?_
            refine lv_iload hx hb dX0_join_67 (lv_at hl 0 rfl) ?_
            refine va_put (D := D) (ci := 0) (v := .int (nI (wyS Q P M a sv))) (ty := .int) (C := RX0) (T := TX0) (N := 6) hx hb hts hi_X0_join_X0 tyX0 tyX0_ok nmX0 hown hT.1 hP hD hS 0 rfl rfl 2 (by decide) (hts (.fieldLink RX0 36 "SlotStar$Joint" "ways" "I") (List.mem_of_getElem? (i := 4) rfl)) (fun _ h9 => h9) rfl (by decide +kernel) rfl rfl (Nat.le_of_ble_eq_true rfl) dX0_join_69 (fun H locs hP hD hS => ?_)
            have hP : va_P D cls5 [(aJ, .inr (0, [.int (nI (fwN Q P M a)), .int (nI sv), .int (nI (wyS Q P M a sv)), .int (nI (bkN Q P M a)), .ref aU, .ref aV])), (aM, .inr (1, [.int (nI Q), .int (nI P), .int (nI M), .int (nI Wd), .int (nI (tT Q P)), .int (nI (tN Q P))])), (aU, .inl (cI, 48, .inl ((clS Q P M a fU fV).2.2.1))), (aV, .inl (cI, 48, .inl ((clS Q P M a fU fV).2.2.2)))] H := hP
            have hD : va_D (va_M [(aJ, .inr (0, [.int (nI fw), .int (nI sh), .int (nI wy), .int (nI bk), .ref aU, .ref aV])), (aM, .inr (1, [.int (nI Q), .int (nI P), .int (nI M), .int (nI Wd), .int (nI (tT Q P)), .int (nI (tN Q P))])), (aU, .inl (cI, 48, .inl fU)), (aV, .inl (cI, 48, .inl fV))]) [(aJ, .inr (0, [.int (nI (fwN Q P M a)), .int (nI sv), .int (nI (wyS Q P M a sv)), .int (nI (bkN Q P M a)), .ref aU, .ref aV])), (aM, .inr (1, [.int (nI Q), .int (nI P), .int (nI M), .int (nI Wd), .int (nI (tT Q P)), .int (nI (tN Q P))])), (aU, .inl (cI, 48, .inl ((clS Q P M a fU fV).2.2.1))), (aV, .inl (cI, 48, .inl ((clS Q P M a fU fV).2.2.2)))] := hD
            refine lv_iinc (v := nI (sv + 1)) (lv' := [(3, .int (nI (sv + 1))), (4, .int (nI (wyS Q P M a sv))), (0, .ref aJ), (1, .ref aM), (2, .int a)]) hx hb dX0_join_72 hl (k := 4) rfl ((nI_succ sv).symm) (by decide) rfl (fun ls hl => ?_)
            refine lv_goto (tgt := 36) hx hb dX0_join_75 (by decide) ?_
            exact ih_36 (sv + 1) sv (wyS Q P M a sv) (by omega) (by omega) (by rw [h2]; simp [joL, c_1, c_3, c_4]) _ _ hP hD hS ls (lv_sub hl [2, 3, 4, 0] rfl)
    exact L_36 (fwN Q P M a - 1) 1 0 (wyS Q P M a 0) (by omega) (by omega) rfl _ _ hP hD hS ls (lv_sub hl [1, 2, 3, 0] rfl)
  · skip
    have hj : ¬ fwN Q P M a = bkN Q P M a := fun q => c_1 (by rw [q])
    refine lv_iconst (v := 0) hx hb dX0_join_17 (by decide) ?_
    exact mu_retz hx hb hr hlocks dX0_join_18 (by rw [if_neg hj, if_neg hj]; exact hP) hS (by unfold jnR; rw [if_neg hj]) (by exact jnR01 _ _ _ _)
end
section
/-! ===== the rows of F(n), n to 48, by reckoning: lists whose places are known numbers ===== -/
def frN {α : Type} (n : Nat) (k : Nat → α) : α := match n with
  | 0 => k 0
  | m + 1 => k (m + 1)
theorem frN_eq {α : Type} (n : Nat) (k : Nat → α) : frN n k = k n := by cases n <;> rfl
def fr {α : Type} (x : Int32) (k : Int32 → α) : α := frN x.toBitVec.toNat (fun n => k (nI n))
theorem fr_eq {α : Type} (x : Int32) (k : Int32 → α) : fr x k = k x := by
  unfold fr
  rw [frN_eq]
  congr 1
  unfold nI
  apply Int32.toBitVec_inj.mp
  simp
def frL {α : Type} : List Int32 → (List Int32 → α) → α
  | [], k => k []
  | h :: t, k => fr h (fun h => frL t (fun t => k (h :: t)))
theorem frL_eq {α : Type} : ∀ (l : List Int32) (k : List Int32 → α), frL l k = k l
  | [], _ => rfl
  | h :: t, k => by
    unfold frL
    rw [fr_eq, frL_eq t]
def rL (l : List Int32) : Nat → Int32 := fun i => l.getD i 0
theorem rL_upd {l : List Int32} {i : Nat} {x : Int32} (h : i < l.length) : upd (rL l) i x = rL (l.set i x) := by
  funext j
  unfold upd rL
  by_cases e : j = i
  · subst e
    simp [List.getD_eq_getElem?_getD, List.getElem?_set_self h]
  · simp [e, List.getD_eq_getElem?_getD, List.getElem?_set_ne (Ne.symm e)]
def mulA (d : Nat) : Nat → Nat → List Int32 → List Int32
  | 0, _, l => l
  | f + 1, i, l => frL (l.set i (l.getD i 0 - l.getD (i - d) 0)) (fun l => mulA d f (i - 1) l)
theorem mulA_eq (d : Nat) : ∀ (f i : Nat) (l : List Int32), l.length = 49 → i < 49 → mulL d f i (rL l) = rL (mulA d f i l) ∧ (mulA d f i l).length = 49
  | 0, _, l, h, _ => ⟨rfl, h⟩
  | f + 1, i, l, h, hi => by
    unfold mulL mulA
    rw [frL_eq, rL_upd (by omega)]
    exact mulA_eq d f (i - 1) _ (by rw [List.length_set]; exact h) (by omega)
def divA (d : Nat) : Nat → Nat → List Int32 → List Int32
  | 0, _, l => l
  | f + 1, i, l => frL (l.set i (l.getD i 0 + l.getD (i - d) 0)) (fun l => divA d f (i + 1) l)
theorem divA_eq (d : Nat) : ∀ (f i : Nat) (l : List Int32), l.length = 49 → i + f ≤ 49 → divL d f i (rL l) = rL (divA d f i l) ∧ (divA d f i l).length = 49
  | 0, _, l, h, _ => ⟨rfl, h⟩
  | f + 1, i, l, h, hi => by
    unfold divL divA
    rw [frL_eq, rL_upd (by omega)]
    exact divA_eq d f (i + 1) _ (by rw [List.length_set]; exact h) (by omega)
def bcA (n : Nat) : Nat → Nat → List Int32 → List Int32
  | 0, _, l => l
  | f + 1, d, l => if n % d = 0 then (if mob (n / d) ≤ 0 then (if 0 ≤ mob (n / d) then bcA n f (d + 1) l else bcA n f (d + 1) (divA d (n + 1 - d) d l)) else bcA n f (d + 1) (mulA d (n + 1 - d) n l)) else bcA n f (d + 1) l
theorem bcA_eq {n : Nat} (hn : n ≤ 48) : ∀ (f d : Nat) (l : List Int32), l.length = 49 → d + f ≤ n + 1 → bcL n f d (rL l) = rL (bcA n f d l)
  | 0, _, l, _, _ => rfl
  | f + 1, d, l, h, hd => by
    unfold bcL bcA bcS
    by_cases h0 : n % d = 0
    · rw [if_pos h0, if_pos h0]
      by_cases h1 : mob (n / d) ≤ 0
      · rw [if_pos h1, if_pos h1]
        by_cases h2 : 0 ≤ mob (n / d)
        · rw [if_pos h2, if_pos h2]
          exact bcA_eq hn f (d + 1) l h (by omega)
        · have hh := divA_eq d (n + 1 - d) d l h (by omega)
          rw [if_neg h2, if_neg h2, hh.1]
          exact bcA_eq hn f (d + 1) _ hh.2 (by omega)
      · have hh := mulA_eq d (n + 1 - d) n l h (by omega)
        rw [if_neg h1, if_neg h1, hh.1]
        exact bcA_eq hn f (d + 1) _ hh.2 (by omega)
    · rw [if_neg h0, if_neg h0]
      exact bcA_eq hn f (d + 1) l h (by omega)
def z49 : List Int32 := [0, 0, 0, 0, 0, 0, 0, 0, 0, 0, 0, 0, 0, 0, 0, 0, 0, 0, 0, 0, 0, 0, 0, 0, 0, 0, 0, 0, 0, 0, 0, 0, 0, 0, 0, 0, 0, 0, 0, 0, 0, 0, 0, 0, 0, 0, 0, 0, 0]
theorem z49_r : (fun _ => 0 : Nat → Int32) = rL z49 := by
  funext i
  by_cases h : i < 49
  · have key : ∀ j : Nat, j < 49 → (0 : Int32) = rL z49 j := by decide +kernel
    exact key i h
  · unfold rL
    rw [List.getD_eq_getElem?_getD, List.getElem?_eq_none (by show z49.length ≤ i; exact Nat.not_lt.mp h)]
    rfl
def cyA (n : Nat) : List Int32 := bcA n n 1 (z49.set 0 (if n = 1 then (-1) else 1))
theorem cyA_eq {n : Nat} (hn : n ≤ 48) : cyR n = rL (cyA n) := by
  unfold cyR cyA
  rw [z49_r, rL_upd (by decide)]
  exact bcA_eq hn n 1 _ (by rw [List.length_set]; rfl) (by omega)
def PHt : List (List Int32) := [[],
  [(-1), 1, 0, 0, 0, 0, 0, 0, 0, 0, 0, 0, 0, 0, 0, 0, 0, 0, 0, 0, 0, 0, 0, 0, 0, 0, 0, 0, 0, 0, 0, 0, 0, 0, 0, 0, 0, 0, 0, 0, 0, 0, 0, 0, 0, 0, 0, 0, 0],
  [1, 1, 0, 0, 0, 0, 0, 0, 0, 0, 0, 0, 0, 0, 0, 0, 0, 0, 0, 0, 0, 0, 0, 0, 0, 0, 0, 0, 0, 0, 0, 0, 0, 0, 0, 0, 0, 0, 0, 0, 0, 0, 0, 0, 0, 0, 0, 0, 0],
  [1, 1, 1, 0, 0, 0, 0, 0, 0, 0, 0, 0, 0, 0, 0, 0, 0, 0, 0, 0, 0, 0, 0, 0, 0, 0, 0, 0, 0, 0, 0, 0, 0, 0, 0, 0, 0, 0, 0, 0, 0, 0, 0, 0, 0, 0, 0, 0, 0],
  [1, 0, 1, 0, 0, 0, 0, 0, 0, 0, 0, 0, 0, 0, 0, 0, 0, 0, 0, 0, 0, 0, 0, 0, 0, 0, 0, 0, 0, 0, 0, 0, 0, 0, 0, 0, 0, 0, 0, 0, 0, 0, 0, 0, 0, 0, 0, 0, 0],
  [1, 1, 1, 1, 1, 0, 0, 0, 0, 0, 0, 0, 0, 0, 0, 0, 0, 0, 0, 0, 0, 0, 0, 0, 0, 0, 0, 0, 0, 0, 0, 0, 0, 0, 0, 0, 0, 0, 0, 0, 0, 0, 0, 0, 0, 0, 0, 0, 0],
  [1, (-1), 1, 0, 0, 0, 0, 0, 0, 0, 0, 0, 0, 0, 0, 0, 0, 0, 0, 0, 0, 0, 0, 0, 0, 0, 0, 0, 0, 0, 0, 0, 0, 0, 0, 0, 0, 0, 0, 0, 0, 0, 0, 0, 0, 0, 0, 0, 0],
  [1, 1, 1, 1, 1, 1, 1, 0, 0, 0, 0, 0, 0, 0, 0, 0, 0, 0, 0, 0, 0, 0, 0, 0, 0, 0, 0, 0, 0, 0, 0, 0, 0, 0, 0, 0, 0, 0, 0, 0, 0, 0, 0, 0, 0, 0, 0, 0, 0],
  [1, 0, 0, 0, 1, 0, 0, 0, 0, 0, 0, 0, 0, 0, 0, 0, 0, 0, 0, 0, 0, 0, 0, 0, 0, 0, 0, 0, 0, 0, 0, 0, 0, 0, 0, 0, 0, 0, 0, 0, 0, 0, 0, 0, 0, 0, 0, 0, 0],
  [1, 0, 0, 1, 0, 0, 1, 0, 0, 0, 0, 0, 0, 0, 0, 0, 0, 0, 0, 0, 0, 0, 0, 0, 0, 0, 0, 0, 0, 0, 0, 0, 0, 0, 0, 0, 0, 0, 0, 0, 0, 0, 0, 0, 0, 0, 0, 0, 0],
  [1, (-1), 1, (-1), 1, 0, 0, 0, 0, 0, 0, 0, 0, 0, 0, 0, 0, 0, 0, 0, 0, 0, 0, 0, 0, 0, 0, 0, 0, 0, 0, 0, 0, 0, 0, 0, 0, 0, 0, 0, 0, 0, 0, 0, 0, 0, 0, 0, 0],
  [1, 1, 1, 1, 1, 1, 1, 1, 1, 1, 1, 0, 0, 0, 0, 0, 0, 0, 0, 0, 0, 0, 0, 0, 0, 0, 0, 0, 0, 0, 0, 0, 0, 0, 0, 0, 0, 0, 0, 0, 0, 0, 0, 0, 0, 0, 0, 0, 0],
  [1, 0, (-1), 0, 1, 0, 0, 0, 0, 0, 0, 0, 0, 0, 0, 0, 0, 0, 0, 0, 0, 0, 0, 0, 0, 0, 0, 0, 0, 0, 0, 0, 0, 0, 0, 0, 0, 0, 0, 0, 0, 0, 0, 0, 0, 0, 0, 0, 0],
  [1, 1, 1, 1, 1, 1, 1, 1, 1, 1, 1, 1, 1, 0, 0, 0, 0, 0, 0, 0, 0, 0, 0, 0, 0, 0, 0, 0, 0, 0, 0, 0, 0, 0, 0, 0, 0, 0, 0, 0, 0, 0, 0, 0, 0, 0, 0, 0, 0],
  [1, (-1), 1, (-1), 1, (-1), 1, 0, 0, 0, 0, 0, 0, 0, 0, 0, 0, 0, 0, 0, 0, 0, 0, 0, 0, 0, 0, 0, 0, 0, 0, 0, 0, 0, 0, 0, 0, 0, 0, 0, 0, 0, 0, 0, 0, 0, 0, 0, 0],
  [1, (-1), 0, 1, (-1), 1, 0, (-1), 1, 0, 0, 0, 0, 0, 0, 0, 0, 0, 0, 0, 0, 0, 0, 0, 0, 0, 0, 0, 0, 0, 0, 0, 0, 0, 0, 0, 0, 0, 0, 0, 0, 0, 0, 0, 0, 0, 0, 0, 0],
  [1, 0, 0, 0, 0, 0, 0, 0, 1, 0, 0, 0, 0, 0, 0, 0, 0, 0, 0, 0, 0, 0, 0, 0, 0, 0, 0, 0, 0, 0, 0, 0, 0, 0, 0, 0, 0, 0, 0, 0, 0, 0, 0, 0, 0, 0, 0, 0, 0],
  [1, 1, 1, 1, 1, 1, 1, 1, 1, 1, 1, 1, 1, 1, 1, 1, 1, 0, 0, 0, 0, 0, 0, 0, 0, 0, 0, 0, 0, 0, 0, 0, 0, 0, 0, 0, 0, 0, 0, 0, 0, 0, 0, 0, 0, 0, 0, 0, 0],
  [1, 0, 0, (-1), 0, 0, 1, 0, 0, 0, 0, 0, 0, 0, 0, 0, 0, 0, 0, 0, 0, 0, 0, 0, 0, 0, 0, 0, 0, 0, 0, 0, 0, 0, 0, 0, 0, 0, 0, 0, 0, 0, 0, 0, 0, 0, 0, 0, 0],
  [1, 1, 1, 1, 1, 1, 1, 1, 1, 1, 1, 1, 1, 1, 1, 1, 1, 1, 1, 0, 0, 0, 0, 0, 0, 0, 0, 0, 0, 0, 0, 0, 0, 0, 0, 0, 0, 0, 0, 0, 0, 0, 0, 0, 0, 0, 0, 0, 0],
  [1, 0, (-1), 0, 1, 0, (-1), 0, 1, 0, 0, 0, 0, 0, 0, 0, 0, 0, 0, 0, 0, 0, 0, 0, 0, 0, 0, 0, 0, 0, 0, 0, 0, 0, 0, 0, 0, 0, 0, 0, 0, 0, 0, 0, 0, 0, 0, 0, 0],
  [1, (-1), 0, 1, (-1), 0, 1, 0, (-1), 1, 0, (-1), 1, 0, 0, 0, 0, 0, 0, 0, 0, 0, 0, 0, 0, 0, 0, 0, 0, 0, 0, 0, 0, 0, 0, 0, 0, 0, 0, 0, 0, 0, 0, 0, 0, 0, 0, 0, 0],
  [1, (-1), 1, (-1), 1, (-1), 1, (-1), 1, (-1), 1, 0, 0, 0, 0, 0, 0, 0, 0, 0, 0, 0, 0, 0, 0, 0, 0, 0, 0, 0, 0, 0, 0, 0, 0, 0, 0, 0, 0, 0, 0, 0, 0, 0, 0, 0, 0, 0, 0],
  [1, 1, 1, 1, 1, 1, 1, 1, 1, 1, 1, 1, 1, 1, 1, 1, 1, 1, 1, 1, 1, 1, 1, 0, 0, 0, 0, 0, 0, 0, 0, 0, 0, 0, 0, 0, 0, 0, 0, 0, 0, 0, 0, 0, 0, 0, 0, 0, 0],
  [1, 0, 0, 0, (-1), 0, 0, 0, 1, 0, 0, 0, 0, 0, 0, 0, 0, 0, 0, 0, 0, 0, 0, 0, 0, 0, 0, 0, 0, 0, 0, 0, 0, 0, 0, 0, 0, 0, 0, 0, 0, 0, 0, 0, 0, 0, 0, 0, 0],
  [1, 0, 0, 0, 0, 1, 0, 0, 0, 0, 1, 0, 0, 0, 0, 1, 0, 0, 0, 0, 1, 0, 0, 0, 0, 0, 0, 0, 0, 0, 0, 0, 0, 0, 0, 0, 0, 0, 0, 0, 0, 0, 0, 0, 0, 0, 0, 0, 0],
  [1, (-1), 1, (-1), 1, (-1), 1, (-1), 1, (-1), 1, (-1), 1, 0, 0, 0, 0, 0, 0, 0, 0, 0, 0, 0, 0, 0, 0, 0, 0, 0, 0, 0, 0, 0, 0, 0, 0, 0, 0, 0, 0, 0, 0, 0, 0, 0, 0, 0, 0],
  [1, 0, 0, 0, 0, 0, 0, 0, 0, 1, 0, 0, 0, 0, 0, 0, 0, 0, 1, 0, 0, 0, 0, 0, 0, 0, 0, 0, 0, 0, 0, 0, 0, 0, 0, 0, 0, 0, 0, 0, 0, 0, 0, 0, 0, 0, 0, 0, 0],
  [1, 0, (-1), 0, 1, 0, (-1), 0, 1, 0, (-1), 0, 1, 0, 0, 0, 0, 0, 0, 0, 0, 0, 0, 0, 0, 0, 0, 0, 0, 0, 0, 0, 0, 0, 0, 0, 0, 0, 0, 0, 0, 0, 0, 0, 0, 0, 0, 0, 0],
  [1, 1, 1, 1, 1, 1, 1, 1, 1, 1, 1, 1, 1, 1, 1, 1, 1, 1, 1, 1, 1, 1, 1, 1, 1, 1, 1, 1, 1, 0, 0, 0, 0, 0, 0, 0, 0, 0, 0, 0, 0, 0, 0, 0, 0, 0, 0, 0, 0],
  [1, 1, 0, (-1), (-1), (-1), 0, 1, 1, 0, 0, 0, 0, 0, 0, 0, 0, 0, 0, 0, 0, 0, 0, 0, 0, 0, 0, 0, 0, 0, 0, 0, 0, 0, 0, 0, 0, 0, 0, 0, 0, 0, 0, 0, 0, 0, 0, 0, 0],
  [1, 1, 1, 1, 1, 1, 1, 1, 1, 1, 1, 1, 1, 1, 1, 1, 1, 1, 1, 1, 1, 1, 1, 1, 1, 1, 1, 1, 1, 1, 1, 0, 0, 0, 0, 0, 0, 0, 0, 0, 0, 0, 0, 0, 0, 0, 0, 0, 0],
  [1, 0, 0, 0, 0, 0, 0, 0, 0, 0, 0, 0, 0, 0, 0, 0, 1, 0, 0, 0, 0, 0, 0, 0, 0, 0, 0, 0, 0, 0, 0, 0, 0, 0, 0, 0, 0, 0, 0, 0, 0, 0, 0, 0, 0, 0, 0, 0, 0],
  [1, (-1), 0, 1, (-1), 0, 1, (-1), 0, 1, (-1), 1, 0, (-1), 1, 0, (-1), 1, 0, (-1), 1, 0, 0, 0, 0, 0, 0, 0, 0, 0, 0, 0, 0, 0, 0, 0, 0, 0, 0, 0, 0, 0, 0, 0, 0, 0, 0, 0, 0],
  [1, (-1), 1, (-1), 1, (-1), 1, (-1), 1, (-1), 1, (-1), 1, (-1), 1, (-1), 1, 0, 0, 0, 0, 0, 0, 0, 0, 0, 0, 0, 0, 0, 0, 0, 0, 0, 0, 0, 0, 0, 0, 0, 0, 0, 0, 0, 0, 0, 0, 0, 0],
  [1, (-1), 0, 0, 0, 1, (-1), 1, (-1), 0, 1, (-1), 1, (-1), 1, 0, (-1), 1, (-1), 1, 0, 0, 0, (-1), 1, 0, 0, 0, 0, 0, 0, 0, 0, 0, 0, 0, 0, 0, 0, 0, 0, 0, 0, 0, 0, 0, 0, 0, 0],
  [1, 0, 0, 0, 0, 0, (-1), 0, 0, 0, 0, 0, 1, 0, 0, 0, 0, 0, 0, 0, 0, 0, 0, 0, 0, 0, 0, 0, 0, 0, 0, 0, 0, 0, 0, 0, 0, 0, 0, 0, 0, 0, 0, 0, 0, 0, 0, 0, 0],
  [1, 1, 1, 1, 1, 1, 1, 1, 1, 1, 1, 1, 1, 1, 1, 1, 1, 1, 1, 1, 1, 1, 1, 1, 1, 1, 1, 1, 1, 1, 1, 1, 1, 1, 1, 1, 1, 0, 0, 0, 0, 0, 0, 0, 0, 0, 0, 0, 0],
  [1, (-1), 1, (-1), 1, (-1), 1, (-1), 1, (-1), 1, (-1), 1, (-1), 1, (-1), 1, (-1), 1, 0, 0, 0, 0, 0, 0, 0, 0, 0, 0, 0, 0, 0, 0, 0, 0, 0, 0, 0, 0, 0, 0, 0, 0, 0, 0, 0, 0, 0, 0],
  [1, (-1), 0, 1, (-1), 0, 1, (-1), 0, 1, (-1), 0, 1, 0, (-1), 1, 0, (-1), 1, 0, (-1), 1, 0, (-1), 1, 0, 0, 0, 0, 0, 0, 0, 0, 0, 0, 0, 0, 0, 0, 0, 0, 0, 0, 0, 0, 0, 0, 0, 0],
  [1, 0, 0, 0, (-1), 0, 0, 0, 1, 0, 0, 0, (-1), 0, 0, 0, 1, 0, 0, 0, 0, 0, 0, 0, 0, 0, 0, 0, 0, 0, 0, 0, 0, 0, 0, 0, 0, 0, 0, 0, 0, 0, 0, 0, 0, 0, 0, 0, 0],
  [1, 1, 1, 1, 1, 1, 1, 1, 1, 1, 1, 1, 1, 1, 1, 1, 1, 1, 1, 1, 1, 1, 1, 1, 1, 1, 1, 1, 1, 1, 1, 1, 1, 1, 1, 1, 1, 1, 1, 1, 1, 0, 0, 0, 0, 0, 0, 0, 0],
  [1, 1, 0, (-1), (-1), 0, 1, 0, (-1), (-1), 0, 1, 1, 0, 0, 0, 0, 0, 0, 0, 0, 0, 0, 0, 0, 0, 0, 0, 0, 0, 0, 0, 0, 0, 0, 0, 0, 0, 0, 0, 0, 0, 0, 0, 0, 0, 0, 0, 0],
  [1, 1, 1, 1, 1, 1, 1, 1, 1, 1, 1, 1, 1, 1, 1, 1, 1, 1, 1, 1, 1, 1, 1, 1, 1, 1, 1, 1, 1, 1, 1, 1, 1, 1, 1, 1, 1, 1, 1, 1, 1, 1, 1, 0, 0, 0, 0, 0, 0],
  [1, 0, (-1), 0, 1, 0, (-1), 0, 1, 0, (-1), 0, 1, 0, (-1), 0, 1, 0, (-1), 0, 1, 0, 0, 0, 0, 0, 0, 0, 0, 0, 0, 0, 0, 0, 0, 0, 0, 0, 0, 0, 0, 0, 0, 0, 0, 0, 0, 0, 0],
  [1, 0, 0, (-1), 0, 0, 0, 0, 0, 1, 0, 0, (-1), 0, 0, 1, 0, 0, 0, 0, 0, (-1), 0, 0, 1, 0, 0, 0, 0, 0, 0, 0, 0, 0, 0, 0, 0, 0, 0, 0, 0, 0, 0, 0, 0, 0, 0, 0, 0],
  [1, (-1), 1, (-1), 1, (-1), 1, (-1), 1, (-1), 1, (-1), 1, (-1), 1, (-1), 1, (-1), 1, (-1), 1, (-1), 1, 0, 0, 0, 0, 0, 0, 0, 0, 0, 0, 0, 0, 0, 0, 0, 0, 0, 0, 0, 0, 0, 0, 0, 0, 0, 0],
  [1, 1, 1, 1, 1, 1, 1, 1, 1, 1, 1, 1, 1, 1, 1, 1, 1, 1, 1, 1, 1, 1, 1, 1, 1, 1, 1, 1, 1, 1, 1, 1, 1, 1, 1, 1, 1, 1, 1, 1, 1, 1, 1, 1, 1, 1, 1, 0, 0],
  [1, 0, 0, 0, 0, 0, 0, 0, (-1), 0, 0, 0, 0, 0, 0, 0, 1, 0, 0, 0, 0, 0, 0, 0, 0, 0, 0, 0, 0, 0, 0, 0, 0, 0, 0, 0, 0, 0, 0, 0, 0, 0, 0, 0, 0, 0, 0, 0, 0]]
def PH (n : Nat) : List Int32 := PHt.getD n []
set_option maxRecDepth 100000 in
theorem cyA_tab : ∀ n : Nat, n < 49 → 1 ≤ n → cyA n = PH n := by decide +kernel
theorem cyR_tab {n : Nat} (h1 : 1 ≤ n) (h2 : n ≤ 48) : cyR n = rL (PH n) := by rw [cyA_eq h2, cyA_tab n (by omega) h1]
def dgA (n : Nat) : Nat := hpL (rL (PH n)) n
theorem dgN_tab {n : Nat} (h1 : 1 ≤ n) (h2 : n ≤ 48) : dgN n = dgA n := by
  unfold dgN dgA
  rw [cyR_tab h1 h2]
set_option maxRecDepth 100000 in
theorem dgA_all : ∀ n : Nat, n < 49 → 1 ≤ n → 1 ≤ dgA n ∧ rL (PH n) (dgA n) = 1 ∧ (2 ≤ n → dgA n < n) := by decide +kernel
end
section
/-! ===== the reference's divisions, by reckoning ===== -/
theorem rdI_at (g : Nat → Int32) (b : Nat) (c : Int32) : ∀ (f j : Nat) (w : Nat → Int32) (x : Nat), (b + j ≤ x ∧ x < b + j + f → rdI g b c f j w x = w x - c * g (x - b)) ∧ (¬ (b + j ≤ x ∧ x < b + j + f) → rdI g b c f j w x = w x)
  | 0, j, w, x => ⟨fun h => absurd h (by omega), fun _ => rfl⟩
  | f + 1, j, w, x => by
    have hh := rdI_at g b c f (j + 1) (upd w (b + j) (w (b + j) - c * g j)) x
    unfold rdI
    refine ⟨fun hj => ?_, fun hj => ?_⟩
    · by_cases e : x = b + j
      · subst e
        rw [hh.2 (by omega), pk_us, show b + j - b = j by omega]
      · rw [hh.1 (by omega), pk_un e]
    · rw [hh.2 (by omega)]
      exact pk_un (by omega)
theorem rdI_c0 (g : Nat → Int32) (b f : Nat) (w : Nat → Int32) : rdI g b 0 f 0 w = w := by
  funext x
  have hh := rdI_at g b 0 f 0 w x
  by_cases hx : b + 0 ≤ x ∧ x < b + 0 + f
  · rw [hh.1 hx]
    simp
  · exact hh.2 hx
def dvO (g : Nat → Int32) (bb : Nat) : Nat → Nat → (Nat → Int32) → Nat → Int32
  | 0, _, w => w
  | f + 1, i, w => dvO g bb f (i - 1) (rdI g (i - bb) (w i) bb 0 w)
def shL (hb bb : Nat) : Nat → Nat → (Nat → Int32) → Nat → Int32
  | 0, _, w => w
  | f + 1, i, w => shL hb bb f (i + 1) (upd w i (if i ≤ hb then w (i + bb) else 0))
def dvW (g : Nat → Int32) (bb h : Nat) (w : Nat → Int32) : Nat → Int32 := shL (h - bb) bb 49 0 (dvO g bb (h + 1 - bb) h w)
def xn (n : Nat) : Nat → Int32 := fun i => if i = n then 1 else if i = 0 then (-1) else 0
def ldR (n : Nat) : Nat → Nat → Nat → (Nat → Int32) → Nat × (Nat → Int32)
  | 0, _, h, w => (h, w)
  | f + 1, d, h, w => if n % d = 0 then ldR n f (d + 1) (h - dgN d) (dvW (cyR d) (dgN d) h w) else ldR n f (d + 1) h w
def ldF (n : Nat) : Nat → Int32 := (ldR n (n - 1) 1 n (xn n)).2
/-- the division of x to the n less 1 by all that it asks for goes through, and leaves the class's own row -/
def ldOk (n : Nat) : Nat → Nat → Nat → (Nat → Int32) → Prop
  | 0, _, h, w => h = dgN n ∧ ∀ i, i < 49 → (if i ≤ h then w i else 0) = cyR n i
  | f + 1, d, h, w => if n % d = 0 then (dgN d ≤ h ∧ ldOk n f (d + 1) (h - dgN d) (dvW (cyR d) (dgN d) h w)) else ldOk n f (d + 1) h w
theorem rL_hi {l : List Int32} {x : Nat} (h : l.length ≤ x) : rL l x = 0 := by
  unfold rL
  rw [List.getD_eq_getElem?_getD, List.getElem?_eq_none h]
  rfl
theorem rL_nil (x : Nat) : rL [] x = 0 := rfl
theorem rL_0 (h : Int32) (t : List Int32) : rL (h :: t) 0 = h := rfl
theorem rL_s (h : Int32) (t : List Int32) (x : Nat) : rL (h :: t) (x + 1) = rL t x := rfl
def subA (c : Int32) : Nat → List Int32 → List Int32 → List Int32
  | _, _, [] => []
  | b + 1, gs, h :: t => h :: subA c b gs t
  | 0, [], h :: t => h :: t
  | 0, g :: gs, h :: t => (h - c * g) :: subA c 0 gs t
theorem subA_len (c : Int32) : ∀ (l gs : List Int32) (b : Nat), (subA c b gs l).length = l.length
  | [], _, _ => by simp [subA]
  | h :: t, gs, b + 1 => by simp [subA, subA_len c t gs b]
  | h :: t, [], 0 => by simp [subA]
  | h :: t, g :: gs, 0 => by simp [subA, subA_len c t gs 0]
theorem subA_at (c : Int32) : ∀ (l gs : List Int32) (b x : Nat), x < l.length → rL (subA c b gs l) x = if b ≤ x ∧ x < b + gs.length then rL l x - c * rL gs (x - b) else rL l x
  | [], _, _, x, hx => absurd hx (by simp)
  | h :: t, gs, b + 1, 0, _ => by
    rw [if_neg (by omega)]
    simp only [subA]
    rfl
  | h :: t, gs, b + 1, x + 1, hx => by
    simp only [subA]
    rw [rL_s, rL_s, subA_at c t gs b x (by simpa using hx)]
    by_cases q : b ≤ x ∧ x < b + gs.length
    · rw [if_pos q, if_pos (by omega), show x + 1 - (b + 1) = x - b by omega]
    · rw [if_neg q, if_neg (by omega)]
  | h :: t, [], 0, x, _ => by
    rw [if_neg (by simp)]
    simp only [subA]
  | h :: t, g :: gs, 0, 0, _ => by
    rw [if_pos (by simp)]
    simp only [subA]
    rfl
  | h :: t, g :: gs, 0, x + 1, hx => by
    simp only [subA]
    rw [rL_s, rL_s, subA_at c t gs 0 x (by simpa using hx), Nat.sub_zero, Nat.sub_zero]
    by_cases q : 0 ≤ x ∧ x < 0 + gs.length
    · rw [if_pos q, if_pos (by simp; omega), rL_s]
    · rw [if_neg q, if_neg (by simp; omega)]
theorem subA_eq {g : Nat → Int32} {c : Int32} {b : Nat} {gs l : List Int32} (h : b + gs.length ≤ l.length) (hg : ∀ k, k < gs.length → g k = rL gs k) : rdI g b c gs.length 0 (rL l) = rL (subA c b gs l) := by
  funext x
  have hh := rdI_at g b c gs.length 0 (rL l) x
  by_cases hx : x < l.length
  · rw [subA_at c l gs b x hx]
    by_cases q : b ≤ x ∧ x < b + gs.length
    · rw [if_pos q, hh.1 (by omega), hg _ (by omega)]
    · rw [if_neg q, hh.2 (by omega)]
  · rw [hh.2 (by omega), rL_hi (by omega), rL_hi (by rw [subA_len]; omega)]
def dvA (gs : List Int32) (bb : Nat) : Nat → Nat → List Int32 → List Int32
  | 0, _, l => l
  | f + 1, i, l => if l.getD i 0 = 0 then dvA gs bb f (i - 1) l else frL (subA (l.getD i 0) (i - bb) gs l) (fun l => dvA gs bb f (i - 1) l)
theorem dvA_eq {g : Nat → Int32} {gs : List Int32} {bb : Nat} (hb : gs.length = bb) (h1 : 1 ≤ bb) (hg : ∀ k, k < bb → g k = rL gs k) : ∀ (f i : Nat) (l : List Int32), l.length = 49 → i + 1 = bb + f → i ≤ 48 → dvO g bb f i (rL l) = rL (dvA gs bb f i l) ∧ (dvA gs bb f i l).length = 49
  | 0, _, l, h, _, _ => ⟨rfl, h⟩
  | f + 1, i, l, h, hi, hi2 => by
    unfold dvO dvA
    have hr : rL l i = l.getD i 0 := rfl
    by_cases hz : l.getD i 0 = 0
    · rw [if_pos hz, hr, hz, rdI_c0]
      by_cases hf : f = 0
      · subst hf
        exact ⟨rfl, h⟩
      · exact dvA_eq hb h1 hg f (i - 1) l h (by omega) (by omega)
    · subst hb
      rw [if_neg hz, frL_eq, subA_eq (g := g) (by omega) hg, ← hr]
      by_cases hf : f = 0
      · subst hf
        exact ⟨rfl, by show (subA _ _ _ _).length = 49; rw [subA_len]; exact h⟩
      · exact dvA_eq rfl h1 hg f (i - 1) _ (by rw [subA_len]; exact h) (by omega) (by omega)
theorem shL_at {hb bb : Nat} (h1 : 1 ≤ bb) : ∀ (f i : Nat) (w : Nat → Int32) (x : Nat), (i ≤ x ∧ x < i + f → shL hb bb f i w x = if x ≤ hb then w (x + bb) else 0) ∧ (¬ (i ≤ x ∧ x < i + f) → shL hb bb f i w x = w x)
  | 0, i, w, x => ⟨fun h => absurd h (by omega), fun _ => rfl⟩
  | f + 1, i, w, x => by
    have hh := shL_at (hb := hb) h1 f (i + 1) (upd w i (if i ≤ hb then w (i + bb) else 0)) x
    unfold shL
    refine ⟨fun hj => ?_, fun hj => ?_⟩
    · by_cases e : x = i
      · subst e
        rw [hh.2 (by omega), pk_us]
      · rw [hh.1 (by omega), pk_un (by omega)]
    · rw [hh.2 (by omega)]
      exact pk_un (by omega)
def tab49 (f : Nat → Int32) : List Int32 := (List.range 49).map f
theorem tab49_len (f : Nat → Int32) : (tab49 f).length = 49 := by simp [tab49]
theorem tab49_at (f : Nat → Int32) {x : Nat} (h : x < 49) : rL (tab49 f) x = f x := by
  unfold rL tab49
  rw [List.getD_eq_getElem?_getD, List.getElem?_map, List.getElem?_range h]
  rfl
def dvWA (gs : List Int32) (bb h : Nat) (l : List Int32) : List Int32 := frL (dvA gs bb (h + 1 - bb) h l) (fun l => tab49 (fun x => if x ≤ h - bb then l.getD (x + bb) 0 else 0))
theorem dvWA_eq {g : Nat → Int32} {gs : List Int32} {bb h : Nat} {l : List Int32} (hb : gs.length = bb) (h1 : 1 ≤ bb) (hg : ∀ k, k < bb → g k = rL gs k) (hl : l.length = 49) (hh : bb ≤ h ∧ h ≤ 48) : dvW g bb h (rL l) = rL (dvWA gs bb h l) ∧ (dvWA gs bb h l).length = 49 := by
  have e := dvA_eq hb h1 hg (h + 1 - bb) h l hl (by omega) (by omega)
  unfold dvW dvWA
  rw [frL_eq, e.1]
  refine ⟨?_, tab49_len _⟩
  funext x
  have hs := shL_at (hb := h - bb) h1 49 0 (rL (dvA gs bb (h + 1 - bb) h l)) x
  by_cases hx : x < 49
  · rw [hs.1 (by omega), tab49_at _ hx]
    rfl
  · rw [hs.2 (by omega), rL_hi (by rw [e.2]; omega), rL_hi (by rw [tab49_len]; omega)]
def ldChk (n : Nat) : Nat → Nat → Nat → List Int32 → Bool
  | 0, _, h, l => decide (h = dgA n) && (List.range 49).all (fun i => decide ((if i ≤ h then l.getD i 0 else 0) = (PH n).getD i 0))
  | f + 1, d, h, l => if n % d = 0 then (decide (dgA d ≤ h) && frL (dvWA ((PH d).take (dgA d)) (dgA d) h l) (fun l => ldChk n f (d + 1) (h - dgA d) l)) else ldChk n f (d + 1) h l
set_option maxRecDepth 100000 in
theorem LD_tab : ∀ n : Nat, n < 49 → 1 ≤ n → ldChk n (n - 1) 1 n (tab49 (xn n)) = true := by decide +kernel
set_option maxRecDepth 100000 in
theorem PH_len : ∀ n : Nat, n < 49 → 1 ≤ n → (PH n).length = 49 := by decide +kernel
theorem take_at {l : List Int32} {n k : Nat} (h : k < n) : rL (l.take n) k = rL l k := by
  unfold rL
  rw [List.getD_eq_getElem?_getD, List.getD_eq_getElem?_getD, List.getElem?_take_of_lt h]
theorem ldChk_ok {n : Nat} (h1 : 1 ≤ n) (h2 : n ≤ 48) : ∀ (f d h : Nat) (l : List Int32), l.length = 49 → h ≤ 48 → 1 ≤ d → d + f ≤ 48 → ldChk n f d h l = true → ldOk n f d h (rL l)
  | 0, d, h, l, hl, hh, hd, hf, hc => by
    unfold ldChk at hc
    rw [Bool.and_eq_true, decide_eq_true_eq, List.all_eq_true] at hc
    refine ⟨by rw [dgN_tab h1 h2]; exact hc.1, fun i hi => ?_⟩
    have h3 := hc.2 i (List.mem_range.mpr hi)
    rw [decide_eq_true_eq] at h3
    rw [cyR_tab h1 h2]
    exact h3
  | f + 1, d, h, l, hl, hh, hd, hf, hc => by
    unfold ldChk at hc
    unfold ldOk
    by_cases h0 : n % d = 0
    · rw [if_pos h0] at hc ⊢
      rw [Bool.and_eq_true, decide_eq_true_eq, frL_eq] at hc
      have hda := dgA_all d (by omega) hd
      have hdl : dgA d ≤ d := hpL_le _ _
      have e := dvWA_eq (g := cyR d) (gs := (PH d).take (dgA d)) (bb := dgA d) (h := h) (l := l) (by rw [List.length_take, PH_len d (by omega) hd]; omega) hda.1 (fun k hk => by rw [cyR_tab hd (by omega), take_at hk]) hl ⟨hc.1, hh⟩
      rw [dgN_tab hd (by omega), e.1]
      exact ⟨hc.1, ldChk_ok h1 h2 f (d + 1) _ _ e.2 (by omega) (by omega) (by omega) hc.2⟩
    · rw [if_neg h0] at hc ⊢
      exact ldChk_ok h1 h2 f (d + 1) h l hl hh (by omega) (by omega) hc
theorem LD : ∀ n : Nat, 1 ≤ n → n ≤ 48 → ldOk n (n - 1) 1 n (xn n) := by
  intro n h1 h2
  have e : xn n = rL (tab49 (xn n)) := by
    funext x
    by_cases hx : x < 49
    · rw [tab49_at _ hx]
    · rw [rL_hi (by rw [tab49_len]; omega)]
      unfold xn
      rw [if_neg (by omega), if_neg (by omega)]
  rw [e]
  have hk := LD_tab n (by omega) h1
  exact ldChk_ok h1 h2 (n - 1) 1 n _ (tab49_len _) h2 (by omega) (by omega) hk
end
