section
-- ===== PART A: goes FIRST, ahead of the names: the tables' words, and 'selects' of the private methods out of them =====
/-- a private method of a class that the tables say can be made, by its rows of tables_1 -/
def lw_okq (q : MethodName × Nat) : Prop := (q.1.cls ≠ "java/lang/invoke/MethodHandle" ∧ q.1.cls ≠ "java/lang/invoke/VarHandle") ∧ Cond.instantiable q.1.cls q.2 ∈ tables_1 ∧ Cond.privateMethod q.1 ∈ tables_1 ∧ Cond.instanceMethod q.1 ∈ tables_1
theorem lw_p0 : lw_okq (⟨"NetTwin$Net", "addInput", "()I"⟩, 8) := ⟨⟨by decide +kernel, by decide +kernel⟩, List.mem_of_getElem? (i := 15) (by decide +kernel), List.mem_of_getElem? (i := 83) (by decide +kernel), List.mem_of_getElem? (i := 84) (by decide +kernel)⟩
theorem lw_p1 : lw_okq (⟨"NetTwin$Net", "addNode", "(II)I"⟩, 8) := ⟨⟨by decide +kernel, by decide +kernel⟩, List.mem_of_getElem? (i := 15) (by decide +kernel), List.mem_of_getElem? (i := 87) (by decide +kernel), List.mem_of_getElem? (i := 88) (by decide +kernel)⟩
theorem lw_p2 : lw_okq (⟨"NetTwin$Net", "both", "(II)I"⟩, 8) := ⟨⟨by decide +kernel, by decide +kernel⟩, List.mem_of_getElem? (i := 15) (by decide +kernel), List.mem_of_getElem? (i := 95) (by decide +kernel), List.mem_of_getElem? (i := 96) (by decide +kernel)⟩
theorem lw_p3 : lw_okq (⟨"NetTwin$Net", "holds", "(I)Z"⟩, 8) := ⟨⟨by decide +kernel, by decide +kernel⟩, List.mem_of_getElem? (i := 15) (by decide +kernel), List.mem_of_getElem? (i := 99) (by decide +kernel), List.mem_of_getElem? (i := 100) (by decide +kernel)⟩
theorem lw_p4 : lw_okq (⟨"NetTwin$Net", "gateOf", "(II)I"⟩, 8) := ⟨⟨by decide +kernel, by decide +kernel⟩, List.mem_of_getElem? (i := 15) (by decide +kernel), List.mem_of_getElem? (i := 106) (by decide +kernel), List.mem_of_getElem? (i := 107) (by decide +kernel)⟩
theorem lw_p5 : lw_okq (⟨"NetTwin$Net", "either", "(II)I"⟩, 8) := ⟨⟨by decide +kernel, by decide +kernel⟩, List.mem_of_getElem? (i := 15) (by decide +kernel), List.mem_of_getElem? (i := 114) (by decide +kernel), List.mem_of_getElem? (i := 115) (by decide +kernel)⟩
theorem lw_p6 : lw_okq (⟨"NetTwin", "twinStands", "()Z"⟩, 8) := ⟨⟨by decide +kernel, by decide +kernel⟩, List.mem_of_getElem? (i := 7) (by decide +kernel), List.mem_of_getElem? (i := 133) (by decide +kernel), List.mem_of_getElem? (i := 134) (by decide +kernel)⟩
theorem lw_p7 : lw_okq (⟨"NetTwin", "buildTwin", "()Z"⟩, 8) := ⟨⟨by decide +kernel, by decide +kernel⟩, List.mem_of_getElem? (i := 7) (by decide +kernel), List.mem_of_getElem? (i := 146) (by decide +kernel), List.mem_of_getElem? (i := 147) (by decide +kernel)⟩
theorem lw_p8 : lw_okq (⟨"NetTwin$Net", "clear", "()V"⟩, 8) := ⟨⟨by decide +kernel, by decide +kernel⟩, List.mem_of_getElem? (i := 15) (by decide +kernel), List.mem_of_getElem? (i := 150) (by decide +kernel), List.mem_of_getElem? (i := 151) (by decide +kernel)⟩
theorem lw_p9 : lw_okq (⟨"NetTwin", "twinInputs", "()V"⟩, 8) := ⟨⟨by decide +kernel, by decide +kernel⟩, List.mem_of_getElem? (i := 7) (by decide +kernel), List.mem_of_getElem? (i := 154) (by decide +kernel), List.mem_of_getElem? (i := 155) (by decide +kernel)⟩
theorem lw_p10 : lw_okq (⟨"NetTwin$Net", "isGate", "(I)Z"⟩, 8) := ⟨⟨by decide +kernel, by decide +kernel⟩, List.mem_of_getElem? (i := 15) (by decide +kernel), List.mem_of_getElem? (i := 158) (by decide +kernel), List.mem_of_getElem? (i := 159) (by decide +kernel)⟩
theorem lw_p11 : lw_okq (⟨"NetTwin", "twinGate", "(I)Z"⟩, 8) := ⟨⟨by decide +kernel, by decide +kernel⟩, List.mem_of_getElem? (i := 7) (by decide +kernel), List.mem_of_getElem? (i := 162) (by decide +kernel), List.mem_of_getElem? (i := 163) (by decide +kernel)⟩
theorem lw_p12 : lw_okq (⟨"NetTwin", "valueInTwin", "(I)I"⟩, 8) := ⟨⟨by decide +kernel, by decide +kernel⟩, List.mem_of_getElem? (i := 7) (by decide +kernel), List.mem_of_getElem? (i := 166) (by decide +kernel), List.mem_of_getElem? (i := 167) (by decide +kernel)⟩
theorem lw_p13 : lw_okq (⟨"NetTwin", "spreadTwin", "()V"⟩, 8) := ⟨⟨by decide +kernel, by decide +kernel⟩, List.mem_of_getElem? (i := 7) (by decide +kernel), List.mem_of_getElem? (i := 182) (by decide +kernel), List.mem_of_getElem? (i := 183) (by decide +kernel)⟩
theorem lw_p14 : lw_okq (⟨"NetTwin$Net", "spread", "()V"⟩, 8) := ⟨⟨by decide +kernel, by decide +kernel⟩, List.mem_of_getElem? (i := 15) (by decide +kernel), List.mem_of_getElem? (i := 190) (by decide +kernel), List.mem_of_getElem? (i := 191) (by decide +kernel)⟩
theorem lw_p15 : lw_okq (⟨"NetTwin$Net", "wordOf", "(I)J"⟩, 8) := ⟨⟨by decide +kernel, by decide +kernel⟩, List.mem_of_getElem? (i := 15) (by decide +kernel), List.mem_of_getElem? (i := 195) (by decide +kernel), List.mem_of_getElem? (i := 196) (by decide +kernel)⟩
def lw_privs_1 : List (MethodName × Nat) := [(⟨"NetTwin$Net", "addInput", "()I"⟩, 8), (⟨"NetTwin$Net", "addNode", "(II)I"⟩, 8), (⟨"NetTwin$Net", "both", "(II)I"⟩, 8), (⟨"NetTwin$Net", "holds", "(I)Z"⟩, 8), (⟨"NetTwin$Net", "gateOf", "(II)I"⟩, 8), (⟨"NetTwin$Net", "either", "(II)I"⟩, 8), (⟨"NetTwin", "twinStands", "()Z"⟩, 8), (⟨"NetTwin", "buildTwin", "()Z"⟩, 8), (⟨"NetTwin$Net", "clear", "()V"⟩, 8), (⟨"NetTwin", "twinInputs", "()V"⟩, 8), (⟨"NetTwin$Net", "isGate", "(I)Z"⟩, 8), (⟨"NetTwin", "twinGate", "(I)Z"⟩, 8), (⟨"NetTwin", "valueInTwin", "(I)I"⟩, 8), (⟨"NetTwin", "spreadTwin", "()V"⟩, 8), (⟨"NetTwin$Net", "spread", "()V"⟩, 8), (⟨"NetTwin$Net", "wordOf", "(I)J"⟩, 8)]
theorem lw_r1 : ∀ q ∈ lw_privs_1, lw_okq q := List.forall_mem_cons.mpr ⟨lw_p0, List.forall_mem_cons.mpr ⟨lw_p1, List.forall_mem_cons.mpr ⟨lw_p2, List.forall_mem_cons.mpr ⟨lw_p3, List.forall_mem_cons.mpr ⟨lw_p4, List.forall_mem_cons.mpr ⟨lw_p5, List.forall_mem_cons.mpr ⟨lw_p6, List.forall_mem_cons.mpr ⟨lw_p7, List.forall_mem_cons.mpr ⟨lw_p8, List.forall_mem_cons.mpr ⟨lw_p9, List.forall_mem_cons.mpr ⟨lw_p10, List.forall_mem_cons.mpr ⟨lw_p11, List.forall_mem_cons.mpr ⟨lw_p12, List.forall_mem_cons.mpr ⟨lw_p13, List.forall_mem_cons.mpr ⟨lw_p14, List.forall_mem_cons.mpr ⟨lw_p15, fun _ h => absurd h List.not_mem_nil⟩⟩⟩⟩⟩⟩⟩⟩⟩⟩⟩⟩⟩⟩⟩⟩
theorem lw_p16 : lw_okq (⟨"NetTwin", "spreadNet", "()V"⟩, 8) := ⟨⟨by decide +kernel, by decide +kernel⟩, List.mem_of_getElem? (i := 7) (by decide +kernel), List.mem_of_getElem? (i := 204) (by decide +kernel), List.mem_of_getElem? (i := 205) (by decide +kernel)⟩
theorem lw_p17 : lw_okq (⟨"NetTwin", "spreadTaints", "()V"⟩, 8) := ⟨⟨by decide +kernel, by decide +kernel⟩, List.mem_of_getElem? (i := 7) (by decide +kernel), List.mem_of_getElem? (i := 212) (by decide +kernel), List.mem_of_getElem? (i := 213) (by decide +kernel)⟩
theorem lw_p18 : lw_okq (⟨"NetTwin", "countTainted", "()I"⟩, 8) := ⟨⟨by decide +kernel, by decide +kernel⟩, List.mem_of_getElem? (i := 7) (by decide +kernel), List.mem_of_getElem? (i := 220) (by decide +kernel), List.mem_of_getElem? (i := 221) (by decide +kernel)⟩
theorem lw_p19 : lw_okq (⟨"NetTwin", "setTaintedInputs", "(I)V"⟩, 8) := ⟨⟨by decide +kernel, by decide +kernel⟩, List.mem_of_getElem? (i := 7) (by decide +kernel), List.mem_of_getElem? (i := 224) (by decide +kernel), List.mem_of_getElem? (i := 225) (by decide +kernel)⟩
theorem lw_p20 : lw_okq (⟨"NetTwinModel", "made", "(II)I"⟩, 11) := ⟨⟨by decide +kernel, by decide +kernel⟩, List.mem_of_getElem? (i := 233) (by decide +kernel), List.mem_of_getElem? (i := 330) (by decide +kernel), List.mem_of_getElem? (i := 331) (by decide +kernel)⟩
theorem lw_p21 : lw_okq (⟨"NetTwinModel", "reckonNet", "()V"⟩, 11) := ⟨⟨by decide +kernel, by decide +kernel⟩, List.mem_of_getElem? (i := 233) (by decide +kernel), List.mem_of_getElem? (i := 393) (by decide +kernel), List.mem_of_getElem? (i := 394) (by decide +kernel)⟩
theorem lw_p22 : lw_okq (⟨"NetTwinModel", "room", "(I)V"⟩, 11) := ⟨⟨by decide +kernel, by decide +kernel⟩, List.mem_of_getElem? (i := 233) (by decide +kernel), List.mem_of_getElem? (i := 397) (by decide +kernel), List.mem_of_getElem? (i := 398) (by decide +kernel)⟩
theorem lw_p23 : lw_okq (⟨"NetTwinModel", "reckon", "(LNetTwinModel$Nodes;)V"⟩, 11) := ⟨⟨by decide +kernel, by decide +kernel⟩, List.mem_of_getElem? (i := 233) (by decide +kernel), List.mem_of_getElem? (i := 401) (by decide +kernel), List.mem_of_getElem? (i := 402) (by decide +kernel)⟩
def lw_privs_2 : List (MethodName × Nat) := [(⟨"NetTwin", "spreadNet", "()V"⟩, 8), (⟨"NetTwin", "spreadTaints", "()V"⟩, 8), (⟨"NetTwin", "countTainted", "()I"⟩, 8), (⟨"NetTwin", "setTaintedInputs", "(I)V"⟩, 8), (⟨"NetTwinModel", "made", "(II)I"⟩, 11), (⟨"NetTwinModel", "reckonNet", "()V"⟩, 11), (⟨"NetTwinModel", "room", "(I)V"⟩, 11), (⟨"NetTwinModel", "reckon", "(LNetTwinModel$Nodes;)V"⟩, 11)]
theorem lw_r2 : ∀ q ∈ lw_privs_2, lw_okq q := List.forall_mem_cons.mpr ⟨lw_p16, List.forall_mem_cons.mpr ⟨lw_p17, List.forall_mem_cons.mpr ⟨lw_p18, List.forall_mem_cons.mpr ⟨lw_p19, List.forall_mem_cons.mpr ⟨lw_p20, List.forall_mem_cons.mpr ⟨lw_p21, List.forall_mem_cons.mpr ⟨lw_p22, List.forall_mem_cons.mpr ⟨lw_p23, fun _ h => absurd h List.not_mem_nil⟩⟩⟩⟩⟩⟩⟩⟩
def lw_privs : List (MethodName × Nat) := lw_privs_1 ++ (lw_privs_2)
def lw_tbl : List Cond := k2_sels lw_privs ++ tables_1
theorem lw_privs_ok : ∀ q ∈ lw_privs, lw_okq q := by
  show ∀ q ∈ lw_privs_1 ++ (lw_privs_2), lw_okq q
  exact List.forall_mem_append.mpr ⟨lw_r1, lw_r2⟩
-- ===== end of PART A; then your names; then what follows =====
end
section
/-! ===== BEGIN words of one list among another's, by their places ===== -/
theorem goodIn_r {big : List Cond} (ws : List Cond) (ps : List Nat) (hp : ws = ps.filterMap (fun i => big[i]?)) (h : ws.all goodWord = true) : GoodIn big ws := by
  intro w hw
  have h1 := List.all_eq_true.mp h w hw
  rw [hp] at hw
  obtain ⟨i, -, hi⟩ := List.mem_filterMap.mp hw
  have hm : w ∈ big := by first | exact List.mem_of_getElem? hi | exact List.getElem?_mem hi
  exact ⟨hm, good_of_word h1⟩
theorem goodIn_app {big a b : List Cond} (ha : GoodIn big a) (hb : GoodIn big b) : GoodIn big (a ++ b) := fun w h => (List.mem_append.mp h).elim (ha w) (hb w)
theorem goodIn_ca {big a b : List Cond} {c : Cond} (ha : GoodIn big (c :: a)) (hb : GoodIn big b) : GoodIn big (c :: (a ++ b)) := fun w h => (List.mem_cons.mp h).elim (fun e => ha w (List.mem_cons.mpr (Or.inl e))) (fun h => (List.mem_append.mp h).elim (fun h => ha w (List.mem_cons.mpr (Or.inr h))) (hb w))
theorem goodIn_sub {big ws : List Cond} (hm : ∀ w ∈ ws, w ∈ big) (h : ws.all goodWord = true) : GoodIn big ws := fun w hw => ⟨hm w hw, good_of_word (List.all_eq_true.mp h w hw)⟩
/-! ===== END ===== -/

/-! ===== BEGIN printed: names, fields, word lists, decode rows ===== -/
def RX0 : String := "NetTwin$Net"
def TX0 : u_T := fun k => match k with
  | 0 => ("NetTwin$Net", "mostInputs", "I", true)
  | 1 => ("NetTwin$Net", "mostGates", "I", true)
  | 2 => ("NetTwin$Net", "lesser", "[I", true)
  | 3 => ("NetTwin$Net", "other", "[I", true)
  | 4 => ("NetTwin$Net", "inputNode", "[I", true)
  | 5 => ("NetTwin$Net", "word", "[J", true)
  | 6 => ("NetTwin$Net", "nodeCount", "I", false)
  | _ => ("NetTwin$Net", "inputCount", "I", false)
def tyX0 : Nat → FieldType := fun k => match k with
  | 0 => .int
  | 1 => .int
  | 2 => .array .int
  | 3 => .array .int
  | 4 => .array .int
  | 5 => .array .long
  | 6 => .int
  | _ => .int
abbrev wsX00 : List Cond := u_ws RX0 TX0 8
theorem nmX0 : ∀ a, a < 8 → ∀ b, b < 8 → a ≠ b → (TX0 a).2.1 ≠ (TX0 b).2.1 := by decide +kernel
theorem tyX0_ok : ∀ k, k < 8 → parseFieldDescriptor (TX0 k).2.2.1 = some (tyX0 k) := by decide +kernel
abbrev cX0_init : ByteArray := prog_2_method_1_code
def yX0_init : MethodName := ⟨RX0, "<init>", "(II)V"⟩
abbrev cX0_clear : ByteArray := prog_2_method_2_code
def yX0_clear : MethodName := ⟨RX0, "clear", "()V"⟩
abbrev cX0_holds : ByteArray := prog_2_method_3_code
def yX0_holds : MethodName := ⟨RX0, "holds", "(I)Z"⟩
abbrev cX0_isGate : ByteArray := prog_2_method_4_code
def yX0_isGate : MethodName := ⟨RX0, "isGate", "(I)Z"⟩
abbrev cX0_addInput : ByteArray := prog_2_method_5_code
def yX0_addInput : MethodName := ⟨RX0, "addInput", "()I"⟩
abbrev cX0_both : ByteArray := prog_2_method_6_code
def yX0_both : MethodName := ⟨RX0, "both", "(II)I"⟩
abbrev cX0_either : ByteArray := prog_2_method_7_code
def yX0_either : MethodName := ⟨RX0, "either", "(II)I"⟩
abbrev cX0_gateOf : ByteArray := prog_2_method_8_code
def yX0_gateOf : MethodName := ⟨RX0, "gateOf", "(II)I"⟩
abbrev cX0_addNode : ByteArray := prog_2_method_9_code
def yX0_addNode : MethodName := ⟨RX0, "addNode", "(II)I"⟩
abbrev cX0_wordOf : ByteArray := prog_2_method_10_code
def yX0_wordOf : MethodName := ⟨RX0, "wordOf", "(I)J"⟩
abbrev cX0_spread : ByteArray := prog_2_method_11_code
def yX0_spread : MethodName := ⟨RX0, "spread", "()V"⟩
def RX1 : String := "NetTwin"
def TX1 : u_T := fun k => match k with
  | 0 => ("NetTwin", "net", "LNetTwin$Net;", true)
  | 1 => ("NetTwin", "twin", "LNetTwin$Net;", true)
  | 2 => ("NetTwin", "twinnedNodes", "I", false)
  | 3 => ("NetTwin", "valueLiteral", "[I", true)
  | 4 => ("NetTwin", "taintLiteral", "[I", true)
  | 5 => ("NetTwin", "inputBit", "[I", true)
  | 6 => ("NetTwin", "inputTaint", "[I", true)
  | _ => ("NetTwin", "taintWord", "[J", true)
def tyX1 : Nat → FieldType := fun k => match k with
  | 0 => .object "NetTwin$Net"
  | 1 => .object "NetTwin$Net"
  | 2 => .int
  | 3 => .array .int
  | 4 => .array .int
  | 5 => .array .int
  | 6 => .array .int
  | _ => .array .long
abbrev wsX10 : List Cond := u_ws RX1 TX1 8
theorem nmX1 : ∀ a, a < 8 → ∀ b, b < 8 → a ≠ b → (TX1 a).2.1 ≠ (TX1 b).2.1 := by decide +kernel
theorem tyX1_ok : ∀ k, k < 8 → parseFieldDescriptor (TX1 k).2.2.1 = some (tyX1 k) := by decide +kernel
abbrev cX1_init : ByteArray := prog_1_method_1_code
def yX1_init : MethodName := ⟨RX1, "<init>", "()V"⟩
abbrev cX1_input : ByteArray := prog_1_method_2_code
def yX1_input : MethodName := ⟨RX1, "input", "()I"⟩
abbrev cX1_and : ByteArray := prog_1_method_3_code
def yX1_and : MethodName := ⟨RX1, "and", "(II)I"⟩
abbrev cX1_or : ByteArray := prog_1_method_4_code
def yX1_or : MethodName := ⟨RX1, "or", "(II)I"⟩
abbrev cX1_xor : ByteArray := prog_1_method_5_code
def yX1_xor : MethodName := ⟨RX1, "xor", "(II)I"⟩
abbrev cX1_choose : ByteArray := prog_1_method_6_code
def yX1_choose : MethodName := ⟨RX1, "choose", "(III)I"⟩
abbrev cX1_nodes : ByteArray := prog_1_method_7_code
def yX1_nodes : MethodName := ⟨RX1, "nodes", "(Z)I"⟩
abbrev cX1_gate : ByteArray := prog_1_method_8_code
def yX1_gate : MethodName := ⟨RX1, "gate", "(ZII)I"⟩
abbrev cX1_twin : ByteArray := prog_1_method_9_code
def yX1_twin : MethodName := ⟨RX1, "twin", "()I"⟩
abbrev cX1_twinOf : ByteArray := prog_1_method_10_code
def yX1_twinOf : MethodName := ⟨RX1, "twinOf", "(IZ)I"⟩
abbrev cX1_set : ByteArray := prog_1_method_11_code
def yX1_set : MethodName := ⟨RX1, "set", "(IZI)I"⟩
abbrev cX1_bit : ByteArray := prog_1_method_12_code
def yX1_bit : MethodName := ⟨RX1, "bit", "(ZI)I"⟩
abbrev cX1_taint : ByteArray := prog_1_method_13_code
def yX1_taint : MethodName := ⟨RX1, "taint", "(I)I"⟩
abbrev cX1_hangs : ByteArray := prog_1_method_14_code
def yX1_hangs : MethodName := ⟨RX1, "hangs", "(I)I"⟩
abbrev cX1_twinStands : ByteArray := prog_1_method_15_code
def yX1_twinStands : MethodName := ⟨RX1, "twinStands", "()Z"⟩
abbrev cX1_buildTwin : ByteArray := prog_1_method_16_code
def yX1_buildTwin : MethodName := ⟨RX1, "buildTwin", "()Z"⟩
abbrev cX1_twinInputs : ByteArray := prog_1_method_17_code
def yX1_twinInputs : MethodName := ⟨RX1, "twinInputs", "()V"⟩
abbrev cX1_twinGate : ByteArray := prog_1_method_18_code
def yX1_twinGate : MethodName := ⟨RX1, "twinGate", "(I)Z"⟩
abbrev cX1_valueInTwin : ByteArray := prog_1_method_19_code
def yX1_valueInTwin : MethodName := ⟨RX1, "valueInTwin", "(I)I"⟩
abbrev cX1_spreadNet : ByteArray := prog_1_method_20_code
def yX1_spreadNet : MethodName := ⟨RX1, "spreadNet", "()V"⟩
abbrev cX1_spreadTwin : ByteArray := prog_1_method_21_code
def yX1_spreadTwin : MethodName := ⟨RX1, "spreadTwin", "()V"⟩
abbrev cX1_spreadTaints : ByteArray := prog_1_method_22_code
def yX1_spreadTaints : MethodName := ⟨RX1, "spreadTaints", "()V"⟩
abbrev cX1_countTainted : ByteArray := prog_1_method_23_code
def yX1_countTainted : MethodName := ⟨RX1, "countTainted", "()I"⟩
abbrev cX1_setTaintedInputs : ByteArray := prog_1_method_24_code
def yX1_setTaintedInputs : MethodName := ⟨RX1, "setTaintedInputs", "(I)V"⟩
abbrev cX1_settingsOf : ByteArray := prog_1_method_25_code
def yX1_settingsOf : MethodName := ⟨RX1, "settingsOf", "(II)J"⟩
abbrev cX1_wordOfBit : ByteArray := prog_1_method_26_code
def yX1_wordOfBit : MethodName := ⟨RX1, "wordOfBit", "(I)J"⟩
abbrev cX1_bitOf : ByteArray := prog_1_method_27_code
def yX1_bitOf : MethodName := ⟨RX1, "bitOf", "(J)I"⟩
abbrev cX1_not : ByteArray := prog_1_method_28_code
def yX1_not : MethodName := ⟨RX1, "not", "(I)I"⟩
def RX2 : String := "NetTwinModel$Nodes"
def TX2 : u_T := fun k => match k with
  | 0 => ("NetTwinModel$Nodes", "left", "[I", false)
  | 1 => ("NetTwinModel$Nodes", "right", "[I", false)
  | 2 => ("NetTwinModel$Nodes", "count", "I", false)
  | 3 => ("NetTwinModel$Nodes", "gates", "I", false)
  | _ => ("NetTwinModel$Nodes", "most", "I", true)
def tyX2 : Nat → FieldType := fun k => match k with
  | 0 => .array .int
  | 1 => .array .int
  | 2 => .int
  | 3 => .int
  | _ => .int
abbrev wsX20 : List Cond := u_ws RX2 TX2 5
theorem nmX2 : ∀ a, a < 5 → ∀ b, b < 5 → a ≠ b → (TX2 a).2.1 ≠ (TX2 b).2.1 := by decide +kernel
theorem tyX2_ok : ∀ k, k < 5 → parseFieldDescriptor (TX2 k).2.2.1 = some (tyX2 k) := by decide +kernel
abbrev cX2_init : ByteArray := prog_5_method_1_code
def yX2_init : MethodName := ⟨RX2, "<init>", "(I)V"⟩
abbrev cX2_begin : ByteArray := prog_5_method_2_code
def yX2_begin : MethodName := ⟨RX2, "begin", "()V"⟩
abbrev cX2_more : ByteArray := prog_5_method_3_code
def yX2_more : MethodName := ⟨RX2, "more", "([I)[I"⟩
abbrev cX2_add : ByteArray := prog_5_method_4_code
def yX2_add : MethodName := ⟨RX2, "add", "(II)I"⟩
abbrev cX2_has : ByteArray := prog_5_method_5_code
def yX2_has : MethodName := ⟨RX2, "has", "(I)Z"⟩
abbrev cX2_and : ByteArray := prog_5_method_6_code
def yX2_and : MethodName := ⟨RX2, "and", "(II)I"⟩
abbrev cX2_not : ByteArray := prog_5_method_7_code
def yX2_not : MethodName := ⟨RX2, "not", "(I)I"⟩
abbrev cX2_or : ByteArray := prog_5_method_8_code
def yX2_or : MethodName := ⟨RX2, "or", "(II)I"⟩
abbrev cX2_xor : ByteArray := prog_5_method_9_code
def yX2_xor : MethodName := ⟨RX2, "xor", "(II)I"⟩
abbrev cX2_choose : ByteArray := prog_5_method_10_code
def yX2_choose : MethodName := ⟨RX2, "choose", "(III)I"⟩
def RX3 : String := "NetTwinModel"
def TX3 : u_T := fun k => match k with
  | 0 => ("NetTwinModel", "net", "LNetTwinModel$Nodes;", true)
  | 1 => ("NetTwinModel", "twin", "LNetTwinModel$Nodes;", true)
  | 2 => ("NetTwinModel", "isTwin", "Z", false)
  | 3 => ("NetTwinModel", "inputs", "[I", true)
  | 4 => ("NetTwinModel", "inputCount", "I", false)
  | 5 => ("NetTwinModel", "bits", "[I", true)
  | 6 => ("NetTwinModel", "taints", "[I", true)
  | 7 => ("NetTwinModel", "valueOf", "[I", false)
  | 8 => ("NetTwinModel", "taintOf", "[I", false)
  | 9 => ("NetTwinModel", "now", "[I", false)
  | _ => ("NetTwinModel", "marks", "[I", false)
def tyX3 : Nat → FieldType := fun k => match k with
  | 0 => .object "NetTwinModel$Nodes"
  | 1 => .object "NetTwinModel$Nodes"
  | 2 => .boolean
  | 3 => .array .int
  | 4 => .int
  | 5 => .array .int
  | 6 => .array .int
  | 7 => .array .int
  | 8 => .array .int
  | 9 => .array .int
  | _ => .array .int
abbrev wsX30 : List Cond := u_ws RX3 TX3 11
theorem nmX3 : ∀ a, a < 11 → ∀ b, b < 11 → a ≠ b → (TX3 a).2.1 ≠ (TX3 b).2.1 := by decide +kernel
theorem tyX3_ok : ∀ k, k < 11 → parseFieldDescriptor (TX3 k).2.2.1 = some (tyX3 k) := by decide +kernel
abbrev cX3_init : ByteArray := prog_4_method_1_code
def yX3_init : MethodName := ⟨RX3, "<init>", "()V"⟩
abbrev cX3_input : ByteArray := prog_4_method_2_code
def yX3_input : MethodName := ⟨RX3, "input", "()I"⟩
abbrev cX3_made : ByteArray := prog_4_method_3_code
def yX3_made : MethodName := ⟨RX3, "made", "(II)I"⟩
abbrev cX3_and : ByteArray := prog_4_method_4_code
def yX3_and : MethodName := ⟨RX3, "and", "(II)I"⟩
abbrev cX3_or : ByteArray := prog_4_method_5_code
def yX3_or : MethodName := ⟨RX3, "or", "(II)I"⟩
abbrev cX3_xor : ByteArray := prog_4_method_6_code
def yX3_xor : MethodName := ⟨RX3, "xor", "(II)I"⟩
abbrev cX3_choose : ByteArray := prog_4_method_7_code
def yX3_choose : MethodName := ⟨RX3, "choose", "(III)I"⟩
abbrev cX3_nodes : ByteArray := prog_4_method_8_code
def yX3_nodes : MethodName := ⟨RX3, "nodes", "(Z)I"⟩
abbrev cX3_gate : ByteArray := prog_4_method_9_code
def yX3_gate : MethodName := ⟨RX3, "gate", "(ZII)I"⟩
abbrev cX3_with : ByteArray := prog_4_method_10_code
def yX3_with : MethodName := ⟨RX3, "with", "([II)I"⟩
abbrev cX3_twin : ByteArray := prog_4_method_11_code
def yX3_twin : MethodName := ⟨RX3, "twin", "()I"⟩
abbrev cX3_twinOf : ByteArray := prog_4_method_12_code
def yX3_twinOf : MethodName := ⟨RX3, "twinOf", "(IZ)I"⟩
abbrev cX3_set : ByteArray := prog_4_method_13_code
def yX3_set : MethodName := ⟨RX3, "set", "(IZI)I"⟩
abbrev cX3_of : ByteArray := prog_4_method_14_code
def yX3_of : MethodName := ⟨RX3, "of", "([II)I"⟩
abbrev cX3_reckon : ByteArray := prog_4_method_15_code
def yX3_reckon : MethodName := ⟨RX3, "reckon", "(LNetTwinModel$Nodes;)V"⟩
abbrev cX3_room : ByteArray := prog_4_method_16_code
def yX3_room : MethodName := ⟨RX3, "room", "(I)V"⟩
abbrev cX3_reckonNet : ByteArray := prog_4_method_17_code
def yX3_reckonNet : MethodName := ⟨RX3, "reckonNet", "()V"⟩
abbrev cX3_bit : ByteArray := prog_4_method_18_code
def yX3_bit : MethodName := ⟨RX3, "bit", "(ZI)I"⟩
abbrev cX3_taint : ByteArray := prog_4_method_19_code
def yX3_taint : MethodName := ⟨RX3, "taint", "(I)I"⟩
abbrev cX3_hangs : ByteArray := prog_4_method_20_code
def yX3_hangs : MethodName := ⟨RX3, "hangs", "(I)I"⟩
def RJ10 : String := "java/lang/System"
def TJ10 : u_T := fun k => match k with
  | _ => ("", "", "", false)
def tyJ10 : Nat → FieldType := fun k => match k with
  | _ => .int
abbrev wsJ100 : List Cond := u_ws RJ10 TJ10 0
theorem nmJ10 : ∀ a, a < 0 → ∀ b, b < 0 → a ≠ b → (TJ10 a).2.1 ≠ (TJ10 b).2.1 := by decide +kernel
theorem tyJ10_ok : ∀ k, k < 0 → parseFieldDescriptor (TJ10 k).2.2.1 = some (tyJ10 k) := by decide +kernel
def RL : String := "NetTwinLaw"
abbrev cL_law : ByteArray := code
def yL_law : MethodName := ⟨RL, "law", "([I)Z"⟩
def wsX0_init : List Cond := .code yX0_init cX0_init 3 none :: ([.methodLink RX0 3 objectInit, .instanceMethod objectInit, .code objectInit ⟨#[0xb1]⟩ 1 none, .fieldLink RX0 9 "NetTwin$Net" "mostInputs" "I", .fieldLink RX0 15 "NetTwin$Net" "mostGates" "I", .arrayClass .int, .fieldLink RX0 18 "NetTwin$Net" "lesser" "[I", .fieldLink RX0 22 "NetTwin$Net" "other" "[I", .fieldLink RX0 25 "NetTwin$Net" "inputNode" "[I", .arrayClass .long, .fieldLink RX0 28 "NetTwin$Net" "word" "[J", .fieldLink RX0 32 "NetTwin$Net" "nodeCount" "I"] ++ wsX00)
def wsX0_clear : List Cond := .code yX0_clear cX0_clear 1 none :: ([.fieldLink RX0 32 "NetTwin$Net" "nodeCount" "I", .fieldLink RX0 35 "NetTwin$Net" "inputCount" "I"] ++ wsX00)
def wsX0_holds : List Cond := .code yX0_holds cX0_holds 2 (some .boolean) :: ([.fieldLink RX0 32 "NetTwin$Net" "nodeCount" "I"] ++ wsX00)
def wsX0_isGate : List Cond := .code yX0_isGate cX0_isGate 2 (some .boolean) :: ([.fieldLink RX0 18 "NetTwin$Net" "lesser" "[I"] ++ wsX00)
def wsX0_addNode : List Cond := .code yX0_addNode cX0_addNode 4 (some .int) :: ([.fieldLink RX0 32 "NetTwin$Net" "nodeCount" "I", .fieldLink RX0 18 "NetTwin$Net" "lesser" "[I", .fieldLink RX0 22 "NetTwin$Net" "other" "[I"] ++ wsX00)
def wsX0_addInput : List Cond := .code yX0_addInput cX0_addInput 1 (some .int) :: ([.fieldLink RX0 35 "NetTwin$Net" "inputCount" "I", .fieldLink RX0 9 "NetTwin$Net" "mostInputs" "I", .fieldLink RX0 25 "NetTwin$Net" "inputNode" "[I", .fieldLink RX0 32 "NetTwin$Net" "nodeCount" "I", .methodLink RX0 38 yX0_addNode, .instanceMethod yX0_addNode, .selects RX0 yX0_addNode yX0_addNode, .initialized RX0, .code yX0_addNode cX0_addNode 4 (some .int), .fieldLink RX0 18 "NetTwin$Net" "lesser" "[I", .fieldLink RX0 22 "NetTwin$Net" "other" "[I"] ++ wsX00)
def wsX1_not : List Cond := .code yX1_not cX1_not 1 (some .int) :: ([])
def wsX0_gateOf : List Cond := .code yX0_gateOf cX0_gateOf 4 (some .int) :: ([.fieldLink RX0 32 "NetTwin$Net" "nodeCount" "I", .fieldLink RX0 18 "NetTwin$Net" "lesser" "[I", .fieldLink RX0 22 "NetTwin$Net" "other" "[I", .fieldLink RX0 35 "NetTwin$Net" "inputCount" "I", .fieldLink RX0 15 "NetTwin$Net" "mostGates" "I", .methodLink RX0 38 yX0_addNode, .instanceMethod yX0_addNode, .selects RX0 yX0_addNode yX0_addNode, .initialized RX0, .code yX0_addNode cX0_addNode 4 (some .int)] ++ wsX00)
def wsX0_both : List Cond := .code yX0_both cX0_both 3 (some .int) :: ([.methodLink RX0 42 yX0_holds, .instanceMethod yX0_holds, .selects RX0 yX0_holds yX0_holds, .initialized RX0, .code yX0_holds cX0_holds 2 (some .boolean), .fieldLink RX0 32 "NetTwin$Net" "nodeCount" "I", .static yX1_not, .initialized RX1, .code yX1_not cX1_not 1 (some .int), .methodLink RX0 50 yX0_gateOf, .instanceMethod yX0_gateOf, .selects RX0 yX0_gateOf yX0_gateOf, .code yX0_gateOf cX0_gateOf 4 (some .int), .fieldLink RX0 18 "NetTwin$Net" "lesser" "[I", .fieldLink RX0 22 "NetTwin$Net" "other" "[I", .fieldLink RX0 35 "NetTwin$Net" "inputCount" "I", .fieldLink RX0 15 "NetTwin$Net" "mostGates" "I", .methodLink RX0 38 yX0_addNode, .instanceMethod yX0_addNode, .selects RX0 yX0_addNode yX0_addNode, .code yX0_addNode cX0_addNode 4 (some .int)] ++ wsX00)
def wsX0_either_r1 : List Cond := [Cond.static yX1_not, Cond.initialized RX1, Cond.code yX1_not cX1_not 1 (some .int), Cond.methodLink RX0 53 yX0_both, Cond.instanceMethod yX0_both, Cond.selects RX0 yX0_both yX0_both, Cond.initialized RX0, Cond.code yX0_both cX0_both 3 (some .int), Cond.methodLink RX0 42 yX0_holds, Cond.instanceMethod yX0_holds, Cond.selects RX0 yX0_holds yX0_holds, Cond.code yX0_holds cX0_holds 2 (some .boolean), Cond.fieldLink RX0 32 "NetTwin$Net" "nodeCount" "I", Cond.methodLink RX0 50 yX0_gateOf, Cond.instanceMethod yX0_gateOf, Cond.selects RX0 yX0_gateOf yX0_gateOf, Cond.code yX0_gateOf cX0_gateOf 4 (some .int), Cond.fieldLink RX0 18 "NetTwin$Net" "lesser" "[I", Cond.fieldLink RX0 22 "NetTwin$Net" "other" "[I", Cond.fieldLink RX0 35 "NetTwin$Net" "inputCount" "I", Cond.fieldLink RX0 15 "NetTwin$Net" "mostGates" "I", Cond.methodLink RX0 38 yX0_addNode, Cond.instanceMethod yX0_addNode, Cond.selects RX0 yX0_addNode yX0_addNode]
def wsX0_either_r2 : List Cond := [Cond.code yX0_addNode cX0_addNode 4 (some .int)]
def wsX0_either : List Cond := .code yX0_either cX0_either 3 (some .int) :: ((wsX0_either_r1 ++ wsX0_either_r2) ++ wsX00)
def wsX0_wordOf : List Cond := .code yX0_wordOf cX0_wordOf 4 (some .long) :: ([.fieldLink RX0 28 "NetTwin$Net" "word" "[J", .constantLong RX0 56 (-1)] ++ wsX00)
def wsX0_spread : List Cond := .code yX0_spread cX0_spread 2 none :: ([.fieldLink RX0 32 "NetTwin$Net" "nodeCount" "I", .fieldLink RX0 28 "NetTwin$Net" "word" "[J", .fieldLink RX0 18 "NetTwin$Net" "lesser" "[I", .fieldLink RX0 22 "NetTwin$Net" "other" "[I", .methodLink RX0 58 yX0_isGate, .instanceMethod yX0_isGate, .selects RX0 yX0_isGate yX0_isGate, .initialized RX0, .code yX0_isGate cX0_isGate 2 (some .boolean), .methodLink RX0 61 yX0_wordOf, .instanceMethod yX0_wordOf, .selects RX0 yX0_wordOf yX0_wordOf, .code yX0_wordOf cX0_wordOf 4 (some .long), .constantLong RX0 56 (-1)] ++ wsX00)
def wsX1_init_r1 : List Cond := [Cond.methodLink RX1 1 objectInit, Cond.instanceMethod objectInit, Cond.code objectInit ⟨#[0xb1]⟩ 1 none, Cond.classLink RX1 7 RX0, Cond.instantiable RX0 8, Cond.initialized RX0, Cond.fieldLink RX1 14 "NetTwin" "net" "LNetTwin$Net;", Cond.fieldLink RX1 18 "NetTwin" "twin" "LNetTwin$Net;", Cond.fieldLink RX1 21 "NetTwin" "twinnedNodes" "I", Cond.arrayClass .int, Cond.fieldLink RX1 25 "NetTwin" "valueLiteral" "[I", Cond.fieldLink RX1 29 "NetTwin" "taintLiteral" "[I", Cond.fieldLink RX1 32 "NetTwin" "inputBit" "[I", Cond.fieldLink RX1 35 "NetTwin" "inputTaint" "[I", Cond.arrayClass .long, Cond.fieldLink RX1 38 "NetTwin" "taintWord" "[J", Cond.instanceMethod yX0_init, Cond.code yX0_init cX0_init 3 none, Cond.methodLink RX0 3 objectInit, Cond.fieldLink RX0 9 "NetTwin$Net" "mostInputs" "I", Cond.fieldLink RX0 15 "NetTwin$Net" "mostGates" "I", Cond.fieldLink RX0 18 "NetTwin$Net" "lesser" "[I", Cond.fieldLink RX0 22 "NetTwin$Net" "other" "[I", Cond.fieldLink RX0 25 "NetTwin$Net" "inputNode" "[I"]
def wsX1_init_r2 : List Cond := [Cond.fieldLink RX0 28 "NetTwin$Net" "word" "[J", Cond.fieldLink RX0 32 "NetTwin$Net" "nodeCount" "I"]
def wsX1_init : List Cond := .code yX1_init cX1_init 1 none :: ((wsX1_init_r1 ++ wsX1_init_r2) ++ wsX00 ++ wsX10)
def wsX1_input : List Cond := .code yX1_input cX1_input 1 (some .int) :: ([.fieldLink RX1 14 "NetTwin" "net" "LNetTwin$Net;", .instanceMethod yX0_addInput, .initialized RX0, .selects RX0 yX0_addInput yX0_addInput, .code yX0_addInput cX0_addInput 1 (some .int), .fieldLink RX0 35 "NetTwin$Net" "inputCount" "I", .fieldLink RX0 9 "NetTwin$Net" "mostInputs" "I", .fieldLink RX0 25 "NetTwin$Net" "inputNode" "[I", .fieldLink RX0 32 "NetTwin$Net" "nodeCount" "I", .methodLink RX0 38 yX0_addNode, .instanceMethod yX0_addNode, .selects RX0 yX0_addNode yX0_addNode, .code yX0_addNode cX0_addNode 4 (some .int), .fieldLink RX0 18 "NetTwin$Net" "lesser" "[I", .fieldLink RX0 22 "NetTwin$Net" "other" "[I"] ++ wsX10 ++ wsX00)
def wsX1_and_r1 : List Cond := [Cond.fieldLink RX1 14 "NetTwin" "net" "LNetTwin$Net;", Cond.instanceMethod yX0_both, Cond.initialized RX0, Cond.selects RX0 yX0_both yX0_both, Cond.code yX0_both cX0_both 3 (some .int), Cond.methodLink RX0 42 yX0_holds, Cond.instanceMethod yX0_holds, Cond.selects RX0 yX0_holds yX0_holds, Cond.code yX0_holds cX0_holds 2 (some .boolean), Cond.fieldLink RX0 32 "NetTwin$Net" "nodeCount" "I", Cond.static yX1_not, Cond.initialized RX1, Cond.code yX1_not cX1_not 1 (some .int), Cond.methodLink RX0 50 yX0_gateOf, Cond.instanceMethod yX0_gateOf, Cond.selects RX0 yX0_gateOf yX0_gateOf, Cond.code yX0_gateOf cX0_gateOf 4 (some .int), Cond.fieldLink RX0 18 "NetTwin$Net" "lesser" "[I", Cond.fieldLink RX0 22 "NetTwin$Net" "other" "[I", Cond.fieldLink RX0 35 "NetTwin$Net" "inputCount" "I", Cond.fieldLink RX0 15 "NetTwin$Net" "mostGates" "I", Cond.methodLink RX0 38 yX0_addNode, Cond.instanceMethod yX0_addNode, Cond.selects RX0 yX0_addNode yX0_addNode]
def wsX1_and_r2 : List Cond := [Cond.code yX0_addNode cX0_addNode 4 (some .int)]
def wsX1_and : List Cond := .code yX1_and cX1_and 3 (some .int) :: ((wsX1_and_r1 ++ wsX1_and_r2) ++ wsX10 ++ wsX00)
def wsX1_or_r1 : List Cond := [Cond.fieldLink RX1 14 "NetTwin" "net" "LNetTwin$Net;", Cond.instanceMethod yX0_either, Cond.initialized RX0, Cond.selects RX0 yX0_either yX0_either, Cond.code yX0_either cX0_either 3 (some .int), Cond.static yX1_not, Cond.initialized RX1, Cond.code yX1_not cX1_not 1 (some .int), Cond.methodLink RX0 53 yX0_both, Cond.instanceMethod yX0_both, Cond.selects RX0 yX0_both yX0_both, Cond.code yX0_both cX0_both 3 (some .int), Cond.methodLink RX0 42 yX0_holds, Cond.instanceMethod yX0_holds, Cond.selects RX0 yX0_holds yX0_holds, Cond.code yX0_holds cX0_holds 2 (some .boolean), Cond.fieldLink RX0 32 "NetTwin$Net" "nodeCount" "I", Cond.methodLink RX0 50 yX0_gateOf, Cond.instanceMethod yX0_gateOf, Cond.selects RX0 yX0_gateOf yX0_gateOf, Cond.code yX0_gateOf cX0_gateOf 4 (some .int), Cond.fieldLink RX0 18 "NetTwin$Net" "lesser" "[I", Cond.fieldLink RX0 22 "NetTwin$Net" "other" "[I", Cond.fieldLink RX0 35 "NetTwin$Net" "inputCount" "I"]
def wsX1_or_r2 : List Cond := [Cond.fieldLink RX0 15 "NetTwin$Net" "mostGates" "I", Cond.methodLink RX0 38 yX0_addNode, Cond.instanceMethod yX0_addNode, Cond.selects RX0 yX0_addNode yX0_addNode, Cond.code yX0_addNode cX0_addNode 4 (some .int)]
def wsX1_or : List Cond := .code yX1_or cX1_or 3 (some .int) :: ((wsX1_or_r1 ++ wsX1_or_r2) ++ wsX10 ++ wsX00)
def wsX1_xor_r1 : List Cond := [Cond.fieldLink RX1 14 "NetTwin" "net" "LNetTwin$Net;", Cond.methodLink RX1 53 yX1_not, Cond.static yX1_not, Cond.initialized RX1, Cond.code yX1_not cX1_not 1 (some .int), Cond.instanceMethod yX0_both, Cond.initialized RX0, Cond.selects RX0 yX0_both yX0_both, Cond.code yX0_both cX0_both 3 (some .int), Cond.methodLink RX0 42 yX0_holds, Cond.instanceMethod yX0_holds, Cond.selects RX0 yX0_holds yX0_holds, Cond.code yX0_holds cX0_holds 2 (some .boolean), Cond.fieldLink RX0 32 "NetTwin$Net" "nodeCount" "I", Cond.methodLink RX0 50 yX0_gateOf, Cond.instanceMethod yX0_gateOf, Cond.selects RX0 yX0_gateOf yX0_gateOf, Cond.code yX0_gateOf cX0_gateOf 4 (some .int), Cond.fieldLink RX0 18 "NetTwin$Net" "lesser" "[I", Cond.fieldLink RX0 22 "NetTwin$Net" "other" "[I", Cond.fieldLink RX0 35 "NetTwin$Net" "inputCount" "I", Cond.fieldLink RX0 15 "NetTwin$Net" "mostGates" "I", Cond.methodLink RX0 38 yX0_addNode, Cond.instanceMethod yX0_addNode]
def wsX1_xor_r2 : List Cond := [Cond.selects RX0 yX0_addNode yX0_addNode, Cond.code yX0_addNode cX0_addNode 4 (some .int), Cond.instanceMethod yX0_either, Cond.selects RX0 yX0_either yX0_either, Cond.code yX0_either cX0_either 3 (some .int), Cond.methodLink RX0 53 yX0_both]
def wsX1_xor : List Cond := .code yX1_xor cX1_xor 5 (some .int) :: ((wsX1_xor_r1 ++ wsX1_xor_r2) ++ wsX10 ++ wsX00)
def wsX1_choose_r1 : List Cond := [Cond.fieldLink RX1 14 "NetTwin" "net" "LNetTwin$Net;", Cond.instanceMethod yX0_holds, Cond.initialized RX0, Cond.selects RX0 yX0_holds yX0_holds, Cond.code yX0_holds cX0_holds 2 (some .boolean), Cond.fieldLink RX0 32 "NetTwin$Net" "nodeCount" "I", Cond.instanceMethod yX0_both, Cond.selects RX0 yX0_both yX0_both, Cond.code yX0_both cX0_both 3 (some .int), Cond.methodLink RX0 42 yX0_holds, Cond.static yX1_not, Cond.initialized RX1, Cond.code yX1_not cX1_not 1 (some .int), Cond.methodLink RX0 50 yX0_gateOf, Cond.instanceMethod yX0_gateOf, Cond.selects RX0 yX0_gateOf yX0_gateOf, Cond.code yX0_gateOf cX0_gateOf 4 (some .int), Cond.fieldLink RX0 18 "NetTwin$Net" "lesser" "[I", Cond.fieldLink RX0 22 "NetTwin$Net" "other" "[I", Cond.fieldLink RX0 35 "NetTwin$Net" "inputCount" "I", Cond.fieldLink RX0 15 "NetTwin$Net" "mostGates" "I", Cond.methodLink RX0 38 yX0_addNode, Cond.instanceMethod yX0_addNode, Cond.selects RX0 yX0_addNode yX0_addNode]
def wsX1_choose_r2 : List Cond := [Cond.code yX0_addNode cX0_addNode 4 (some .int), Cond.methodLink RX1 53 yX1_not, Cond.instanceMethod yX0_either, Cond.selects RX0 yX0_either yX0_either, Cond.code yX0_either cX0_either 3 (some .int), Cond.methodLink RX0 53 yX0_both]
def wsX1_choose : List Cond := .code yX1_choose cX1_choose 6 (some .int) :: ((wsX1_choose_r1 ++ wsX1_choose_r2) ++ wsX10 ++ wsX00)
def wsX1_twinStands : List Cond := .code yX1_twinStands cX1_twinStands 1 (some .boolean) :: ([.fieldLink RX1 21 "NetTwin" "twinnedNodes" "I", .fieldLink RX1 14 "NetTwin" "net" "LNetTwin$Net;"] ++ wsX10 ++ wsX00)
def wsX1_nodes : List Cond := .code yX1_nodes cX1_nodes 2 (some .int) :: ([.fieldLink RX1 14 "NetTwin" "net" "LNetTwin$Net;", .fieldLink RX1 18 "NetTwin" "twin" "LNetTwin$Net;", .methodLink RX1 64 yX1_twinStands, .instanceMethod yX1_twinStands, .selects RX1 yX1_twinStands yX1_twinStands, .initialized RX1, .code yX1_twinStands cX1_twinStands 1 (some .boolean), .fieldLink RX1 21 "NetTwin" "twinnedNodes" "I"] ++ wsX10 ++ wsX00)
def wsX1_gate : List Cond := .code yX1_gate cX1_gate 5 (some .int) :: ([.fieldLink RX1 18 "NetTwin" "twin" "LNetTwin$Net;", .fieldLink RX1 14 "NetTwin" "net" "LNetTwin$Net;", .methodLink RX1 68 yX1_nodes, .instanceMethod yX1_nodes, .selects RX1 yX1_nodes yX1_nodes, .initialized RX1, .code yX1_nodes cX1_nodes 2 (some .int), .methodLink RX1 64 yX1_twinStands, .instanceMethod yX1_twinStands, .selects RX1 yX1_twinStands yX1_twinStands, .code yX1_twinStands cX1_twinStands 1 (some .boolean), .fieldLink RX1 21 "NetTwin" "twinnedNodes" "I"] ++ wsX10 ++ wsX00)
def wsX1_twinInputs : List Cond := .code yX1_twinInputs cX1_twinInputs 2 none :: ([.fieldLink RX1 25 "NetTwin" "valueLiteral" "[I", .fieldLink RX1 29 "NetTwin" "taintLiteral" "[I", .fieldLink RX1 14 "NetTwin" "net" "LNetTwin$Net;", .fieldLink RX1 18 "NetTwin" "twin" "LNetTwin$Net;", .instanceMethod yX0_addInput, .initialized RX0, .selects RX0 yX0_addInput yX0_addInput, .code yX0_addInput cX0_addInput 1 (some .int), .fieldLink RX0 35 "NetTwin$Net" "inputCount" "I", .fieldLink RX0 9 "NetTwin$Net" "mostInputs" "I", .fieldLink RX0 25 "NetTwin$Net" "inputNode" "[I", .fieldLink RX0 32 "NetTwin$Net" "nodeCount" "I", .methodLink RX0 38 yX0_addNode, .instanceMethod yX0_addNode, .selects RX0 yX0_addNode yX0_addNode, .code yX0_addNode cX0_addNode 4 (some .int), .fieldLink RX0 18 "NetTwin$Net" "lesser" "[I", .fieldLink RX0 22 "NetTwin$Net" "other" "[I"] ++ wsX10 ++ wsX00)
def wsX1_valueInTwin : List Cond := .code yX1_valueInTwin cX1_valueInTwin 3 (some .int) :: ([.fieldLink RX1 25 "NetTwin" "valueLiteral" "[I", .methodLink RX1 53 yX1_not, .static yX1_not, .initialized RX1, .code yX1_not cX1_not 1 (some .int)] ++ wsX10)
def wsX1_twinGate_r1 : List Cond := [Cond.fieldLink RX1 14 "NetTwin" "net" "LNetTwin$Net;", Cond.fieldLink RX1 29 "NetTwin" "taintLiteral" "[I", Cond.fieldLink RX1 18 "NetTwin" "twin" "LNetTwin$Net;", Cond.fieldLink RX1 25 "NetTwin" "valueLiteral" "[I", Cond.methodLink RX1 81 yX1_valueInTwin, Cond.instanceMethod yX1_valueInTwin, Cond.selects RX1 yX1_valueInTwin yX1_valueInTwin, Cond.initialized RX1, Cond.code yX1_valueInTwin cX1_valueInTwin 3 (some .int), Cond.methodLink RX1 53 yX1_not, Cond.static yX1_not, Cond.code yX1_not cX1_not 1 (some .int), Cond.instanceMethod yX0_both, Cond.initialized RX0, Cond.selects RX0 yX0_both yX0_both, Cond.code yX0_both cX0_both 3 (some .int), Cond.methodLink RX0 42 yX0_holds, Cond.instanceMethod yX0_holds, Cond.selects RX0 yX0_holds yX0_holds, Cond.code yX0_holds cX0_holds 2 (some .boolean), Cond.fieldLink RX0 32 "NetTwin$Net" "nodeCount" "I", Cond.methodLink RX0 50 yX0_gateOf, Cond.instanceMethod yX0_gateOf, Cond.selects RX0 yX0_gateOf yX0_gateOf]
def wsX1_twinGate_r2 : List Cond := [Cond.code yX0_gateOf cX0_gateOf 4 (some .int), Cond.fieldLink RX0 18 "NetTwin$Net" "lesser" "[I", Cond.fieldLink RX0 22 "NetTwin$Net" "other" "[I", Cond.fieldLink RX0 35 "NetTwin$Net" "inputCount" "I", Cond.fieldLink RX0 15 "NetTwin$Net" "mostGates" "I", Cond.methodLink RX0 38 yX0_addNode, Cond.instanceMethod yX0_addNode, Cond.selects RX0 yX0_addNode yX0_addNode, Cond.code yX0_addNode cX0_addNode 4 (some .int), Cond.instanceMethod yX0_either, Cond.selects RX0 yX0_either yX0_either, Cond.code yX0_either cX0_either 3 (some .int), Cond.methodLink RX0 53 yX0_both]
def wsX1_twinGate : List Cond := .code yX1_twinGate cX1_twinGate 12 (some .boolean) :: ((wsX1_twinGate_r1 ++ wsX1_twinGate_r2) ++ wsX10 ++ wsX00)
def wsX1_buildTwin_r1 : List Cond := [Cond.fieldLink RX1 18 "NetTwin" "twin" "LNetTwin$Net;", Cond.fieldLink RX1 14 "NetTwin" "net" "LNetTwin$Net;", Cond.instanceMethod yX0_clear, Cond.initialized RX0, Cond.selects RX0 yX0_clear yX0_clear, Cond.code yX0_clear cX0_clear 1 none, Cond.fieldLink RX0 32 "NetTwin$Net" "nodeCount" "I", Cond.fieldLink RX0 35 "NetTwin$Net" "inputCount" "I", Cond.methodLink RX1 117 yX1_twinInputs, Cond.instanceMethod yX1_twinInputs, Cond.selects RX1 yX1_twinInputs yX1_twinInputs, Cond.initialized RX1, Cond.code yX1_twinInputs cX1_twinInputs 2 none, Cond.fieldLink RX1 25 "NetTwin" "valueLiteral" "[I", Cond.fieldLink RX1 29 "NetTwin" "taintLiteral" "[I", Cond.instanceMethod yX0_addInput, Cond.selects RX0 yX0_addInput yX0_addInput, Cond.code yX0_addInput cX0_addInput 1 (some .int), Cond.fieldLink RX0 9 "NetTwin$Net" "mostInputs" "I", Cond.fieldLink RX0 25 "NetTwin$Net" "inputNode" "[I", Cond.methodLink RX0 38 yX0_addNode, Cond.instanceMethod yX0_addNode, Cond.selects RX0 yX0_addNode yX0_addNode, Cond.code yX0_addNode cX0_addNode 4 (some .int)]
def wsX1_buildTwin_r2 : List Cond := [Cond.fieldLink RX0 18 "NetTwin$Net" "lesser" "[I", Cond.fieldLink RX0 22 "NetTwin$Net" "other" "[I", Cond.instanceMethod yX0_isGate, Cond.selects RX0 yX0_isGate yX0_isGate, Cond.code yX0_isGate cX0_isGate 2 (some .boolean), Cond.methodLink RX1 123 yX1_twinGate, Cond.instanceMethod yX1_twinGate, Cond.selects RX1 yX1_twinGate yX1_twinGate, Cond.code yX1_twinGate cX1_twinGate 12 (some .boolean), Cond.methodLink RX1 81 yX1_valueInTwin, Cond.instanceMethod yX1_valueInTwin, Cond.selects RX1 yX1_valueInTwin yX1_valueInTwin, Cond.code yX1_valueInTwin cX1_valueInTwin 3 (some .int), Cond.methodLink RX1 53 yX1_not, Cond.static yX1_not, Cond.code yX1_not cX1_not 1 (some .int), Cond.instanceMethod yX0_both, Cond.selects RX0 yX0_both yX0_both, Cond.code yX0_both cX0_both 3 (some .int), Cond.methodLink RX0 42 yX0_holds, Cond.instanceMethod yX0_holds, Cond.selects RX0 yX0_holds yX0_holds, Cond.code yX0_holds cX0_holds 2 (some .boolean), Cond.methodLink RX0 50 yX0_gateOf]
def wsX1_buildTwin_r3 : List Cond := [Cond.instanceMethod yX0_gateOf, Cond.selects RX0 yX0_gateOf yX0_gateOf, Cond.code yX0_gateOf cX0_gateOf 4 (some .int), Cond.fieldLink RX0 15 "NetTwin$Net" "mostGates" "I", Cond.instanceMethod yX0_either, Cond.selects RX0 yX0_either yX0_either, Cond.code yX0_either cX0_either 3 (some .int), Cond.methodLink RX0 53 yX0_both]
def wsX1_buildTwin : List Cond := .code yX1_buildTwin cX1_buildTwin 2 (some .boolean) :: ((wsX1_buildTwin_r1 ++ (wsX1_buildTwin_r2 ++ wsX1_buildTwin_r3)) ++ wsX10 ++ wsX00)
def wsX1_twin_r1 : List Cond := [Cond.fieldLink RX1 14 "NetTwin" "net" "LNetTwin$Net;", Cond.fieldLink RX1 21 "NetTwin" "twinnedNodes" "I", Cond.fieldLink RX1 18 "NetTwin" "twin" "LNetTwin$Net;", Cond.methodLink RX1 64 yX1_twinStands, Cond.instanceMethod yX1_twinStands, Cond.selects RX1 yX1_twinStands yX1_twinStands, Cond.initialized RX1, Cond.code yX1_twinStands cX1_twinStands 1 (some .boolean), Cond.methodLink RX1 78 yX1_buildTwin, Cond.instanceMethod yX1_buildTwin, Cond.selects RX1 yX1_buildTwin yX1_buildTwin, Cond.code yX1_buildTwin cX1_buildTwin 2 (some .boolean), Cond.instanceMethod yX0_clear, Cond.initialized RX0, Cond.selects RX0 yX0_clear yX0_clear, Cond.code yX0_clear cX0_clear 1 none, Cond.fieldLink RX0 32 "NetTwin$Net" "nodeCount" "I", Cond.fieldLink RX0 35 "NetTwin$Net" "inputCount" "I", Cond.methodLink RX1 117 yX1_twinInputs, Cond.instanceMethod yX1_twinInputs, Cond.selects RX1 yX1_twinInputs yX1_twinInputs, Cond.code yX1_twinInputs cX1_twinInputs 2 none, Cond.fieldLink RX1 25 "NetTwin" "valueLiteral" "[I", Cond.fieldLink RX1 29 "NetTwin" "taintLiteral" "[I"]
def wsX1_twin_r2 : List Cond := [Cond.instanceMethod yX0_addInput, Cond.selects RX0 yX0_addInput yX0_addInput, Cond.code yX0_addInput cX0_addInput 1 (some .int), Cond.fieldLink RX0 9 "NetTwin$Net" "mostInputs" "I", Cond.fieldLink RX0 25 "NetTwin$Net" "inputNode" "[I", Cond.methodLink RX0 38 yX0_addNode, Cond.instanceMethod yX0_addNode, Cond.selects RX0 yX0_addNode yX0_addNode, Cond.code yX0_addNode cX0_addNode 4 (some .int), Cond.fieldLink RX0 18 "NetTwin$Net" "lesser" "[I", Cond.fieldLink RX0 22 "NetTwin$Net" "other" "[I", Cond.instanceMethod yX0_isGate, Cond.selects RX0 yX0_isGate yX0_isGate, Cond.code yX0_isGate cX0_isGate 2 (some .boolean), Cond.methodLink RX1 123 yX1_twinGate, Cond.instanceMethod yX1_twinGate, Cond.selects RX1 yX1_twinGate yX1_twinGate, Cond.code yX1_twinGate cX1_twinGate 12 (some .boolean), Cond.methodLink RX1 81 yX1_valueInTwin, Cond.instanceMethod yX1_valueInTwin, Cond.selects RX1 yX1_valueInTwin yX1_valueInTwin, Cond.code yX1_valueInTwin cX1_valueInTwin 3 (some .int), Cond.methodLink RX1 53 yX1_not, Cond.static yX1_not]
def wsX1_twin_r3 : List Cond := [Cond.code yX1_not cX1_not 1 (some .int), Cond.instanceMethod yX0_both, Cond.selects RX0 yX0_both yX0_both, Cond.code yX0_both cX0_both 3 (some .int), Cond.methodLink RX0 42 yX0_holds, Cond.instanceMethod yX0_holds, Cond.selects RX0 yX0_holds yX0_holds, Cond.code yX0_holds cX0_holds 2 (some .boolean), Cond.methodLink RX0 50 yX0_gateOf, Cond.instanceMethod yX0_gateOf, Cond.selects RX0 yX0_gateOf yX0_gateOf, Cond.code yX0_gateOf cX0_gateOf 4 (some .int), Cond.fieldLink RX0 15 "NetTwin$Net" "mostGates" "I", Cond.instanceMethod yX0_either, Cond.selects RX0 yX0_either yX0_either, Cond.code yX0_either cX0_either 3 (some .int), Cond.methodLink RX0 53 yX0_both]
def wsX1_twin : List Cond := .code yX1_twin cX1_twin 1 (some .int) :: ((wsX1_twin_r1 ++ (wsX1_twin_r2 ++ wsX1_twin_r3)) ++ wsX10 ++ wsX00)
def wsX1_twinOf : List Cond := .code yX1_twinOf cX1_twinOf 3 (some .int) :: ([.fieldLink RX1 14 "NetTwin" "net" "LNetTwin$Net;", .fieldLink RX1 29 "NetTwin" "taintLiteral" "[I", .methodLink RX1 64 yX1_twinStands, .instanceMethod yX1_twinStands, .selects RX1 yX1_twinStands yX1_twinStands, .initialized RX1, .code yX1_twinStands cX1_twinStands 1 (some .boolean), .fieldLink RX1 21 "NetTwin" "twinnedNodes" "I", .instanceMethod yX0_holds, .initialized RX0, .selects RX0 yX0_holds yX0_holds, .code yX0_holds cX0_holds 2 (some .boolean), .fieldLink RX0 32 "NetTwin$Net" "nodeCount" "I", .methodLink RX1 81 yX1_valueInTwin, .instanceMethod yX1_valueInTwin, .selects RX1 yX1_valueInTwin yX1_valueInTwin, .code yX1_valueInTwin cX1_valueInTwin 3 (some .int), .fieldLink RX1 25 "NetTwin" "valueLiteral" "[I", .methodLink RX1 53 yX1_not, .static yX1_not, .code yX1_not cX1_not 1 (some .int)] ++ wsX10 ++ wsX00)
def wsX1_set : List Cond := .code yX1_set cX1_set 6 (some .int) :: ([.fieldLink RX1 14 "NetTwin" "net" "LNetTwin$Net;", .fieldLink RX1 35 "NetTwin" "inputTaint" "[I", .fieldLink RX1 32 "NetTwin" "inputBit" "[I"] ++ wsX10 ++ wsX00)
def wsX1_wordOfBit : List Cond := .code yX1_wordOfBit cX1_wordOfBit 1 (some .long) :: ([.constantLong RX1 142 (-1)])
def wsX1_spreadTwin_r1 : List Cond := [Cond.fieldLink RX1 14 "NetTwin" "net" "LNetTwin$Net;", Cond.fieldLink RX1 18 "NetTwin" "twin" "LNetTwin$Net;", Cond.fieldLink RX1 32 "NetTwin" "inputBit" "[I", Cond.fieldLink RX1 35 "NetTwin" "inputTaint" "[I", Cond.methodLink RX1 132 yX1_wordOfBit, Cond.static yX1_wordOfBit, Cond.initialized RX1, Cond.code yX1_wordOfBit cX1_wordOfBit 1 (some .long), Cond.constantLong RX1 142 (-1), Cond.instanceMethod yX0_spread, Cond.initialized RX0, Cond.selects RX0 yX0_spread yX0_spread, Cond.code yX0_spread cX0_spread 2 none, Cond.fieldLink RX0 32 "NetTwin$Net" "nodeCount" "I", Cond.fieldLink RX0 28 "NetTwin$Net" "word" "[J", Cond.fieldLink RX0 18 "NetTwin$Net" "lesser" "[I", Cond.fieldLink RX0 22 "NetTwin$Net" "other" "[I", Cond.methodLink RX0 58 yX0_isGate, Cond.instanceMethod yX0_isGate, Cond.selects RX0 yX0_isGate yX0_isGate, Cond.code yX0_isGate cX0_isGate 2 (some .boolean), Cond.methodLink RX0 61 yX0_wordOf, Cond.instanceMethod yX0_wordOf, Cond.selects RX0 yX0_wordOf yX0_wordOf]
def wsX1_spreadTwin_r2 : List Cond := [Cond.code yX0_wordOf cX0_wordOf 4 (some .long), Cond.constantLong RX0 56 (-1)]
def wsX1_spreadTwin : List Cond := .code yX1_spreadTwin cX1_spreadTwin 3 none :: ((wsX1_spreadTwin_r1 ++ wsX1_spreadTwin_r2) ++ wsX10 ++ wsX00)
def wsX1_bitOf : List Cond := .code yX1_bitOf cX1_bitOf 2 (some .int) :: ([])
def wsX1_spreadNet : List Cond := .code yX1_spreadNet cX1_spreadNet 2 none :: ([.fieldLink RX1 14 "NetTwin" "net" "LNetTwin$Net;", .fieldLink RX1 32 "NetTwin" "inputBit" "[I", .methodLink RX1 132 yX1_wordOfBit, .static yX1_wordOfBit, .initialized RX1, .code yX1_wordOfBit cX1_wordOfBit 1 (some .long), .constantLong RX1 142 (-1), .instanceMethod yX0_spread, .initialized RX0, .selects RX0 yX0_spread yX0_spread, .code yX0_spread cX0_spread 2 none, .fieldLink RX0 32 "NetTwin$Net" "nodeCount" "I", .fieldLink RX0 28 "NetTwin$Net" "word" "[J", .fieldLink RX0 18 "NetTwin$Net" "lesser" "[I", .fieldLink RX0 22 "NetTwin$Net" "other" "[I", .methodLink RX0 58 yX0_isGate, .instanceMethod yX0_isGate, .selects RX0 yX0_isGate yX0_isGate, .code yX0_isGate cX0_isGate 2 (some .boolean), .methodLink RX0 61 yX0_wordOf, .instanceMethod yX0_wordOf, .selects RX0 yX0_wordOf yX0_wordOf, .code yX0_wordOf cX0_wordOf 4 (some .long), .constantLong RX0 56 (-1)] ++ wsX10 ++ wsX00)
def wsX1_bit_r1 : List Cond := [Cond.fieldLink RX1 18 "NetTwin" "twin" "LNetTwin$Net;", Cond.fieldLink RX1 14 "NetTwin" "net" "LNetTwin$Net;", Cond.methodLink RX1 64 yX1_twinStands, Cond.instanceMethod yX1_twinStands, Cond.selects RX1 yX1_twinStands yX1_twinStands, Cond.initialized RX1, Cond.code yX1_twinStands cX1_twinStands 1 (some .boolean), Cond.fieldLink RX1 21 "NetTwin" "twinnedNodes" "I", Cond.instanceMethod yX0_holds, Cond.initialized RX0, Cond.selects RX0 yX0_holds yX0_holds, Cond.code yX0_holds cX0_holds 2 (some .boolean), Cond.fieldLink RX0 32 "NetTwin$Net" "nodeCount" "I", Cond.methodLink RX1 87 yX1_spreadTwin, Cond.instanceMethod yX1_spreadTwin, Cond.selects RX1 yX1_spreadTwin yX1_spreadTwin, Cond.code yX1_spreadTwin cX1_spreadTwin 3 none, Cond.fieldLink RX1 32 "NetTwin" "inputBit" "[I", Cond.fieldLink RX1 35 "NetTwin" "inputTaint" "[I", Cond.methodLink RX1 132 yX1_wordOfBit, Cond.static yX1_wordOfBit, Cond.code yX1_wordOfBit cX1_wordOfBit 1 (some .long), Cond.constantLong RX1 142 (-1), Cond.instanceMethod yX0_spread]
def wsX1_bit_r2 : List Cond := [Cond.selects RX0 yX0_spread yX0_spread, Cond.code yX0_spread cX0_spread 2 none, Cond.fieldLink RX0 28 "NetTwin$Net" "word" "[J", Cond.fieldLink RX0 18 "NetTwin$Net" "lesser" "[I", Cond.fieldLink RX0 22 "NetTwin$Net" "other" "[I", Cond.methodLink RX0 58 yX0_isGate, Cond.instanceMethod yX0_isGate, Cond.selects RX0 yX0_isGate yX0_isGate, Cond.code yX0_isGate cX0_isGate 2 (some .boolean), Cond.methodLink RX0 61 yX0_wordOf, Cond.instanceMethod yX0_wordOf, Cond.selects RX0 yX0_wordOf yX0_wordOf, Cond.code yX0_wordOf cX0_wordOf 4 (some .long), Cond.constantLong RX0 56 (-1), Cond.methodLink RX1 94 yX1_bitOf, Cond.static yX1_bitOf, Cond.code yX1_bitOf cX1_bitOf 2 (some .int), Cond.methodLink RX1 98 yX1_spreadNet, Cond.instanceMethod yX1_spreadNet, Cond.selects RX1 yX1_spreadNet yX1_spreadNet, Cond.code yX1_spreadNet cX1_spreadNet 2 none]
def wsX1_bit : List Cond := .code yX1_bit cX1_bit 3 (some .int) :: ((wsX1_bit_r1 ++ wsX1_bit_r2) ++ wsX10 ++ wsX00)
def wsX1_spreadTaints : List Cond := .code yX1_spreadTaints cX1_spreadTaints 8 none :: ([.fieldLink RX1 14 "NetTwin" "net" "LNetTwin$Net;", .fieldLink RX1 38 "NetTwin" "taintWord" "[J", .fieldLink RX1 35 "NetTwin" "inputTaint" "[I", .methodLink RX1 132 yX1_wordOfBit, .static yX1_wordOfBit, .initialized RX1, .code yX1_wordOfBit cX1_wordOfBit 1 (some .long), .constantLong RX1 142 (-1), .instanceMethod yX0_isGate, .initialized RX0, .selects RX0 yX0_isGate yX0_isGate, .code yX0_isGate cX0_isGate 2 (some .boolean), .fieldLink RX0 18 "NetTwin$Net" "lesser" "[I", .instanceMethod yX0_wordOf, .selects RX0 yX0_wordOf yX0_wordOf, .code yX0_wordOf cX0_wordOf 4 (some .long), .fieldLink RX0 28 "NetTwin$Net" "word" "[J", .constantLong RX0 56 (-1)] ++ wsX10 ++ wsX00)
def wsX1_taint_r1 : List Cond := [Cond.fieldLink RX1 14 "NetTwin" "net" "LNetTwin$Net;", Cond.fieldLink RX1 38 "NetTwin" "taintWord" "[J", Cond.instanceMethod yX0_holds, Cond.initialized RX0, Cond.selects RX0 yX0_holds yX0_holds, Cond.code yX0_holds cX0_holds 2 (some .boolean), Cond.fieldLink RX0 32 "NetTwin$Net" "nodeCount" "I", Cond.methodLink RX1 98 yX1_spreadNet, Cond.instanceMethod yX1_spreadNet, Cond.selects RX1 yX1_spreadNet yX1_spreadNet, Cond.initialized RX1, Cond.code yX1_spreadNet cX1_spreadNet 2 none, Cond.fieldLink RX1 32 "NetTwin" "inputBit" "[I", Cond.methodLink RX1 132 yX1_wordOfBit, Cond.static yX1_wordOfBit, Cond.code yX1_wordOfBit cX1_wordOfBit 1 (some .long), Cond.constantLong RX1 142 (-1), Cond.instanceMethod yX0_spread, Cond.selects RX0 yX0_spread yX0_spread, Cond.code yX0_spread cX0_spread 2 none, Cond.fieldLink RX0 28 "NetTwin$Net" "word" "[J", Cond.fieldLink RX0 18 "NetTwin$Net" "lesser" "[I", Cond.fieldLink RX0 22 "NetTwin$Net" "other" "[I", Cond.methodLink RX0 58 yX0_isGate]
def wsX1_taint_r2 : List Cond := [Cond.instanceMethod yX0_isGate, Cond.selects RX0 yX0_isGate yX0_isGate, Cond.code yX0_isGate cX0_isGate 2 (some .boolean), Cond.methodLink RX0 61 yX0_wordOf, Cond.instanceMethod yX0_wordOf, Cond.selects RX0 yX0_wordOf yX0_wordOf, Cond.code yX0_wordOf cX0_wordOf 4 (some .long), Cond.constantLong RX0 56 (-1), Cond.methodLink RX1 101 yX1_spreadTaints, Cond.instanceMethod yX1_spreadTaints, Cond.selects RX1 yX1_spreadTaints yX1_spreadTaints, Cond.code yX1_spreadTaints cX1_spreadTaints 8 none, Cond.fieldLink RX1 35 "NetTwin" "inputTaint" "[I", Cond.methodLink RX1 94 yX1_bitOf, Cond.static yX1_bitOf, Cond.code yX1_bitOf cX1_bitOf 2 (some .int)]
def wsX1_taint : List Cond := .code yX1_taint cX1_taint 2 (some .int) :: ((wsX1_taint_r1 ++ wsX1_taint_r2) ++ wsX10 ++ wsX00)
def wsX1_countTainted : List Cond := .code yX1_countTainted cX1_countTainted 3 (some .int) :: ([.fieldLink RX1 14 "NetTwin" "net" "LNetTwin$Net;", .fieldLink RX1 35 "NetTwin" "inputTaint" "[I"] ++ wsX10 ++ wsX00)
def wsX1_settingsOf : List Cond := .code yX1_settingsOf cX1_settingsOf 2 (some .long) :: ([.fieldLink RX1 139 "NetTwin" "SETTINGS" "[J", .methodLink RX1 132 yX1_wordOfBit, .static yX1_wordOfBit, .initialized RX1, .code yX1_wordOfBit cX1_wordOfBit 1 (some .long), .constantLong RX1 142 (-1)])
def wsX1_setTaintedInputs : List Cond := .code yX1_setTaintedInputs cX1_setTaintedInputs 4 none :: ([.fieldLink RX1 14 "NetTwin" "net" "LNetTwin$Net;", .fieldLink RX1 35 "NetTwin" "inputTaint" "[I", .methodLink RX1 135 yX1_settingsOf, .static yX1_settingsOf, .initialized RX1, .code yX1_settingsOf cX1_settingsOf 2 (some .long), .fieldLink RX1 139 "NetTwin" "SETTINGS" "[J", .methodLink RX1 132 yX1_wordOfBit, .static yX1_wordOfBit, .code yX1_wordOfBit cX1_wordOfBit 1 (some .long), .constantLong RX1 142 (-1)] ++ wsX10 ++ wsX00)
def wsX1_hangs_r1 : List Cond := [Cond.fieldLink RX1 14 "NetTwin" "net" "LNetTwin$Net;", Cond.instanceMethod yX0_holds, Cond.initialized RX0, Cond.selects RX0 yX0_holds yX0_holds, Cond.code yX0_holds cX0_holds 2 (some .boolean), Cond.fieldLink RX0 32 "NetTwin$Net" "nodeCount" "I", Cond.methodLink RX1 104 yX1_countTainted, Cond.instanceMethod yX1_countTainted, Cond.selects RX1 yX1_countTainted yX1_countTainted, Cond.initialized RX1, Cond.code yX1_countTainted cX1_countTainted 3 (some .int), Cond.fieldLink RX1 35 "NetTwin" "inputTaint" "[I", Cond.methodLink RX1 98 yX1_spreadNet, Cond.instanceMethod yX1_spreadNet, Cond.selects RX1 yX1_spreadNet yX1_spreadNet, Cond.code yX1_spreadNet cX1_spreadNet 2 none, Cond.fieldLink RX1 32 "NetTwin" "inputBit" "[I", Cond.methodLink RX1 132 yX1_wordOfBit, Cond.static yX1_wordOfBit, Cond.code yX1_wordOfBit cX1_wordOfBit 1 (some .long), Cond.constantLong RX1 142 (-1), Cond.instanceMethod yX0_spread, Cond.selects RX0 yX0_spread yX0_spread, Cond.code yX0_spread cX0_spread 2 none]
def wsX1_hangs_r2 : List Cond := [Cond.fieldLink RX0 28 "NetTwin$Net" "word" "[J", Cond.fieldLink RX0 18 "NetTwin$Net" "lesser" "[I", Cond.fieldLink RX0 22 "NetTwin$Net" "other" "[I", Cond.methodLink RX0 58 yX0_isGate, Cond.instanceMethod yX0_isGate, Cond.selects RX0 yX0_isGate yX0_isGate, Cond.code yX0_isGate cX0_isGate 2 (some .boolean), Cond.methodLink RX0 61 yX0_wordOf, Cond.instanceMethod yX0_wordOf, Cond.selects RX0 yX0_wordOf yX0_wordOf, Cond.code yX0_wordOf cX0_wordOf 4 (some .long), Cond.constantLong RX0 56 (-1), Cond.methodLink RX1 107 yX1_setTaintedInputs, Cond.instanceMethod yX1_setTaintedInputs, Cond.selects RX1 yX1_setTaintedInputs yX1_setTaintedInputs, Cond.code yX1_setTaintedInputs cX1_setTaintedInputs 4 none, Cond.methodLink RX1 135 yX1_settingsOf, Cond.static yX1_settingsOf, Cond.code yX1_settingsOf cX1_settingsOf 2 (some .long), Cond.fieldLink RX1 139 "NetTwin" "SETTINGS" "[J"]
def wsX1_hangs : List Cond := .code yX1_hangs cX1_hangs 5 (some .int) :: ((wsX1_hangs_r1 ++ wsX1_hangs_r2) ++ wsX10 ++ wsX00)
def wsX2_more : List Cond := .code yX2_more cX2_more 2 (some (.array .int)) :: ([.arrayClass .int, .methodLink RX2 35 arraycopyName, .native arraycopyName, .static arraycopyName, .initialized "java/lang/System"])
def wsX2_add : List Cond := .code yX2_add cX2_add 3 (some .int) :: ([.fieldLink RX2 25 "NetTwinModel$Nodes" "count" "I", .fieldLink RX2 9 "NetTwinModel$Nodes" "left" "[I", .fieldLink RX2 15 "NetTwinModel$Nodes" "right" "[I", .methodLink RX2 41 yX2_more, .static yX2_more, .initialized RX2, .code yX2_more cX2_more 2 (some (.array .int)), .arrayClass .int, .methodLink RX2 35 arraycopyName, .native arraycopyName, .static arraycopyName, .initialized "java/lang/System"] ++ wsX20)
def wsX2_begin : List Cond := .code yX2_begin cX2_begin 1 none :: ([.fieldLink RX2 25 "NetTwinModel$Nodes" "count" "I", .fieldLink RX2 28 "NetTwinModel$Nodes" "gates" "I", .methodLink RX2 31 yX2_add, .instanceMethod yX2_add, .selects RX2 yX2_add yX2_add, .initialized RX2, .code yX2_add cX2_add 3 (some .int), .fieldLink RX2 9 "NetTwinModel$Nodes" "left" "[I", .fieldLink RX2 15 "NetTwinModel$Nodes" "right" "[I", .methodLink RX2 41 yX2_more, .static yX2_more, .code yX2_more cX2_more 2 (some (.array .int)), .arrayClass .int, .methodLink RX2 35 arraycopyName, .native arraycopyName, .static arraycopyName, .initialized "java/lang/System"] ++ wsX20)
def wsX2_init_r1 : List Cond := [Cond.methodLink RX2 3 objectInit, Cond.instanceMethod objectInit, Cond.code objectInit ⟨#[0xb1]⟩ 1 none, Cond.arrayClass .int, Cond.fieldLink RX2 9 "NetTwinModel$Nodes" "left" "[I", Cond.fieldLink RX2 15 "NetTwinModel$Nodes" "right" "[I", Cond.fieldLink RX2 18 "NetTwinModel$Nodes" "most" "I", Cond.methodLink RX2 22 yX2_begin, Cond.instanceMethod yX2_begin, Cond.selects RX2 yX2_begin yX2_begin, Cond.initialized RX2, Cond.code yX2_begin cX2_begin 1 none, Cond.fieldLink RX2 25 "NetTwinModel$Nodes" "count" "I", Cond.fieldLink RX2 28 "NetTwinModel$Nodes" "gates" "I", Cond.methodLink RX2 31 yX2_add, Cond.instanceMethod yX2_add, Cond.selects RX2 yX2_add yX2_add, Cond.code yX2_add cX2_add 3 (some .int), Cond.methodLink RX2 41 yX2_more, Cond.static yX2_more, Cond.code yX2_more cX2_more 2 (some (.array .int)), Cond.methodLink RX2 35 arraycopyName, Cond.native arraycopyName, Cond.static arraycopyName]
def wsX2_init_r2 : List Cond := [Cond.initialized "java/lang/System"]
def wsX2_init : List Cond := .code yX2_init cX2_init 2 none :: ((wsX2_init_r1 ++ wsX2_init_r2) ++ wsX20)
def wsX2_has : List Cond := .code yX2_has cX2_has 2 (some .boolean) :: ([.fieldLink RX2 25 "NetTwinModel$Nodes" "count" "I"] ++ wsX20)
def wsX2_and : List Cond := .code yX2_and cX2_and 6 (some .int) :: ([.fieldLink RX2 25 "NetTwinModel$Nodes" "count" "I", .fieldLink RX2 9 "NetTwinModel$Nodes" "left" "[I", .fieldLink RX2 15 "NetTwinModel$Nodes" "right" "[I", .fieldLink RX2 28 "NetTwinModel$Nodes" "gates" "I", .fieldLink RX2 18 "NetTwinModel$Nodes" "most" "I", .methodLink RX2 31 yX2_add, .instanceMethod yX2_add, .selects RX2 yX2_add yX2_add, .initialized RX2, .code yX2_add cX2_add 3 (some .int), .methodLink RX2 41 yX2_more, .static yX2_more, .code yX2_more cX2_more 2 (some (.array .int)), .arrayClass .int, .methodLink RX2 35 arraycopyName, .native arraycopyName, .static arraycopyName, .initialized "java/lang/System"] ++ wsX20)
def wsX2_not : List Cond := .code yX2_not cX2_not 1 (some .int) :: ([])
def wsX2_or_r1 : List Cond := [Cond.methodLink RX2 45 yX2_not, Cond.static yX2_not, Cond.initialized RX2, Cond.code yX2_not cX2_not 1 (some .int), Cond.methodLink RX2 49 yX2_and, Cond.instanceMethod yX2_and, Cond.selects RX2 yX2_and yX2_and, Cond.code yX2_and cX2_and 6 (some .int), Cond.fieldLink RX2 25 "NetTwinModel$Nodes" "count" "I", Cond.fieldLink RX2 9 "NetTwinModel$Nodes" "left" "[I", Cond.fieldLink RX2 15 "NetTwinModel$Nodes" "right" "[I", Cond.fieldLink RX2 28 "NetTwinModel$Nodes" "gates" "I", Cond.fieldLink RX2 18 "NetTwinModel$Nodes" "most" "I", Cond.methodLink RX2 31 yX2_add, Cond.instanceMethod yX2_add, Cond.selects RX2 yX2_add yX2_add, Cond.code yX2_add cX2_add 3 (some .int), Cond.methodLink RX2 41 yX2_more, Cond.static yX2_more, Cond.code yX2_more cX2_more 2 (some (.array .int)), Cond.arrayClass .int, Cond.methodLink RX2 35 arraycopyName, Cond.native arraycopyName, Cond.static arraycopyName]
def wsX2_or_r2 : List Cond := [Cond.initialized "java/lang/System"]
def wsX2_or : List Cond := .code yX2_or cX2_or 3 (some .int) :: ((wsX2_or_r1 ++ wsX2_or_r2) ++ wsX20)
def wsX2_xor_r1 : List Cond := [Cond.methodLink RX2 45 yX2_not, Cond.static yX2_not, Cond.initialized RX2, Cond.code yX2_not cX2_not 1 (some .int), Cond.methodLink RX2 49 yX2_and, Cond.instanceMethod yX2_and, Cond.selects RX2 yX2_and yX2_and, Cond.code yX2_and cX2_and 6 (some .int), Cond.fieldLink RX2 25 "NetTwinModel$Nodes" "count" "I", Cond.fieldLink RX2 9 "NetTwinModel$Nodes" "left" "[I", Cond.fieldLink RX2 15 "NetTwinModel$Nodes" "right" "[I", Cond.fieldLink RX2 28 "NetTwinModel$Nodes" "gates" "I", Cond.fieldLink RX2 18 "NetTwinModel$Nodes" "most" "I", Cond.methodLink RX2 31 yX2_add, Cond.instanceMethod yX2_add, Cond.selects RX2 yX2_add yX2_add, Cond.code yX2_add cX2_add 3 (some .int), Cond.methodLink RX2 41 yX2_more, Cond.static yX2_more, Cond.code yX2_more cX2_more 2 (some (.array .int)), Cond.arrayClass .int, Cond.methodLink RX2 35 arraycopyName, Cond.native arraycopyName, Cond.static arraycopyName]
def wsX2_xor_r2 : List Cond := [Cond.initialized "java/lang/System", Cond.methodLink RX2 52 yX2_or, Cond.instanceMethod yX2_or, Cond.selects RX2 yX2_or yX2_or, Cond.code yX2_or cX2_or 3 (some .int)]
def wsX2_xor : List Cond := .code yX2_xor cX2_xor 5 (some .int) :: ((wsX2_xor_r1 ++ wsX2_xor_r2) ++ wsX20)
def wsX2_choose_r1 : List Cond := [Cond.methodLink RX2 49 yX2_and, Cond.instanceMethod yX2_and, Cond.selects RX2 yX2_and yX2_and, Cond.initialized RX2, Cond.code yX2_and cX2_and 6 (some .int), Cond.fieldLink RX2 25 "NetTwinModel$Nodes" "count" "I", Cond.fieldLink RX2 9 "NetTwinModel$Nodes" "left" "[I", Cond.fieldLink RX2 15 "NetTwinModel$Nodes" "right" "[I", Cond.fieldLink RX2 28 "NetTwinModel$Nodes" "gates" "I", Cond.fieldLink RX2 18 "NetTwinModel$Nodes" "most" "I", Cond.methodLink RX2 31 yX2_add, Cond.instanceMethod yX2_add, Cond.selects RX2 yX2_add yX2_add, Cond.code yX2_add cX2_add 3 (some .int), Cond.methodLink RX2 41 yX2_more, Cond.static yX2_more, Cond.code yX2_more cX2_more 2 (some (.array .int)), Cond.arrayClass .int, Cond.methodLink RX2 35 arraycopyName, Cond.native arraycopyName, Cond.static arraycopyName, Cond.initialized "java/lang/System", Cond.methodLink RX2 45 yX2_not, Cond.static yX2_not]
def wsX2_choose_r2 : List Cond := [Cond.code yX2_not cX2_not 1 (some .int), Cond.methodLink RX2 52 yX2_or, Cond.instanceMethod yX2_or, Cond.selects RX2 yX2_or yX2_or, Cond.code yX2_or cX2_or 3 (some .int)]
def wsX2_choose : List Cond := .code yX2_choose cX2_choose 6 (some .int) :: ((wsX2_choose_r1 ++ wsX2_choose_r2) ++ wsX20)
def wsX3_init_r1 : List Cond := [Cond.methodLink RX3 1 objectInit, Cond.instanceMethod objectInit, Cond.code objectInit ⟨#[0xb1]⟩ 1 none, Cond.classLink RX3 7 RX2, Cond.instantiable RX2 5, Cond.initialized RX2, Cond.fieldLink RX3 14 "NetTwinModel" "net" "LNetTwinModel$Nodes;", Cond.fieldLink RX3 18 "NetTwinModel" "twin" "LNetTwinModel$Nodes;", Cond.arrayClass .int, Cond.fieldLink RX3 21 "NetTwinModel" "inputs" "[I", Cond.fieldLink RX3 25 "NetTwinModel" "bits" "[I", Cond.fieldLink RX3 28 "NetTwinModel" "taints" "[I", Cond.fieldLink RX3 31 "NetTwinModel" "valueOf" "[I", Cond.fieldLink RX3 34 "NetTwinModel" "taintOf" "[I", Cond.fieldLink RX3 37 "NetTwinModel" "now" "[I", Cond.fieldLink RX3 40 "NetTwinModel" "marks" "[I", Cond.methodLink RX3 11 yX2_init, Cond.instanceMethod yX2_init, Cond.code yX2_init cX2_init 2 none, Cond.methodLink RX2 3 objectInit, Cond.fieldLink RX2 9 "NetTwinModel$Nodes" "left" "[I", Cond.fieldLink RX2 15 "NetTwinModel$Nodes" "right" "[I", Cond.fieldLink RX2 18 "NetTwinModel$Nodes" "most" "I", Cond.methodLink RX2 22 yX2_begin]
def wsX3_init_r2 : List Cond := [Cond.instanceMethod yX2_begin, Cond.selects RX2 yX2_begin yX2_begin, Cond.code yX2_begin cX2_begin 1 none, Cond.fieldLink RX2 25 "NetTwinModel$Nodes" "count" "I", Cond.fieldLink RX2 28 "NetTwinModel$Nodes" "gates" "I", Cond.methodLink RX2 31 yX2_add, Cond.instanceMethod yX2_add, Cond.selects RX2 yX2_add yX2_add, Cond.code yX2_add cX2_add 3 (some .int), Cond.methodLink RX2 41 yX2_more, Cond.static yX2_more, Cond.code yX2_more cX2_more 2 (some (.array .int)), Cond.methodLink RX2 35 arraycopyName, Cond.native arraycopyName, Cond.static arraycopyName, Cond.initialized "java/lang/System"]
def wsX3_init : List Cond := .code yX3_init cX3_init 1 none :: ((wsX3_init_r1 ++ wsX3_init_r2) ++ wsX20 ++ wsX30)
def wsX3_input : List Cond := .code yX3_input cX3_input 1 (some .int) :: ([.fieldLink RX3 43 "NetTwinModel" "inputCount" "I", .fieldLink RX3 21 "NetTwinModel" "inputs" "[I", .fieldLink RX3 14 "NetTwinModel" "net" "LNetTwinModel$Nodes;", .fieldLink RX3 51 "NetTwinModel" "isTwin" "Z", .methodLink RX3 47 yX2_add, .instanceMethod yX2_add, .selects RX2 yX2_add yX2_add, .initialized RX2, .code yX2_add cX2_add 3 (some .int), .fieldLink RX2 25 "NetTwinModel$Nodes" "count" "I", .fieldLink RX2 9 "NetTwinModel$Nodes" "left" "[I", .fieldLink RX2 15 "NetTwinModel$Nodes" "right" "[I", .methodLink RX2 41 yX2_more, .static yX2_more, .code yX2_more cX2_more 2 (some (.array .int)), .arrayClass .int, .methodLink RX2 35 arraycopyName, .native arraycopyName, .static arraycopyName, .initialized "java/lang/System"] ++ wsX30 ++ wsX20)
def wsX3_made : List Cond := .code yX3_made cX3_made 3 (some .int) :: ([.fieldLink RX3 51 "NetTwinModel" "isTwin" "Z", .fieldLink RX3 14 "NetTwinModel" "net" "LNetTwinModel$Nodes;", .fieldLink RX3 55 "NetTwinModel$Nodes" "gates" "I"] ++ wsX30 ++ wsX20)
def wsX3_and_r1 : List Cond := [Cond.fieldLink RX3 14 "NetTwinModel" "net" "LNetTwinModel$Nodes;", Cond.fieldLink RX3 55 "NetTwinModel$Nodes" "gates" "I", Cond.methodLink RX3 58 yX2_has, Cond.instanceMethod yX2_has, Cond.selects RX2 yX2_has yX2_has, Cond.initialized RX2, Cond.code yX2_has cX2_has 2 (some .boolean), Cond.fieldLink RX2 25 "NetTwinModel$Nodes" "count" "I", Cond.methodLink RX3 62 yX2_and, Cond.instanceMethod yX2_and, Cond.selects RX2 yX2_and yX2_and, Cond.code yX2_and cX2_and 6 (some .int), Cond.fieldLink RX2 9 "NetTwinModel$Nodes" "left" "[I", Cond.fieldLink RX2 15 "NetTwinModel$Nodes" "right" "[I", Cond.fieldLink RX2 28 "NetTwinModel$Nodes" "gates" "I", Cond.fieldLink RX2 18 "NetTwinModel$Nodes" "most" "I", Cond.methodLink RX2 31 yX2_add, Cond.instanceMethod yX2_add, Cond.selects RX2 yX2_add yX2_add, Cond.code yX2_add cX2_add 3 (some .int), Cond.methodLink RX2 41 yX2_more, Cond.static yX2_more, Cond.code yX2_more cX2_more 2 (some (.array .int)), Cond.arrayClass .int]
def wsX3_and_r2 : List Cond := [Cond.methodLink RX2 35 arraycopyName, Cond.native arraycopyName, Cond.static arraycopyName, Cond.initialized "java/lang/System", Cond.methodLink RX3 65 yX3_made, Cond.instanceMethod yX3_made, Cond.selects RX3 yX3_made yX3_made, Cond.initialized RX3, Cond.code yX3_made cX3_made 3 (some .int), Cond.fieldLink RX3 51 "NetTwinModel" "isTwin" "Z"]
def wsX3_and : List Cond := .code yX3_and cX3_and 3 (some .int) :: ((wsX3_and_r1 ++ wsX3_and_r2) ++ wsX30 ++ wsX20)
def wsX3_or_r1 : List Cond := [Cond.fieldLink RX3 14 "NetTwinModel" "net" "LNetTwinModel$Nodes;", Cond.fieldLink RX3 55 "NetTwinModel$Nodes" "gates" "I", Cond.methodLink RX3 58 yX2_has, Cond.instanceMethod yX2_has, Cond.selects RX2 yX2_has yX2_has, Cond.initialized RX2, Cond.code yX2_has cX2_has 2 (some .boolean), Cond.fieldLink RX2 25 "NetTwinModel$Nodes" "count" "I", Cond.methodLink RX3 68 yX2_or, Cond.instanceMethod yX2_or, Cond.selects RX2 yX2_or yX2_or, Cond.code yX2_or cX2_or 3 (some .int), Cond.methodLink RX2 45 yX2_not, Cond.static yX2_not, Cond.code yX2_not cX2_not 1 (some .int), Cond.methodLink RX2 49 yX2_and, Cond.instanceMethod yX2_and, Cond.selects RX2 yX2_and yX2_and, Cond.code yX2_and cX2_and 6 (some .int), Cond.fieldLink RX2 9 "NetTwinModel$Nodes" "left" "[I", Cond.fieldLink RX2 15 "NetTwinModel$Nodes" "right" "[I", Cond.fieldLink RX2 28 "NetTwinModel$Nodes" "gates" "I", Cond.fieldLink RX2 18 "NetTwinModel$Nodes" "most" "I", Cond.methodLink RX2 31 yX2_add]
def wsX3_or_r2 : List Cond := [Cond.instanceMethod yX2_add, Cond.selects RX2 yX2_add yX2_add, Cond.code yX2_add cX2_add 3 (some .int), Cond.methodLink RX2 41 yX2_more, Cond.static yX2_more, Cond.code yX2_more cX2_more 2 (some (.array .int)), Cond.arrayClass .int, Cond.methodLink RX2 35 arraycopyName, Cond.native arraycopyName, Cond.static arraycopyName, Cond.initialized "java/lang/System", Cond.methodLink RX3 65 yX3_made, Cond.instanceMethod yX3_made, Cond.selects RX3 yX3_made yX3_made, Cond.initialized RX3, Cond.code yX3_made cX3_made 3 (some .int), Cond.fieldLink RX3 51 "NetTwinModel" "isTwin" "Z"]
def wsX3_or : List Cond := .code yX3_or cX3_or 3 (some .int) :: ((wsX3_or_r1 ++ wsX3_or_r2) ++ wsX30 ++ wsX20)
def wsX3_xor_r1 : List Cond := [Cond.fieldLink RX3 14 "NetTwinModel" "net" "LNetTwinModel$Nodes;", Cond.fieldLink RX3 55 "NetTwinModel$Nodes" "gates" "I", Cond.methodLink RX3 58 yX2_has, Cond.instanceMethod yX2_has, Cond.selects RX2 yX2_has yX2_has, Cond.initialized RX2, Cond.code yX2_has cX2_has 2 (some .boolean), Cond.fieldLink RX2 25 "NetTwinModel$Nodes" "count" "I", Cond.methodLink RX3 71 yX2_xor, Cond.instanceMethod yX2_xor, Cond.selects RX2 yX2_xor yX2_xor, Cond.code yX2_xor cX2_xor 5 (some .int), Cond.methodLink RX2 45 yX2_not, Cond.static yX2_not, Cond.code yX2_not cX2_not 1 (some .int), Cond.methodLink RX2 49 yX2_and, Cond.instanceMethod yX2_and, Cond.selects RX2 yX2_and yX2_and, Cond.code yX2_and cX2_and 6 (some .int), Cond.fieldLink RX2 9 "NetTwinModel$Nodes" "left" "[I", Cond.fieldLink RX2 15 "NetTwinModel$Nodes" "right" "[I", Cond.fieldLink RX2 28 "NetTwinModel$Nodes" "gates" "I", Cond.fieldLink RX2 18 "NetTwinModel$Nodes" "most" "I", Cond.methodLink RX2 31 yX2_add]
def wsX3_xor_r2 : List Cond := [Cond.instanceMethod yX2_add, Cond.selects RX2 yX2_add yX2_add, Cond.code yX2_add cX2_add 3 (some .int), Cond.methodLink RX2 41 yX2_more, Cond.static yX2_more, Cond.code yX2_more cX2_more 2 (some (.array .int)), Cond.arrayClass .int, Cond.methodLink RX2 35 arraycopyName, Cond.native arraycopyName, Cond.static arraycopyName, Cond.initialized "java/lang/System", Cond.methodLink RX2 52 yX2_or, Cond.instanceMethod yX2_or, Cond.selects RX2 yX2_or yX2_or, Cond.code yX2_or cX2_or 3 (some .int), Cond.methodLink RX3 65 yX3_made, Cond.instanceMethod yX3_made, Cond.selects RX3 yX3_made yX3_made, Cond.initialized RX3, Cond.code yX3_made cX3_made 3 (some .int), Cond.fieldLink RX3 51 "NetTwinModel" "isTwin" "Z"]
def wsX3_xor : List Cond := .code yX3_xor cX3_xor 3 (some .int) :: ((wsX3_xor_r1 ++ wsX3_xor_r2) ++ wsX30 ++ wsX20)
def wsX3_choose_r1 : List Cond := [Cond.fieldLink RX3 14 "NetTwinModel" "net" "LNetTwinModel$Nodes;", Cond.fieldLink RX3 55 "NetTwinModel$Nodes" "gates" "I", Cond.methodLink RX3 58 yX2_has, Cond.instanceMethod yX2_has, Cond.selects RX2 yX2_has yX2_has, Cond.initialized RX2, Cond.code yX2_has cX2_has 2 (some .boolean), Cond.fieldLink RX2 25 "NetTwinModel$Nodes" "count" "I", Cond.methodLink RX3 74 yX2_choose, Cond.instanceMethod yX2_choose, Cond.selects RX2 yX2_choose yX2_choose, Cond.code yX2_choose cX2_choose 6 (some .int), Cond.methodLink RX2 49 yX2_and, Cond.instanceMethod yX2_and, Cond.selects RX2 yX2_and yX2_and, Cond.code yX2_and cX2_and 6 (some .int), Cond.fieldLink RX2 9 "NetTwinModel$Nodes" "left" "[I", Cond.fieldLink RX2 15 "NetTwinModel$Nodes" "right" "[I", Cond.fieldLink RX2 28 "NetTwinModel$Nodes" "gates" "I", Cond.fieldLink RX2 18 "NetTwinModel$Nodes" "most" "I", Cond.methodLink RX2 31 yX2_add, Cond.instanceMethod yX2_add, Cond.selects RX2 yX2_add yX2_add, Cond.code yX2_add cX2_add 3 (some .int)]
def wsX3_choose_r2 : List Cond := [Cond.methodLink RX2 41 yX2_more, Cond.static yX2_more, Cond.code yX2_more cX2_more 2 (some (.array .int)), Cond.arrayClass .int, Cond.methodLink RX2 35 arraycopyName, Cond.native arraycopyName, Cond.static arraycopyName, Cond.initialized "java/lang/System", Cond.methodLink RX2 45 yX2_not, Cond.static yX2_not, Cond.code yX2_not cX2_not 1 (some .int), Cond.methodLink RX2 52 yX2_or, Cond.instanceMethod yX2_or, Cond.selects RX2 yX2_or yX2_or, Cond.code yX2_or cX2_or 3 (some .int), Cond.methodLink RX3 65 yX3_made, Cond.instanceMethod yX3_made, Cond.selects RX3 yX3_made yX3_made, Cond.initialized RX3, Cond.code yX3_made cX3_made 3 (some .int), Cond.fieldLink RX3 51 "NetTwinModel" "isTwin" "Z"]
def wsX3_choose : List Cond := .code yX3_choose cX3_choose 4 (some .int) :: ((wsX3_choose_r1 ++ wsX3_choose_r2) ++ wsX30 ++ wsX20)
def wsX3_nodes : List Cond := .code yX3_nodes cX3_nodes 2 (some .int) :: ([.fieldLink RX3 14 "NetTwinModel" "net" "LNetTwinModel$Nodes;", .fieldLink RX3 78 "NetTwinModel$Nodes" "count" "I", .fieldLink RX3 51 "NetTwinModel" "isTwin" "Z", .fieldLink RX3 18 "NetTwinModel" "twin" "LNetTwinModel$Nodes;"] ++ wsX30 ++ wsX20)
def wsX3_gate : List Cond := .code yX3_gate cX3_gate 6 (some .int) :: ([.fieldLink RX3 18 "NetTwinModel" "twin" "LNetTwinModel$Nodes;", .fieldLink RX3 14 "NetTwinModel" "net" "LNetTwinModel$Nodes;", .fieldLink RX3 51 "NetTwinModel" "isTwin" "Z", .fieldLink RX3 78 "NetTwinModel$Nodes" "count" "I", .fieldLink RX3 81 "NetTwinModel$Nodes" "left" "[I", .fieldLink RX3 84 "NetTwinModel$Nodes" "right" "[I"] ++ wsX30 ++ wsX20)
def wsX3_with : List Cond := .code yX3_with cX3_with 2 (some .int) :: ([.methodLink RX3 87 yX2_not, .static yX2_not, .initialized RX2, .code yX2_not cX2_not 1 (some .int)])
def wsX3_twin_r1 : List Cond := [Cond.fieldLink RX3 18 "NetTwinModel" "twin" "LNetTwinModel$Nodes;", Cond.fieldLink RX3 31 "NetTwinModel" "valueOf" "[I", Cond.fieldLink RX3 14 "NetTwinModel" "net" "LNetTwinModel$Nodes;", Cond.fieldLink RX3 78 "NetTwinModel$Nodes" "count" "I", Cond.fieldLink RX3 34 "NetTwinModel" "taintOf" "[I", Cond.fieldLink RX3 43 "NetTwinModel" "inputCount" "I", Cond.fieldLink RX3 21 "NetTwinModel" "inputs" "[I", Cond.fieldLink RX3 51 "NetTwinModel" "isTwin" "Z", Cond.fieldLink RX3 81 "NetTwinModel$Nodes" "left" "[I", Cond.fieldLink RX3 84 "NetTwinModel$Nodes" "right" "[I", Cond.methodLink RX3 91 yX2_begin, Cond.instanceMethod yX2_begin, Cond.selects RX2 yX2_begin yX2_begin, Cond.initialized RX2, Cond.code yX2_begin cX2_begin 1 none, Cond.fieldLink RX2 25 "NetTwinModel$Nodes" "count" "I", Cond.fieldLink RX2 28 "NetTwinModel$Nodes" "gates" "I", Cond.methodLink RX2 31 yX2_add, Cond.instanceMethod yX2_add, Cond.selects RX2 yX2_add yX2_add, Cond.code yX2_add cX2_add 3 (some .int), Cond.fieldLink RX2 9 "NetTwinModel$Nodes" "left" "[I", Cond.fieldLink RX2 15 "NetTwinModel$Nodes" "right" "[I", Cond.methodLink RX2 41 yX2_more]
def wsX3_twin_r2 : List Cond := [Cond.static yX2_more, Cond.code yX2_more cX2_more 2 (some (.array .int)), Cond.arrayClass .int, Cond.methodLink RX2 35 arraycopyName, Cond.native arraycopyName, Cond.static arraycopyName, Cond.initialized "java/lang/System", Cond.methodLink RX3 47 yX2_add, Cond.methodLink RX3 98 yX3_with, Cond.static yX3_with, Cond.initialized RX3, Cond.code yX3_with cX3_with 2 (some .int), Cond.methodLink RX3 87 yX2_not, Cond.static yX2_not, Cond.code yX2_not cX2_not 1 (some .int), Cond.methodLink RX3 62 yX2_and, Cond.instanceMethod yX2_and, Cond.selects RX2 yX2_and yX2_and, Cond.code yX2_and cX2_and 6 (some .int), Cond.fieldLink RX2 18 "NetTwinModel$Nodes" "most" "I", Cond.methodLink RX3 68 yX2_or, Cond.instanceMethod yX2_or, Cond.selects RX2 yX2_or yX2_or, Cond.code yX2_or cX2_or 3 (some .int)]
def wsX3_twin_r3 : List Cond := [Cond.methodLink RX2 45 yX2_not, Cond.methodLink RX2 49 yX2_and]
def wsX3_twin : List Cond := .code yX3_twin cX3_twin 10 (some .int) :: ((wsX3_twin_r1 ++ (wsX3_twin_r2 ++ wsX3_twin_r3)) ++ wsX30 ++ wsX20)
def wsX3_twinOf : List Cond := .code yX3_twinOf cX3_twinOf 3 (some .int) :: ([.fieldLink RX3 51 "NetTwinModel" "isTwin" "Z", .fieldLink RX3 14 "NetTwinModel" "net" "LNetTwinModel$Nodes;", .fieldLink RX3 34 "NetTwinModel" "taintOf" "[I", .fieldLink RX3 31 "NetTwinModel" "valueOf" "[I", .methodLink RX3 58 yX2_has, .instanceMethod yX2_has, .selects RX2 yX2_has yX2_has, .initialized RX2, .code yX2_has cX2_has 2 (some .boolean), .fieldLink RX2 25 "NetTwinModel$Nodes" "count" "I", .methodLink RX3 98 yX3_with, .static yX3_with, .initialized RX3, .code yX3_with cX3_with 2 (some .int), .methodLink RX3 87 yX2_not, .static yX2_not, .code yX2_not cX2_not 1 (some .int)] ++ wsX30 ++ wsX20)
def wsX3_set : List Cond := .code yX3_set cX3_set 6 (some .int) :: ([.fieldLink RX3 43 "NetTwinModel" "inputCount" "I", .fieldLink RX3 28 "NetTwinModel" "taints" "[I", .fieldLink RX3 25 "NetTwinModel" "bits" "[I"] ++ wsX30)
def wsX3_of : List Cond := .code yX3_of cX3_of 2 (some .int) :: ([])
def wsX3_reckon : List Cond := .code yX3_reckon cX3_reckon 3 none :: ([.fieldLink RX3 78 "NetTwinModel$Nodes" "count" "I", .fieldLink RX3 37 "NetTwinModel" "now" "[I", .fieldLink RX3 81 "NetTwinModel$Nodes" "left" "[I", .fieldLink RX3 84 "NetTwinModel$Nodes" "right" "[I", .methodLink RX3 102 yX3_of, .static yX3_of, .initialized RX3, .code yX3_of cX3_of 2 (some .int)] ++ wsX20 ++ wsX30)
def wsX3_room : List Cond := .code yX3_room cX3_room 2 none :: ([.fieldLink RX3 37 "NetTwinModel" "now" "[I", .fieldLink RX3 40 "NetTwinModel" "marks" "[I", .static yX2_more, .initialized RX2, .code yX2_more cX2_more 2 (some (.array .int)), .arrayClass .int, .methodLink RX2 35 arraycopyName, .native arraycopyName, .static arraycopyName, .initialized "java/lang/System"] ++ wsX30)
def wsX3_reckonNet_r1 : List Cond := [Cond.fieldLink RX3 14 "NetTwinModel" "net" "LNetTwinModel$Nodes;", Cond.fieldLink RX3 78 "NetTwinModel$Nodes" "count" "I", Cond.fieldLink RX3 43 "NetTwinModel" "inputCount" "I", Cond.fieldLink RX3 37 "NetTwinModel" "now" "[I", Cond.fieldLink RX3 21 "NetTwinModel" "inputs" "[I", Cond.fieldLink RX3 25 "NetTwinModel" "bits" "[I", Cond.methodLink RX3 105 yX3_room, Cond.instanceMethod yX3_room, Cond.selects RX3 yX3_room yX3_room, Cond.initialized RX3, Cond.code yX3_room cX3_room 2 none, Cond.fieldLink RX3 40 "NetTwinModel" "marks" "[I", Cond.static yX2_more, Cond.initialized RX2, Cond.code yX2_more cX2_more 2 (some (.array .int)), Cond.arrayClass .int, Cond.methodLink RX2 35 arraycopyName, Cond.native arraycopyName, Cond.static arraycopyName, Cond.initialized "java/lang/System", Cond.methodLink RX3 108 yX3_reckon, Cond.instanceMethod yX3_reckon, Cond.selects RX3 yX3_reckon yX3_reckon, Cond.code yX3_reckon cX3_reckon 3 none]
def wsX3_reckonNet_r2 : List Cond := [Cond.fieldLink RX3 81 "NetTwinModel$Nodes" "left" "[I", Cond.fieldLink RX3 84 "NetTwinModel$Nodes" "right" "[I", Cond.methodLink RX3 102 yX3_of, Cond.static yX3_of, Cond.code yX3_of cX3_of 2 (some .int)]
def wsX3_reckonNet : List Cond := .code yX3_reckonNet cX3_reckonNet 2 none :: ((wsX3_reckonNet_r1 ++ wsX3_reckonNet_r2) ++ wsX30 ++ wsX20)
def wsX3_bit_r1 : List Cond := [Cond.fieldLink RX3 51 "NetTwinModel" "isTwin" "Z", Cond.fieldLink RX3 18 "NetTwinModel" "twin" "LNetTwinModel$Nodes;", Cond.fieldLink RX3 14 "NetTwinModel" "net" "LNetTwinModel$Nodes;", Cond.fieldLink RX3 37 "NetTwinModel" "now" "[I", Cond.fieldLink RX3 78 "NetTwinModel$Nodes" "count" "I", Cond.fieldLink RX3 43 "NetTwinModel" "inputCount" "I", Cond.fieldLink RX3 25 "NetTwinModel" "bits" "[I", Cond.fieldLink RX3 28 "NetTwinModel" "taints" "[I", Cond.methodLink RX3 58 yX2_has, Cond.instanceMethod yX2_has, Cond.selects RX2 yX2_has yX2_has, Cond.initialized RX2, Cond.code yX2_has cX2_has 2 (some .boolean), Cond.fieldLink RX2 25 "NetTwinModel$Nodes" "count" "I", Cond.methodLink RX3 112 yX3_reckonNet, Cond.instanceMethod yX3_reckonNet, Cond.selects RX3 yX3_reckonNet yX3_reckonNet, Cond.initialized RX3, Cond.code yX3_reckonNet cX3_reckonNet 2 none, Cond.fieldLink RX3 21 "NetTwinModel" "inputs" "[I", Cond.methodLink RX3 105 yX3_room, Cond.instanceMethod yX3_room, Cond.selects RX3 yX3_room yX3_room, Cond.code yX3_room cX3_room 2 none]
def wsX3_bit_r2 : List Cond := [Cond.fieldLink RX3 40 "NetTwinModel" "marks" "[I", Cond.static yX2_more, Cond.code yX2_more cX2_more 2 (some (.array .int)), Cond.arrayClass .int, Cond.methodLink RX2 35 arraycopyName, Cond.native arraycopyName, Cond.static arraycopyName, Cond.initialized "java/lang/System", Cond.methodLink RX3 108 yX3_reckon, Cond.instanceMethod yX3_reckon, Cond.selects RX3 yX3_reckon yX3_reckon, Cond.code yX3_reckon cX3_reckon 3 none, Cond.fieldLink RX3 81 "NetTwinModel$Nodes" "left" "[I", Cond.fieldLink RX3 84 "NetTwinModel$Nodes" "right" "[I", Cond.methodLink RX3 102 yX3_of, Cond.static yX3_of, Cond.code yX3_of cX3_of 2 (some .int)]
def wsX3_bit : List Cond := .code yX3_bit cX3_bit 4 (some .int) :: ((wsX3_bit_r1 ++ wsX3_bit_r2) ++ wsX30 ++ wsX20)
def wsX3_taint_r1 : List Cond := [Cond.fieldLink RX3 14 "NetTwinModel" "net" "LNetTwinModel$Nodes;", Cond.fieldLink RX3 43 "NetTwinModel" "inputCount" "I", Cond.fieldLink RX3 40 "NetTwinModel" "marks" "[I", Cond.fieldLink RX3 21 "NetTwinModel" "inputs" "[I", Cond.fieldLink RX3 28 "NetTwinModel" "taints" "[I", Cond.fieldLink RX3 78 "NetTwinModel$Nodes" "count" "I", Cond.fieldLink RX3 81 "NetTwinModel$Nodes" "left" "[I", Cond.fieldLink RX3 37 "NetTwinModel" "now" "[I", Cond.fieldLink RX3 84 "NetTwinModel$Nodes" "right" "[I", Cond.methodLink RX3 58 yX2_has, Cond.instanceMethod yX2_has, Cond.selects RX2 yX2_has yX2_has, Cond.initialized RX2, Cond.code yX2_has cX2_has 2 (some .boolean), Cond.fieldLink RX2 25 "NetTwinModel$Nodes" "count" "I", Cond.methodLink RX3 112 yX3_reckonNet, Cond.instanceMethod yX3_reckonNet, Cond.selects RX3 yX3_reckonNet yX3_reckonNet, Cond.initialized RX3, Cond.code yX3_reckonNet cX3_reckonNet 2 none, Cond.fieldLink RX3 25 "NetTwinModel" "bits" "[I", Cond.methodLink RX3 105 yX3_room, Cond.instanceMethod yX3_room, Cond.selects RX3 yX3_room yX3_room]
def wsX3_taint_r2 : List Cond := [Cond.code yX3_room cX3_room 2 none, Cond.static yX2_more, Cond.code yX2_more cX2_more 2 (some (.array .int)), Cond.arrayClass .int, Cond.methodLink RX2 35 arraycopyName, Cond.native arraycopyName, Cond.static arraycopyName, Cond.initialized "java/lang/System", Cond.methodLink RX3 108 yX3_reckon, Cond.instanceMethod yX3_reckon, Cond.selects RX3 yX3_reckon yX3_reckon, Cond.code yX3_reckon cX3_reckon 3 none, Cond.methodLink RX3 102 yX3_of, Cond.static yX3_of, Cond.code yX3_of cX3_of 2 (some .int)]
def wsX3_taint : List Cond := .code yX3_taint cX3_taint 7 (some .int) :: ((wsX3_taint_r1 ++ wsX3_taint_r2) ++ wsX30 ++ wsX20)
def wsX3_hangs_r1 : List Cond := [Cond.fieldLink RX3 43 "NetTwinModel" "inputCount" "I", Cond.fieldLink RX3 28 "NetTwinModel" "taints" "[I", Cond.fieldLink RX3 14 "NetTwinModel" "net" "LNetTwinModel$Nodes;", Cond.fieldLink RX3 37 "NetTwinModel" "now" "[I", Cond.fieldLink RX3 21 "NetTwinModel" "inputs" "[I", Cond.fieldLink RX3 25 "NetTwinModel" "bits" "[I", Cond.methodLink RX3 58 yX2_has, Cond.instanceMethod yX2_has, Cond.selects RX2 yX2_has yX2_has, Cond.initialized RX2, Cond.code yX2_has cX2_has 2 (some .boolean), Cond.fieldLink RX2 25 "NetTwinModel$Nodes" "count" "I", Cond.methodLink RX3 112 yX3_reckonNet, Cond.instanceMethod yX3_reckonNet, Cond.selects RX3 yX3_reckonNet yX3_reckonNet, Cond.initialized RX3, Cond.code yX3_reckonNet cX3_reckonNet 2 none, Cond.fieldLink RX3 78 "NetTwinModel$Nodes" "count" "I", Cond.methodLink RX3 105 yX3_room, Cond.instanceMethod yX3_room, Cond.selects RX3 yX3_room yX3_room, Cond.code yX3_room cX3_room 2 none, Cond.fieldLink RX3 40 "NetTwinModel" "marks" "[I", Cond.static yX2_more]
def wsX3_hangs_r2 : List Cond := [Cond.code yX2_more cX2_more 2 (some (.array .int)), Cond.arrayClass .int, Cond.methodLink RX2 35 arraycopyName, Cond.native arraycopyName, Cond.static arraycopyName, Cond.initialized "java/lang/System", Cond.methodLink RX3 108 yX3_reckon, Cond.instanceMethod yX3_reckon, Cond.selects RX3 yX3_reckon yX3_reckon, Cond.code yX3_reckon cX3_reckon 3 none, Cond.fieldLink RX3 81 "NetTwinModel$Nodes" "left" "[I", Cond.fieldLink RX3 84 "NetTwinModel$Nodes" "right" "[I", Cond.methodLink RX3 102 yX3_of, Cond.static yX3_of, Cond.code yX3_of cX3_of 2 (some .int)]
def wsX3_hangs : List Cond := .code yX3_hangs cX3_hangs 7 (some .int) :: ((wsX3_hangs_r1 ++ wsX3_hangs_r2) ++ wsX30 ++ wsX20)
def wsL_law_r1 : List Cond := [Cond.classLink RL 7 RX1, Cond.instantiable RX1 8, Cond.initialized RX1, Cond.classLink RL 10 RX3, Cond.instantiable RX3 11, Cond.initialized RX3, Cond.methodLink RL 9 yX1_init, Cond.instanceMethod yX1_init, Cond.code yX1_init cX1_init 1 none, Cond.methodLink RX1 1 objectInit, Cond.instanceMethod objectInit, Cond.code objectInit ⟨#[0xb1]⟩ 1 none, Cond.classLink RX1 7 RX0, Cond.instantiable RX0 8, Cond.initialized RX0, Cond.fieldLink RX1 14 "NetTwin" "net" "LNetTwin$Net;", Cond.fieldLink RX1 18 "NetTwin" "twin" "LNetTwin$Net;", Cond.fieldLink RX1 21 "NetTwin" "twinnedNodes" "I", Cond.arrayClass .int, Cond.fieldLink RX1 25 "NetTwin" "valueLiteral" "[I", Cond.fieldLink RX1 29 "NetTwin" "taintLiteral" "[I", Cond.fieldLink RX1 32 "NetTwin" "inputBit" "[I", Cond.fieldLink RX1 35 "NetTwin" "inputTaint" "[I", Cond.arrayClass .long]
def wsL_law_r2 : List Cond := [Cond.fieldLink RX1 38 "NetTwin" "taintWord" "[J", Cond.instanceMethod yX0_init, Cond.code yX0_init cX0_init 3 none, Cond.methodLink RX0 3 objectInit, Cond.fieldLink RX0 9 "NetTwin$Net" "mostInputs" "I", Cond.fieldLink RX0 15 "NetTwin$Net" "mostGates" "I", Cond.fieldLink RX0 18 "NetTwin$Net" "lesser" "[I", Cond.fieldLink RX0 22 "NetTwin$Net" "other" "[I", Cond.fieldLink RX0 25 "NetTwin$Net" "inputNode" "[I", Cond.fieldLink RX0 28 "NetTwin$Net" "word" "[J", Cond.fieldLink RX0 32 "NetTwin$Net" "nodeCount" "I", Cond.methodLink RL 12 yX3_init, Cond.instanceMethod yX3_init, Cond.code yX3_init cX3_init 1 none, Cond.methodLink RX3 1 objectInit, Cond.classLink RX3 7 RX2, Cond.instantiable RX2 5, Cond.initialized RX2, Cond.fieldLink RX3 14 "NetTwinModel" "net" "LNetTwinModel$Nodes;", Cond.fieldLink RX3 18 "NetTwinModel" "twin" "LNetTwinModel$Nodes;", Cond.fieldLink RX3 21 "NetTwinModel" "inputs" "[I", Cond.fieldLink RX3 25 "NetTwinModel" "bits" "[I", Cond.fieldLink RX3 28 "NetTwinModel" "taints" "[I", Cond.fieldLink RX3 31 "NetTwinModel" "valueOf" "[I"]
def wsL_law_r3 : List Cond := [Cond.fieldLink RX3 34 "NetTwinModel" "taintOf" "[I", Cond.fieldLink RX3 37 "NetTwinModel" "now" "[I", Cond.fieldLink RX3 40 "NetTwinModel" "marks" "[I", Cond.methodLink RX3 11 yX2_init, Cond.instanceMethod yX2_init, Cond.code yX2_init cX2_init 2 none, Cond.methodLink RX2 3 objectInit, Cond.fieldLink RX2 9 "NetTwinModel$Nodes" "left" "[I", Cond.fieldLink RX2 15 "NetTwinModel$Nodes" "right" "[I", Cond.fieldLink RX2 18 "NetTwinModel$Nodes" "most" "I", Cond.methodLink RX2 22 yX2_begin, Cond.instanceMethod yX2_begin, Cond.selects RX2 yX2_begin yX2_begin, Cond.code yX2_begin cX2_begin 1 none, Cond.fieldLink RX2 25 "NetTwinModel$Nodes" "count" "I", Cond.fieldLink RX2 28 "NetTwinModel$Nodes" "gates" "I", Cond.methodLink RX2 31 yX2_add, Cond.instanceMethod yX2_add, Cond.selects RX2 yX2_add yX2_add, Cond.code yX2_add cX2_add 3 (some .int), Cond.methodLink RX2 41 yX2_more, Cond.static yX2_more, Cond.code yX2_more cX2_more 2 (some (.array .int)), Cond.methodLink RX2 35 arraycopyName]
def wsL_law_r4 : List Cond := [Cond.native arraycopyName, Cond.static arraycopyName, Cond.initialized "java/lang/System", Cond.methodLink RL 13 yX1_input, Cond.instanceMethod yX1_input, Cond.selects RX1 yX1_input yX1_input, Cond.code yX1_input cX1_input 1 (some .int), Cond.instanceMethod yX0_addInput, Cond.selects RX0 yX0_addInput yX0_addInput, Cond.code yX0_addInput cX0_addInput 1 (some .int), Cond.fieldLink RX0 35 "NetTwin$Net" "inputCount" "I", Cond.methodLink RX0 38 yX0_addNode, Cond.instanceMethod yX0_addNode, Cond.selects RX0 yX0_addNode yX0_addNode, Cond.code yX0_addNode cX0_addNode 4 (some .int), Cond.methodLink RL 17 yX3_input, Cond.instanceMethod yX3_input, Cond.selects RX3 yX3_input yX3_input, Cond.code yX3_input cX3_input 1 (some .int), Cond.fieldLink RX3 43 "NetTwinModel" "inputCount" "I", Cond.fieldLink RX3 51 "NetTwinModel" "isTwin" "Z", Cond.methodLink RX3 47 yX2_add, Cond.methodLink RL 18 yX1_and, Cond.instanceMethod yX1_and]
def wsL_law_r5 : List Cond := [Cond.selects RX1 yX1_and yX1_and, Cond.code yX1_and cX1_and 3 (some .int), Cond.instanceMethod yX0_both, Cond.selects RX0 yX0_both yX0_both, Cond.code yX0_both cX0_both 3 (some .int), Cond.methodLink RX0 42 yX0_holds, Cond.instanceMethod yX0_holds, Cond.selects RX0 yX0_holds yX0_holds, Cond.code yX0_holds cX0_holds 2 (some .boolean), Cond.static yX1_not, Cond.code yX1_not cX1_not 1 (some .int), Cond.methodLink RX0 50 yX0_gateOf, Cond.instanceMethod yX0_gateOf, Cond.selects RX0 yX0_gateOf yX0_gateOf, Cond.code yX0_gateOf cX0_gateOf 4 (some .int), Cond.methodLink RL 22 yX3_and, Cond.instanceMethod yX3_and, Cond.selects RX3 yX3_and yX3_and, Cond.code yX3_and cX3_and 3 (some .int), Cond.fieldLink RX3 55 "NetTwinModel$Nodes" "gates" "I", Cond.methodLink RX3 58 yX2_has, Cond.instanceMethod yX2_has, Cond.selects RX2 yX2_has yX2_has, Cond.code yX2_has cX2_has 2 (some .boolean)]
def wsL_law_r6 : List Cond := [Cond.methodLink RX3 62 yX2_and, Cond.instanceMethod yX2_and, Cond.selects RX2 yX2_and yX2_and, Cond.code yX2_and cX2_and 6 (some .int), Cond.methodLink RX3 65 yX3_made, Cond.instanceMethod yX3_made, Cond.selects RX3 yX3_made yX3_made, Cond.code yX3_made cX3_made 3 (some .int), Cond.methodLink RL 23 yX1_or, Cond.instanceMethod yX1_or, Cond.selects RX1 yX1_or yX1_or, Cond.code yX1_or cX1_or 3 (some .int), Cond.instanceMethod yX0_either, Cond.selects RX0 yX0_either yX0_either, Cond.code yX0_either cX0_either 3 (some .int), Cond.methodLink RX0 53 yX0_both, Cond.methodLink RL 26 yX3_or, Cond.instanceMethod yX3_or, Cond.selects RX3 yX3_or yX3_or, Cond.code yX3_or cX3_or 3 (some .int), Cond.methodLink RX3 68 yX2_or, Cond.instanceMethod yX2_or, Cond.selects RX2 yX2_or yX2_or, Cond.code yX2_or cX2_or 3 (some .int)]
def wsL_law_r7 : List Cond := [Cond.methodLink RX2 45 yX2_not, Cond.static yX2_not, Cond.code yX2_not cX2_not 1 (some .int), Cond.methodLink RX2 49 yX2_and, Cond.methodLink RL 27 yX1_xor, Cond.instanceMethod yX1_xor, Cond.selects RX1 yX1_xor yX1_xor, Cond.code yX1_xor cX1_xor 5 (some .int), Cond.methodLink RX1 53 yX1_not, Cond.methodLink RL 30 yX3_xor, Cond.instanceMethod yX3_xor, Cond.selects RX3 yX3_xor yX3_xor, Cond.code yX3_xor cX3_xor 3 (some .int), Cond.methodLink RX3 71 yX2_xor, Cond.instanceMethod yX2_xor, Cond.selects RX2 yX2_xor yX2_xor, Cond.code yX2_xor cX2_xor 5 (some .int), Cond.methodLink RX2 52 yX2_or, Cond.methodLink RL 31 yX1_choose, Cond.instanceMethod yX1_choose, Cond.selects RX1 yX1_choose yX1_choose, Cond.code yX1_choose cX1_choose 6 (some .int), Cond.methodLink RL 35 yX3_choose, Cond.instanceMethod yX3_choose]
def wsL_law_r8 : List Cond := [Cond.selects RX3 yX3_choose yX3_choose, Cond.code yX3_choose cX3_choose 4 (some .int), Cond.methodLink RX3 74 yX2_choose, Cond.instanceMethod yX2_choose, Cond.selects RX2 yX2_choose yX2_choose, Cond.code yX2_choose cX2_choose 6 (some .int), Cond.methodLink RL 36 yX1_nodes, Cond.instanceMethod yX1_nodes, Cond.selects RX1 yX1_nodes yX1_nodes, Cond.code yX1_nodes cX1_nodes 2 (some .int), Cond.methodLink RX1 64 yX1_twinStands, Cond.instanceMethod yX1_twinStands, Cond.selects RX1 yX1_twinStands yX1_twinStands, Cond.code yX1_twinStands cX1_twinStands 1 (some .boolean), Cond.methodLink RL 40 yX3_nodes, Cond.instanceMethod yX3_nodes, Cond.selects RX3 yX3_nodes yX3_nodes, Cond.code yX3_nodes cX3_nodes 2 (some .int), Cond.fieldLink RX3 78 "NetTwinModel$Nodes" "count" "I", Cond.methodLink RL 41 yX1_gate, Cond.instanceMethod yX1_gate, Cond.selects RX1 yX1_gate yX1_gate, Cond.code yX1_gate cX1_gate 5 (some .int), Cond.methodLink RX1 68 yX1_nodes]
def wsL_law_r9 : List Cond := [Cond.methodLink RL 45 yX3_gate, Cond.instanceMethod yX3_gate, Cond.selects RX3 yX3_gate yX3_gate, Cond.code yX3_gate cX3_gate 6 (some .int), Cond.fieldLink RX3 81 "NetTwinModel$Nodes" "left" "[I", Cond.fieldLink RX3 84 "NetTwinModel$Nodes" "right" "[I", Cond.methodLink RL 46 yX1_twin, Cond.instanceMethod yX1_twin, Cond.selects RX1 yX1_twin yX1_twin, Cond.code yX1_twin cX1_twin 1 (some .int), Cond.methodLink RX1 78 yX1_buildTwin, Cond.instanceMethod yX1_buildTwin, Cond.selects RX1 yX1_buildTwin yX1_buildTwin, Cond.code yX1_buildTwin cX1_buildTwin 2 (some .boolean), Cond.instanceMethod yX0_clear, Cond.selects RX0 yX0_clear yX0_clear, Cond.code yX0_clear cX0_clear 1 none, Cond.methodLink RX1 117 yX1_twinInputs, Cond.instanceMethod yX1_twinInputs, Cond.selects RX1 yX1_twinInputs yX1_twinInputs, Cond.code yX1_twinInputs cX1_twinInputs 2 none, Cond.instanceMethod yX0_isGate, Cond.selects RX0 yX0_isGate yX0_isGate, Cond.code yX0_isGate cX0_isGate 2 (some .boolean)]
def wsL_law_r10 : List Cond := [Cond.methodLink RX1 123 yX1_twinGate, Cond.instanceMethod yX1_twinGate, Cond.selects RX1 yX1_twinGate yX1_twinGate, Cond.code yX1_twinGate cX1_twinGate 12 (some .boolean), Cond.methodLink RX1 81 yX1_valueInTwin, Cond.instanceMethod yX1_valueInTwin, Cond.selects RX1 yX1_valueInTwin yX1_valueInTwin, Cond.code yX1_valueInTwin cX1_valueInTwin 3 (some .int), Cond.methodLink RL 49 yX3_twin, Cond.instanceMethod yX3_twin, Cond.selects RX3 yX3_twin yX3_twin, Cond.code yX3_twin cX3_twin 10 (some .int), Cond.methodLink RX3 91 yX2_begin, Cond.methodLink RX3 98 yX3_with, Cond.static yX3_with, Cond.code yX3_with cX3_with 2 (some .int), Cond.methodLink RX3 87 yX2_not, Cond.methodLink RL 50 yX1_twinOf, Cond.instanceMethod yX1_twinOf, Cond.selects RX1 yX1_twinOf yX1_twinOf, Cond.code yX1_twinOf cX1_twinOf 3 (some .int), Cond.methodLink RL 54 yX3_twinOf, Cond.instanceMethod yX3_twinOf, Cond.selects RX3 yX3_twinOf yX3_twinOf]
def wsL_law_r11 : List Cond := [Cond.code yX3_twinOf cX3_twinOf 3 (some .int), Cond.methodLink RL 55 yX1_set, Cond.instanceMethod yX1_set, Cond.selects RX1 yX1_set yX1_set, Cond.code yX1_set cX1_set 6 (some .int), Cond.methodLink RL 59 yX3_set, Cond.instanceMethod yX3_set, Cond.selects RX3 yX3_set yX3_set, Cond.code yX3_set cX3_set 6 (some .int), Cond.methodLink RL 60 yX1_bit, Cond.instanceMethod yX1_bit, Cond.selects RX1 yX1_bit yX1_bit, Cond.code yX1_bit cX1_bit 3 (some .int), Cond.methodLink RX1 87 yX1_spreadTwin, Cond.instanceMethod yX1_spreadTwin, Cond.selects RX1 yX1_spreadTwin yX1_spreadTwin, Cond.code yX1_spreadTwin cX1_spreadTwin 3 none, Cond.methodLink RX1 132 yX1_wordOfBit, Cond.static yX1_wordOfBit, Cond.code yX1_wordOfBit cX1_wordOfBit 1 (some .long), Cond.constantLong RX1 142 (-1), Cond.instanceMethod yX0_spread, Cond.selects RX0 yX0_spread yX0_spread, Cond.code yX0_spread cX0_spread 2 none]
def wsL_law_r12 : List Cond := [Cond.methodLink RX0 58 yX0_isGate, Cond.methodLink RX0 61 yX0_wordOf, Cond.instanceMethod yX0_wordOf, Cond.selects RX0 yX0_wordOf yX0_wordOf, Cond.code yX0_wordOf cX0_wordOf 4 (some .long), Cond.constantLong RX0 56 (-1), Cond.methodLink RX1 94 yX1_bitOf, Cond.static yX1_bitOf, Cond.code yX1_bitOf cX1_bitOf 2 (some .int), Cond.methodLink RX1 98 yX1_spreadNet, Cond.instanceMethod yX1_spreadNet, Cond.selects RX1 yX1_spreadNet yX1_spreadNet, Cond.code yX1_spreadNet cX1_spreadNet 2 none, Cond.methodLink RL 64 yX3_bit, Cond.instanceMethod yX3_bit, Cond.selects RX3 yX3_bit yX3_bit, Cond.code yX3_bit cX3_bit 4 (some .int), Cond.methodLink RX3 112 yX3_reckonNet, Cond.instanceMethod yX3_reckonNet, Cond.selects RX3 yX3_reckonNet yX3_reckonNet, Cond.code yX3_reckonNet cX3_reckonNet 2 none, Cond.methodLink RX3 105 yX3_room, Cond.instanceMethod yX3_room, Cond.selects RX3 yX3_room yX3_room]
def wsL_law_r13 : List Cond := [Cond.code yX3_room cX3_room 2 none, Cond.methodLink RX3 108 yX3_reckon, Cond.instanceMethod yX3_reckon, Cond.selects RX3 yX3_reckon yX3_reckon, Cond.code yX3_reckon cX3_reckon 3 none, Cond.methodLink RX3 102 yX3_of, Cond.static yX3_of, Cond.code yX3_of cX3_of 2 (some .int), Cond.methodLink RL 65 yX1_taint, Cond.instanceMethod yX1_taint, Cond.selects RX1 yX1_taint yX1_taint, Cond.code yX1_taint cX1_taint 2 (some .int), Cond.methodLink RX1 101 yX1_spreadTaints, Cond.instanceMethod yX1_spreadTaints, Cond.selects RX1 yX1_spreadTaints yX1_spreadTaints, Cond.code yX1_spreadTaints cX1_spreadTaints 8 none, Cond.methodLink RL 69 yX3_taint, Cond.instanceMethod yX3_taint, Cond.selects RX3 yX3_taint yX3_taint, Cond.code yX3_taint cX3_taint 7 (some .int), Cond.methodLink RL 70 yX1_hangs, Cond.instanceMethod yX1_hangs, Cond.selects RX1 yX1_hangs yX1_hangs, Cond.code yX1_hangs cX1_hangs 5 (some .int)]
def wsL_law_r14 : List Cond := [Cond.methodLink RX1 104 yX1_countTainted, Cond.instanceMethod yX1_countTainted, Cond.selects RX1 yX1_countTainted yX1_countTainted, Cond.code yX1_countTainted cX1_countTainted 3 (some .int), Cond.methodLink RX1 107 yX1_setTaintedInputs, Cond.instanceMethod yX1_setTaintedInputs, Cond.selects RX1 yX1_setTaintedInputs yX1_setTaintedInputs, Cond.code yX1_setTaintedInputs cX1_setTaintedInputs 4 none, Cond.methodLink RX1 135 yX1_settingsOf, Cond.static yX1_settingsOf, Cond.code yX1_settingsOf cX1_settingsOf 2 (some .long), Cond.fieldLink RX1 139 "NetTwin" "SETTINGS" "[J", Cond.methodLink RL 73 yX3_hangs, Cond.instanceMethod yX3_hangs, Cond.selects RX3 yX3_hangs yX3_hangs, Cond.code yX3_hangs cX3_hangs 7 (some .int)]
def wsL_law : List Cond := (wsL_law_r1 ++ (wsL_law_r2 ++ (wsL_law_r3 ++ (wsL_law_r4 ++ (wsL_law_r5 ++ (wsL_law_r6 ++ (wsL_law_r7 ++ (wsL_law_r8 ++ (wsL_law_r9 ++ (wsL_law_r10 ++ (wsL_law_r11 ++ (wsL_law_r12 ++ (wsL_law_r13 ++ wsL_law_r14))))))))))))) ++ wsX10 ++ wsX30 ++ wsX00 ++ wsX20 ++ ([] : List Cond)
end
section
set_option maxRecDepth 20000 in
theorem wsL_law_in_r1 : ∀ w ∈ wsL_law_r1, w ∈ lw_tbl := fun w h => (goodIn_p wsL_law_r1 [34, 37] rfl (by decide +kernel) w h).1
set_option maxRecDepth 20000 in
theorem wsL_law_in_r2 : ∀ w ∈ wsL_law_r2, w ∈ lw_tbl := fun w h => (goodIn_p wsL_law_r2 [42, 260] rfl (by decide +kernel) w h).1
set_option maxRecDepth 20000 in
theorem wsL_law_in_r3 : ∀ w ∈ wsL_law_r3, w ∈ lw_tbl := fun w h => (goodIn_p wsL_law_r3 [266, 271, 275, 278] rfl (by decide +kernel) w h).1
set_option maxRecDepth 20000 in
theorem wsL_law_in_r4 : ∀ w ∈ wsL_law_r4, w ∈ lw_tbl := fun w h => (goodIn_p wsL_law_r4 [105, 109, 113, 339] rfl (by decide +kernel) w h).1
set_option maxRecDepth 20000 in
theorem wsL_law_in_r5 : ∀ w ∈ wsL_law_r5, w ∈ lw_tbl := fun w h => (goodIn_p wsL_law_r5 [117, 121, 125, 128, 132, 344, 348] rfl (by decide +kernel) w h).1
set_option maxRecDepth 20000 in
theorem wsL_law_in_r6 : ∀ w ∈ wsL_law_r6, w ∈ lw_tbl := fun w h => (goodIn_p wsL_law_r6 [352, 356, 136, 140, 360, 364] rfl (by decide +kernel) w h).1
set_option maxRecDepth 20000 in
theorem wsL_law_in_r7 : ∀ w ∈ wsL_law_r7, w ∈ lw_tbl := fun w h => (goodIn_p wsL_law_r7 [367, 145, 372, 376, 150] rfl (by decide +kernel) w h).1
end
section
set_option maxRecDepth 20000 in
theorem wsL_law_in_r8 : ∀ w ∈ wsL_law_r8, w ∈ lw_tbl := fun w h => (goodIn_p wsL_law_r8 [381, 385, 155, 159, 389, 163] rfl (by decide +kernel) w h).1
set_option maxRecDepth 20000 in
theorem wsL_law_in_r9 : ∀ w ∈ wsL_law_r9, w ∈ lw_tbl := fun w h => (goodIn_p wsL_law_r9 [393, 168, 172, 176, 180, 184] rfl (by decide +kernel) w h).1
set_option maxRecDepth 20000 in
theorem wsL_law_in_r10 : ∀ w ∈ wsL_law_r10, w ∈ lw_tbl := fun w h => (goodIn_p wsL_law_r10 [188, 192, 397, 402, 196] rfl (by decide +kernel) w h).1
set_option maxRecDepth 20000 in
theorem wsL_law_in_r11 : ∀ w ∈ wsL_law_r11, w ∈ lw_tbl := fun w h => (goodIn_p wsL_law_r11 [407, 200, 411, 204, 208, 211, 216] rfl (by decide +kernel) w h).1
set_option maxRecDepth 20000 in
theorem wsL_law_in_r12 : ∀ w ∈ wsL_law_r12, w ∈ lw_tbl := fun w h => (goodIn_p wsL_law_r12 [221, 226, 230, 415, 419] rfl (by decide +kernel) w h).1
set_option maxRecDepth 20000 in
theorem wsL_law_in_r13 : ∀ w ∈ wsL_law_r13, w ∈ lw_tbl := fun w h => (goodIn_p wsL_law_r13 [423, 427, 430, 234, 238, 434, 242] rfl (by decide +kernel) w h).1
set_option maxRecDepth 20000 in
theorem wsL_law_in_r14 : ∀ w ∈ wsL_law_r14, w ∈ lw_tbl := fun w h => (goodIn_p wsL_law_r14 [246, 250, 253, 438] rfl (by decide +kernel) w h).1
theorem wsL_law_in_x1 : ∀ w ∈ wsX10, w ∈ lw_tbl := fun w h => (goodIn_p wsX10 [] rfl (by decide +kernel) w h).1
theorem wsL_law_in_x3 : ∀ w ∈ wsX30, w ∈ lw_tbl := fun w h => (goodIn_p wsX30 [] rfl (by decide +kernel) w h).1
theorem wsL_law_in_x0 : ∀ w ∈ wsX00, w ∈ lw_tbl := fun w h => (goodIn_p wsX00 [] rfl (by decide +kernel) w h).1
theorem wsL_law_in_x2 : ∀ w ∈ wsX20, w ∈ lw_tbl := fun w h => (goodIn_p wsX20 [] rfl (by decide +kernel) w h).1
theorem wsL_law_in : ∀ w ∈ wsL_law, w ∈ lw_tbl := by
  intro w h
  rcases List.mem_append.mp h with h | h
  · rcases List.mem_append.mp h with h | h
    · rcases List.mem_append.mp h with h | h
      · rcases List.mem_append.mp h with h | h
        · rcases List.mem_append.mp h with h | h
          · refine (List.mem_append.mp h).elim (fun h => wsL_law_in_r1 w h) (fun h => ?_)
            refine (List.mem_append.mp h).elim (fun h => wsL_law_in_r2 w h) (fun h => ?_)
            refine (List.mem_append.mp h).elim (fun h => wsL_law_in_r3 w h) (fun h => ?_)
            refine (List.mem_append.mp h).elim (fun h => wsL_law_in_r4 w h) (fun h => ?_)
            refine (List.mem_append.mp h).elim (fun h => wsL_law_in_r5 w h) (fun h => ?_)
            refine (List.mem_append.mp h).elim (fun h => wsL_law_in_r6 w h) (fun h => ?_)
            refine (List.mem_append.mp h).elim (fun h => wsL_law_in_r7 w h) (fun h => ?_)
            refine (List.mem_append.mp h).elim (fun h => wsL_law_in_r8 w h) (fun h => ?_)
            refine (List.mem_append.mp h).elim (fun h => wsL_law_in_r9 w h) (fun h => ?_)
            refine (List.mem_append.mp h).elim (fun h => wsL_law_in_r10 w h) (fun h => ?_)
            refine (List.mem_append.mp h).elim (fun h => wsL_law_in_r11 w h) (fun h => ?_)
            refine (List.mem_append.mp h).elim (fun h => wsL_law_in_r12 w h) (fun h => ?_)
            refine (List.mem_append.mp h).elim (fun h => wsL_law_in_r13 w h) (fun h => ?_)
            exact wsL_law_in_r14 w h
          · exact wsL_law_in_x1 w h
        · exact wsL_law_in_x3 w h
      · exact wsL_law_in_x0 w h
    · exact wsL_law_in_x2 w h
  · cases h
end
section
theorem inlX0 : ∀ w ∈ wsX00, w ∈ wsL_law := fun _ h => List.mem_append_left _ (List.mem_append_left _ (List.mem_append_right _ h))
theorem inX0 : ∀ w ∈ wsX00, w ∈ lw_tbl := fun w h => wsL_law_in w (inlX0 w h)
theorem inlX1 : ∀ w ∈ wsX10, w ∈ wsL_law := fun _ h => List.mem_append_left _ (List.mem_append_left _ (List.mem_append_left _ (List.mem_append_left _ (List.mem_append_right _ h))))
theorem inX1 : ∀ w ∈ wsX10, w ∈ lw_tbl := fun w h => wsL_law_in w (inlX1 w h)
theorem inlX2 : ∀ w ∈ wsX20, w ∈ wsL_law := fun _ h => List.mem_append_left _ (List.mem_append_right _ h)
theorem inX2 : ∀ w ∈ wsX20, w ∈ lw_tbl := fun w h => wsL_law_in w (inlX2 w h)
theorem inlX3 : ∀ w ∈ wsX30, w ∈ wsL_law := fun _ h => List.mem_append_left _ (List.mem_append_left _ (List.mem_append_left _ (List.mem_append_right _ h)))
theorem inX3 : ∀ w ∈ wsX30, w ∈ lw_tbl := fun w h => wsL_law_in w (inlX3 w h)
theorem inJ10 : ∀ w ∈ wsJ100, w ∈ lw_tbl := by decide +kernel
theorem dX0_init_0 : decode cX0_init 0 = .ok (.aload_n 0, 1) := by decide +kernel
theorem dX0_init_1 : decode cX0_init 1 = .ok (.invokespecial 3, 3) := by decide +kernel
theorem dX0_init_4 : decode cX0_init 4 = .ok (.aload_n 0, 1) := by decide +kernel
theorem dX0_init_5 : decode cX0_init 5 = .ok (.iload_n 1, 1) := by decide +kernel
theorem dX0_init_6 : decode cX0_init 6 = .ok (.putfield 9, 3) := by decide +kernel
theorem dX0_init_9 : decode cX0_init 9 = .ok (.aload_n 0, 1) := by decide +kernel
theorem dX0_init_10 : decode cX0_init 10 = .ok (.iload_n 2, 1) := by decide +kernel
theorem dX0_init_11 : decode cX0_init 11 = .ok (.putfield 15, 3) := by decide +kernel
theorem dX0_init_14 : decode cX0_init 14 = .ok (.aload_n 0, 1) := by decide +kernel
theorem dX0_init_15 : decode cX0_init 15 = .ok (.iconst 1, 1) := by decide +kernel
theorem dX0_init_16 : decode cX0_init 16 = .ok (.iload_n 1, 1) := by decide +kernel
theorem dX0_init_17 : decode cX0_init 17 = .ok (.iadd, 1) := by decide +kernel
theorem dX0_init_18 : decode cX0_init 18 = .ok (.iload_n 2, 1) := by decide +kernel
theorem dX0_init_19 : decode cX0_init 19 = .ok (.iadd, 1) := by decide +kernel
theorem dX0_init_20 : decode cX0_init 20 = .ok (.newarray .int, 2) := by decide +kernel
theorem dX0_init_22 : decode cX0_init 22 = .ok (.putfield 18, 3) := by decide +kernel
theorem dX0_init_25 : decode cX0_init 25 = .ok (.aload_n 0, 1) := by decide +kernel
theorem dX0_init_26 : decode cX0_init 26 = .ok (.iconst 1, 1) := by decide +kernel
theorem dX0_init_27 : decode cX0_init 27 = .ok (.iload_n 1, 1) := by decide +kernel
theorem dX0_init_28 : decode cX0_init 28 = .ok (.iadd, 1) := by decide +kernel
theorem dX0_init_29 : decode cX0_init 29 = .ok (.iload_n 2, 1) := by decide +kernel
theorem dX0_init_30 : decode cX0_init 30 = .ok (.iadd, 1) := by decide +kernel
theorem dX0_init_31 : decode cX0_init 31 = .ok (.newarray .int, 2) := by decide +kernel
theorem dX0_init_33 : decode cX0_init 33 = .ok (.putfield 22, 3) := by decide +kernel
theorem dX0_init_36 : decode cX0_init 36 = .ok (.aload_n 0, 1) := by decide +kernel
theorem dX0_init_37 : decode cX0_init 37 = .ok (.iload_n 1, 1) := by decide +kernel
theorem dX0_init_38 : decode cX0_init 38 = .ok (.newarray .int, 2) := by decide +kernel
theorem dX0_init_40 : decode cX0_init 40 = .ok (.putfield 25, 3) := by decide +kernel
theorem dX0_init_43 : decode cX0_init 43 = .ok (.aload_n 0, 1) := by decide +kernel
theorem dX0_init_44 : decode cX0_init 44 = .ok (.iconst 1, 1) := by decide +kernel
theorem dX0_init_45 : decode cX0_init 45 = .ok (.iload_n 1, 1) := by decide +kernel
theorem dX0_init_46 : decode cX0_init 46 = .ok (.iadd, 1) := by decide +kernel
theorem dX0_init_47 : decode cX0_init 47 = .ok (.iload_n 2, 1) := by decide +kernel
theorem dX0_init_48 : decode cX0_init 48 = .ok (.iadd, 1) := by decide +kernel
theorem dX0_init_49 : decode cX0_init 49 = .ok (.newarray .long, 2) := by decide +kernel
theorem dX0_init_51 : decode cX0_init 51 = .ok (.putfield 28, 3) := by decide +kernel
theorem dX0_init_54 : decode cX0_init 54 = .ok (.aload_n 0, 1) := by decide +kernel
theorem dX0_init_55 : decode cX0_init 55 = .ok (.getfield 18, 3) := by decide +kernel
theorem dX0_init_58 : decode cX0_init 58 = .ok (.iconst 0, 1) := by decide +kernel
theorem dX0_init_59 : decode cX0_init 59 = .ok (.iconst (-1), 1) := by decide +kernel
theorem dX0_init_60 : decode cX0_init 60 = .ok (.iastore, 1) := by decide +kernel
theorem dX0_init_61 : decode cX0_init 61 = .ok (.aload_n 0, 1) := by decide +kernel
theorem dX0_init_62 : decode cX0_init 62 = .ok (.getfield 22, 3) := by decide +kernel
theorem dX0_init_65 : decode cX0_init 65 = .ok (.iconst 0, 1) := by decide +kernel
theorem dX0_init_66 : decode cX0_init 66 = .ok (.iconst (-1), 1) := by decide +kernel
theorem dX0_init_67 : decode cX0_init 67 = .ok (.iastore, 1) := by decide +kernel
theorem dX0_init_68 : decode cX0_init 68 = .ok (.aload_n 0, 1) := by decide +kernel
theorem dX0_init_69 : decode cX0_init 69 = .ok (.iconst 1, 1) := by decide +kernel
theorem dX0_init_70 : decode cX0_init 70 = .ok (.putfield 32, 3) := by decide +kernel
theorem dX0_init_73 : decode cX0_init 73 = .ok (.return_, 1) := by decide +kernel
theorem dX0_clear_0 : decode cX0_clear 0 = .ok (.aload_n 0, 1) := by decide +kernel
theorem dX0_clear_1 : decode cX0_clear 1 = .ok (.iconst 1, 1) := by decide +kernel
theorem dX0_clear_2 : decode cX0_clear 2 = .ok (.putfield 32, 3) := by decide +kernel
theorem dX0_clear_5 : decode cX0_clear 5 = .ok (.aload_n 0, 1) := by decide +kernel
theorem dX0_clear_6 : decode cX0_clear 6 = .ok (.iconst 0, 1) := by decide +kernel
theorem dX0_clear_7 : decode cX0_clear 7 = .ok (.putfield 35, 3) := by decide +kernel
theorem dX0_clear_10 : decode cX0_clear 10 = .ok (.return_, 1) := by decide +kernel
theorem dX0_holds_0 : decode cX0_holds 0 = .ok (.iload_n 1, 1) := by decide +kernel
theorem dX0_holds_1 : decode cX0_holds 1 = .ok (.ifCond .lt 17, 3) := by decide +kernel
theorem dX0_holds_4 : decode cX0_holds 4 = .ok (.iload_n 1, 1) := by decide +kernel
theorem dX0_holds_5 : decode cX0_holds 5 = .ok (.iconst 2, 1) := by decide +kernel
theorem dX0_holds_6 : decode cX0_holds 6 = .ok (.aload_n 0, 1) := by decide +kernel
theorem dX0_holds_7 : decode cX0_holds 7 = .ok (.getfield 32, 3) := by decide +kernel
theorem dX0_holds_10 : decode cX0_holds 10 = .ok (.imul, 1) := by decide +kernel
theorem dX0_holds_11 : decode cX0_holds 11 = .ok (.if_icmp .ge 7, 3) := by decide +kernel
theorem dX0_holds_14 : decode cX0_holds 14 = .ok (.iconst 1, 1) := by decide +kernel
theorem dX0_holds_15 : decode cX0_holds 15 = .ok (.goto 4, 3) := by decide +kernel
theorem dX0_holds_18 : decode cX0_holds 18 = .ok (.iconst 0, 1) := by decide +kernel
theorem dX0_holds_19 : decode cX0_holds 19 = .ok (.ireturn, 1) := by decide +kernel
theorem dX0_isGate_0 : decode cX0_isGate 0 = .ok (.aload_n 0, 1) := by decide +kernel
theorem dX0_isGate_1 : decode cX0_isGate 1 = .ok (.getfield 18, 3) := by decide +kernel
theorem dX0_isGate_4 : decode cX0_isGate 4 = .ok (.iload_n 1, 1) := by decide +kernel
theorem dX0_isGate_5 : decode cX0_isGate 5 = .ok (.iaload, 1) := by decide +kernel
theorem dX0_isGate_6 : decode cX0_isGate 6 = .ok (.iconst (-1), 1) := by decide +kernel
theorem dX0_isGate_7 : decode cX0_isGate 7 = .ok (.if_icmp .eq 7, 3) := by decide +kernel
theorem dX0_isGate_10 : decode cX0_isGate 10 = .ok (.iconst 1, 1) := by decide +kernel
theorem dX0_isGate_11 : decode cX0_isGate 11 = .ok (.goto 4, 3) := by decide +kernel
theorem dX0_isGate_14 : decode cX0_isGate 14 = .ok (.iconst 0, 1) := by decide +kernel
theorem dX0_isGate_15 : decode cX0_isGate 15 = .ok (.ireturn, 1) := by decide +kernel
set_option maxRecDepth 20000 in
theorem ggX0_addInput_X0_addNode : GoodIn wsX0_addInput wsX0_addNode := goodIn_r _ [9, 4, 10, 11, 12, 13, 14, 15, 16, 17, 18, 19] (by decide +kernel) (by decide +kernel)
set_option maxRecDepth 20000 in
theorem gX0_addInput_X0_addNode : GoodIn wsX0_addInput (wsV RX0 38 RX0 yX0_addNode wsX0_addNode) := goodIn_app (goodIn_of _ (by decide +kernel)) ggX0_addInput_X0_addNode
theorem dX0_addInput_0 : decode cX0_addInput 0 = .ok (.aload_n 0, 1) := by decide +kernel
theorem dX0_addInput_1 : decode cX0_addInput 1 = .ok (.getfield 35, 3) := by decide +kernel
theorem dX0_addInput_4 : decode cX0_addInput 4 = .ok (.aload_n 0, 1) := by decide +kernel
theorem dX0_addInput_5 : decode cX0_addInput 5 = .ok (.getfield 9, 3) := by decide +kernel
theorem dX0_addInput_8 : decode cX0_addInput 8 = .ok (.if_icmp .lt 5, 3) := by decide +kernel
theorem dX0_addInput_11 : decode cX0_addInput 11 = .ok (.iconst (-1), 1) := by decide +kernel
theorem dX0_addInput_12 : decode cX0_addInput 12 = .ok (.ireturn, 1) := by decide +kernel
theorem dX0_addInput_13 : decode cX0_addInput 13 = .ok (.aload_n 0, 1) := by decide +kernel
theorem dX0_addInput_14 : decode cX0_addInput 14 = .ok (.getfield 25, 3) := by decide +kernel
theorem dX0_addInput_17 : decode cX0_addInput 17 = .ok (.aload_n 0, 1) := by decide +kernel
theorem dX0_addInput_18 : decode cX0_addInput 18 = .ok (.getfield 35, 3) := by decide +kernel
theorem dX0_addInput_21 : decode cX0_addInput 21 = .ok (.aload_n 0, 1) := by decide +kernel
theorem dX0_addInput_22 : decode cX0_addInput 22 = .ok (.getfield 32, 3) := by decide +kernel
theorem dX0_addInput_25 : decode cX0_addInput 25 = .ok (.iastore, 1) := by decide +kernel
theorem dX0_addInput_26 : decode cX0_addInput 26 = .ok (.aload_n 0, 1) := by decide +kernel
theorem dX0_addInput_27 : decode cX0_addInput 27 = .ok (.dup, 1) := by decide +kernel
theorem dX0_addInput_28 : decode cX0_addInput 28 = .ok (.getfield 35, 3) := by decide +kernel
theorem dX0_addInput_31 : decode cX0_addInput 31 = .ok (.iconst 1, 1) := by decide +kernel
theorem dX0_addInput_32 : decode cX0_addInput 32 = .ok (.iadd, 1) := by decide +kernel
theorem dX0_addInput_33 : decode cX0_addInput 33 = .ok (.putfield 35, 3) := by decide +kernel
theorem dX0_addInput_36 : decode cX0_addInput 36 = .ok (.aload_n 0, 1) := by decide +kernel
theorem dX0_addInput_37 : decode cX0_addInput 37 = .ok (.iconst (-1), 1) := by decide +kernel
theorem dX0_addInput_38 : decode cX0_addInput 38 = .ok (.iconst (-1), 1) := by decide +kernel
theorem dX0_addInput_39 : decode cX0_addInput 39 = .ok (.invokevirtual 38, 3) := by decide +kernel
theorem dX0_addInput_42 : decode cX0_addInput 42 = .ok (.ireturn, 1) := by decide +kernel
set_option maxRecDepth 20000 in
theorem ggX0_both_X0_holds : GoodIn wsX0_both wsX0_holds := goodIn_r _ [5, 6, 22, 23, 24, 25, 26, 27, 28, 29] (by decide +kernel) (by decide +kernel)
set_option maxRecDepth 20000 in
theorem gX0_both_X0_holds : GoodIn wsX0_both (wsV RX0 42 RX0 yX0_holds wsX0_holds) := goodIn_app (goodIn_of _ (by decide +kernel)) ggX0_both_X0_holds
set_option maxRecDepth 20000 in
theorem ggX0_both_X1_not : GoodIn wsX0_both wsX1_not := goodIn_r _ [9] (by decide +kernel) (by decide +kernel)
set_option maxRecDepth 20000 in
theorem gX0_both_X1_not_n46 : GoodIn wsX0_both (wsX1_not) := ggX0_both_X1_not
set_option maxRecDepth 20000 in
theorem ggX0_both_X0_gateOf : GoodIn wsX0_both wsX0_gateOf := goodIn_r _ [13, 6, 14, 15, 16, 17, 18, 19, 20, 4, 21, 22, 23, 24, 25, 26, 27, 28, 29] (by decide +kernel) (by decide +kernel)
set_option maxRecDepth 20000 in
theorem gX0_both_X0_gateOf : GoodIn wsX0_both (wsV RX0 50 RX0 yX0_gateOf wsX0_gateOf) := goodIn_app (goodIn_of _ (by decide +kernel)) ggX0_both_X0_gateOf
theorem dX0_both_0 : decode cX0_both 0 = .ok (.aload_n 0, 1) := by decide +kernel
theorem dX0_both_1 : decode cX0_both 1 = .ok (.iload_n 1, 1) := by decide +kernel
theorem dX0_both_2 : decode cX0_both 2 = .ok (.invokevirtual 42, 3) := by decide +kernel
theorem dX0_both_5 : decode cX0_both 5 = .ok (.ifCond .eq 11, 3) := by decide +kernel
theorem dX0_both_8 : decode cX0_both 8 = .ok (.aload_n 0, 1) := by decide +kernel
theorem dX0_both_9 : decode cX0_both 9 = .ok (.iload_n 2, 1) := by decide +kernel
theorem dX0_both_10 : decode cX0_both 10 = .ok (.invokevirtual 42, 3) := by decide +kernel
theorem dX0_both_13 : decode cX0_both 13 = .ok (.ifCond .ne 5, 3) := by decide +kernel
theorem dX0_both_16 : decode cX0_both 16 = .ok (.iconst (-1), 1) := by decide +kernel
theorem dX0_both_17 : decode cX0_both 17 = .ok (.ireturn, 1) := by decide +kernel
theorem dX0_both_18 : decode cX0_both 18 = .ok (.iload_n 1, 1) := by decide +kernel
theorem dX0_both_19 : decode cX0_both 19 = .ok (.ifCond .eq 15, 3) := by decide +kernel
theorem dX0_both_22 : decode cX0_both 22 = .ok (.iload_n 2, 1) := by decide +kernel
theorem dX0_both_23 : decode cX0_both 23 = .ok (.ifCond .eq 11, 3) := by decide +kernel
theorem dX0_both_26 : decode cX0_both 26 = .ok (.iload_n 1, 1) := by decide +kernel
theorem dX0_both_27 : decode cX0_both 27 = .ok (.iload_n 2, 1) := by decide +kernel
theorem dX0_both_28 : decode cX0_both 28 = .ok (.invokestatic 46, 3) := by decide +kernel
theorem dX0_both_31 : decode cX0_both 31 = .ok (.if_icmp .ne 5, 3) := by decide +kernel
theorem dX0_both_34 : decode cX0_both 34 = .ok (.iconst 0, 1) := by decide +kernel
theorem dX0_both_35 : decode cX0_both 35 = .ok (.ireturn, 1) := by decide +kernel
theorem dX0_both_36 : decode cX0_both 36 = .ok (.iload_n 2, 1) := by decide +kernel
theorem dX0_both_37 : decode cX0_both 37 = .ok (.iconst 0, 1) := by decide +kernel
theorem dX0_both_38 : decode cX0_both 38 = .ok (.invokestatic 46, 3) := by decide +kernel
theorem dX0_both_41 : decode cX0_both 41 = .ok (.if_icmp .eq 8, 3) := by decide +kernel
theorem dX0_both_44 : decode cX0_both 44 = .ok (.iload_n 1, 1) := by decide +kernel
theorem dX0_both_45 : decode cX0_both 45 = .ok (.iload_n 2, 1) := by decide +kernel
theorem dX0_both_46 : decode cX0_both 46 = .ok (.if_icmp .ne 5, 3) := by decide +kernel
theorem dX0_both_49 : decode cX0_both 49 = .ok (.iload_n 1, 1) := by decide +kernel
theorem dX0_both_50 : decode cX0_both 50 = .ok (.ireturn, 1) := by decide +kernel
theorem dX0_both_51 : decode cX0_both 51 = .ok (.iload_n 1, 1) := by decide +kernel
theorem dX0_both_52 : decode cX0_both 52 = .ok (.iconst 0, 1) := by decide +kernel
theorem dX0_both_53 : decode cX0_both 53 = .ok (.invokestatic 46, 3) := by decide +kernel
theorem dX0_both_56 : decode cX0_both 56 = .ok (.if_icmp .ne 5, 3) := by decide +kernel
theorem dX0_both_59 : decode cX0_both 59 = .ok (.iload_n 2, 1) := by decide +kernel
theorem dX0_both_60 : decode cX0_both 60 = .ok (.ireturn, 1) := by decide +kernel
theorem dX0_both_61 : decode cX0_both 61 = .ok (.iload_n 1, 1) := by decide +kernel
theorem dX0_both_62 : decode cX0_both 62 = .ok (.iload_n 2, 1) := by decide +kernel
theorem dX0_both_63 : decode cX0_both 63 = .ok (.if_icmp .ge 12, 3) := by decide +kernel
theorem dX0_both_66 : decode cX0_both 66 = .ok (.aload_n 0, 1) := by decide +kernel
theorem dX0_both_67 : decode cX0_both 67 = .ok (.iload_n 1, 1) := by decide +kernel
theorem dX0_both_68 : decode cX0_both 68 = .ok (.iload_n 2, 1) := by decide +kernel
theorem dX0_both_69 : decode cX0_both 69 = .ok (.invokevirtual 50, 3) := by decide +kernel
theorem dX0_both_72 : decode cX0_both 72 = .ok (.goto 9, 3) := by decide +kernel
theorem dX0_both_75 : decode cX0_both 75 = .ok (.aload_n 0, 1) := by decide +kernel
theorem dX0_both_76 : decode cX0_both 76 = .ok (.iload_n 2, 1) := by decide +kernel
theorem dX0_both_77 : decode cX0_both 77 = .ok (.iload_n 1, 1) := by decide +kernel
theorem dX0_both_78 : decode cX0_both 78 = .ok (.invokevirtual 50, 3) := by decide +kernel
theorem dX0_both_81 : decode cX0_both 81 = .ok (.ireturn, 1) := by decide +kernel
set_option maxRecDepth 20000 in
theorem ggX0_either_X1_not : GoodIn wsX0_either wsX1_not := goodIn_r _ [3] (by decide +kernel) (by decide +kernel)
set_option maxRecDepth 20000 in
theorem gX0_either_X1_not_n46 : GoodIn wsX0_either (wsX1_not) := ggX0_either_X1_not
set_option maxRecDepth 20000 in
theorem ggX0_either_X0_both : GoodIn wsX0_either wsX0_both := goodIn_r _ [8, 9, 10, 11, 7, 12, 13, 1, 2, 3, 14, 15, 16, 17, 18, 19, 20, 21, 22, 23, 24, 25, 26, 27, 28, 29, 30, 31, 32, 33] (by decide +kernel) (by decide +kernel)
set_option maxRecDepth 20000 in
theorem gX0_either_X0_both : GoodIn wsX0_either (wsV RX0 53 RX0 yX0_both wsX0_both) := goodIn_app (goodIn_of _ (by decide +kernel)) ggX0_either_X0_both
theorem dX0_either_0 : decode cX0_either 0 = .ok (.aload_n 0, 1) := by decide +kernel
theorem dX0_either_1 : decode cX0_either 1 = .ok (.iload_n 1, 1) := by decide +kernel
theorem dX0_either_2 : decode cX0_either 2 = .ok (.invokestatic 46, 3) := by decide +kernel
theorem dX0_either_5 : decode cX0_either 5 = .ok (.iload_n 2, 1) := by decide +kernel
theorem dX0_either_6 : decode cX0_either 6 = .ok (.invokestatic 46, 3) := by decide +kernel
theorem dX0_either_9 : decode cX0_either 9 = .ok (.invokevirtual 53, 3) := by decide +kernel
theorem dX0_either_12 : decode cX0_either 12 = .ok (.invokestatic 46, 3) := by decide +kernel
theorem dX0_either_15 : decode cX0_either 15 = .ok (.ireturn, 1) := by decide +kernel
set_option maxRecDepth 20000 in
theorem ggX0_gateOf_X0_addNode : GoodIn wsX0_gateOf wsX0_addNode := goodIn_r _ [10, 1, 2, 3, 11, 12, 13, 14, 15, 16, 17, 18] (by decide +kernel) (by decide +kernel)
set_option maxRecDepth 20000 in
theorem gX0_gateOf_X0_addNode : GoodIn wsX0_gateOf (wsV RX0 38 RX0 yX0_addNode wsX0_addNode) := goodIn_app (goodIn_of _ (by decide +kernel)) ggX0_gateOf_X0_addNode
theorem dX0_gateOf_0 : decode cX0_gateOf 0 = .ok (.iload_n 2, 1) := by decide +kernel
theorem dX0_gateOf_1 : decode cX0_gateOf 1 = .ok (.iconst 1, 1) := by decide +kernel
theorem dX0_gateOf_2 : decode cX0_gateOf 2 = .ok (.ishr, 1) := by decide +kernel
theorem dX0_gateOf_3 : decode cX0_gateOf 3 = .ok (.iconst 1, 1) := by decide +kernel
theorem dX0_gateOf_4 : decode cX0_gateOf 4 = .ok (.iadd, 1) := by decide +kernel
theorem dX0_gateOf_5 : decode cX0_gateOf 5 = .ok (.istore_n 3, 1) := by decide +kernel
theorem dX0_gateOf_6 : decode cX0_gateOf 6 = .ok (.iload_n 3, 1) := by decide +kernel
theorem dX0_gateOf_7 : decode cX0_gateOf 7 = .ok (.aload_n 0, 1) := by decide +kernel
theorem dX0_gateOf_8 : decode cX0_gateOf 8 = .ok (.getfield 32, 3) := by decide +kernel
theorem dX0_gateOf_11 : decode cX0_gateOf 11 = .ok (.if_icmp .ge 33, 3) := by decide +kernel
theorem dX0_gateOf_14 : decode cX0_gateOf 14 = .ok (.aload_n 0, 1) := by decide +kernel
theorem dX0_gateOf_15 : decode cX0_gateOf 15 = .ok (.getfield 18, 3) := by decide +kernel
theorem dX0_gateOf_18 : decode cX0_gateOf 18 = .ok (.iload_n 3, 1) := by decide +kernel
theorem dX0_gateOf_19 : decode cX0_gateOf 19 = .ok (.iaload, 1) := by decide +kernel
theorem dX0_gateOf_20 : decode cX0_gateOf 20 = .ok (.iload_n 1, 1) := by decide +kernel
theorem dX0_gateOf_21 : decode cX0_gateOf 21 = .ok (.if_icmp .ne 17, 3) := by decide +kernel
theorem dX0_gateOf_24 : decode cX0_gateOf 24 = .ok (.aload_n 0, 1) := by decide +kernel
theorem dX0_gateOf_25 : decode cX0_gateOf 25 = .ok (.getfield 22, 3) := by decide +kernel
theorem dX0_gateOf_28 : decode cX0_gateOf 28 = .ok (.iload_n 3, 1) := by decide +kernel
theorem dX0_gateOf_29 : decode cX0_gateOf 29 = .ok (.iaload, 1) := by decide +kernel
theorem dX0_gateOf_30 : decode cX0_gateOf 30 = .ok (.iload_n 2, 1) := by decide +kernel
theorem dX0_gateOf_31 : decode cX0_gateOf 31 = .ok (.if_icmp .ne 7, 3) := by decide +kernel
theorem dX0_gateOf_34 : decode cX0_gateOf 34 = .ok (.iconst 2, 1) := by decide +kernel
theorem dX0_gateOf_35 : decode cX0_gateOf 35 = .ok (.iload_n 3, 1) := by decide +kernel
theorem dX0_gateOf_36 : decode cX0_gateOf 36 = .ok (.imul, 1) := by decide +kernel
theorem dX0_gateOf_37 : decode cX0_gateOf 37 = .ok (.ireturn, 1) := by decide +kernel
theorem dX0_gateOf_38 : decode cX0_gateOf 38 = .ok (.iinc 3 1, 3) := by decide +kernel
theorem dX0_gateOf_41 : decode cX0_gateOf 41 = .ok (.goto (-35), 3) := by decide +kernel
theorem dX0_gateOf_44 : decode cX0_gateOf 44 = .ok (.aload_n 0, 1) := by decide +kernel
theorem dX0_gateOf_45 : decode cX0_gateOf 45 = .ok (.getfield 32, 3) := by decide +kernel
theorem dX0_gateOf_48 : decode cX0_gateOf 48 = .ok (.iconst 1, 1) := by decide +kernel
theorem dX0_gateOf_49 : decode cX0_gateOf 49 = .ok (.isub, 1) := by decide +kernel
theorem dX0_gateOf_50 : decode cX0_gateOf 50 = .ok (.aload_n 0, 1) := by decide +kernel
theorem dX0_gateOf_51 : decode cX0_gateOf 51 = .ok (.getfield 35, 3) := by decide +kernel
theorem dX0_gateOf_54 : decode cX0_gateOf 54 = .ok (.isub, 1) := by decide +kernel
theorem dX0_gateOf_55 : decode cX0_gateOf 55 = .ok (.istore_n 3, 1) := by decide +kernel
theorem dX0_gateOf_56 : decode cX0_gateOf 56 = .ok (.iload_n 3, 1) := by decide +kernel
theorem dX0_gateOf_57 : decode cX0_gateOf 57 = .ok (.aload_n 0, 1) := by decide +kernel
theorem dX0_gateOf_58 : decode cX0_gateOf 58 = .ok (.getfield 15, 3) := by decide +kernel
theorem dX0_gateOf_61 : decode cX0_gateOf 61 = .ok (.if_icmp .lt 7, 3) := by decide +kernel
theorem dX0_gateOf_64 : decode cX0_gateOf 64 = .ok (.iconst (-1), 1) := by decide +kernel
theorem dX0_gateOf_65 : decode cX0_gateOf 65 = .ok (.goto 9, 3) := by decide +kernel
theorem dX0_gateOf_68 : decode cX0_gateOf 68 = .ok (.aload_n 0, 1) := by decide +kernel
theorem dX0_gateOf_69 : decode cX0_gateOf 69 = .ok (.iload_n 1, 1) := by decide +kernel
theorem dX0_gateOf_70 : decode cX0_gateOf 70 = .ok (.iload_n 2, 1) := by decide +kernel
theorem dX0_gateOf_71 : decode cX0_gateOf 71 = .ok (.invokevirtual 38, 3) := by decide +kernel
theorem dX0_gateOf_74 : decode cX0_gateOf 74 = .ok (.ireturn, 1) := by decide +kernel
theorem dX0_addNode_0 : decode cX0_addNode 0 = .ok (.aload_n 0, 1) := by decide +kernel
theorem dX0_addNode_1 : decode cX0_addNode 1 = .ok (.getfield 32, 3) := by decide +kernel
theorem dX0_addNode_4 : decode cX0_addNode 4 = .ok (.istore_n 3, 1) := by decide +kernel
theorem dX0_addNode_5 : decode cX0_addNode 5 = .ok (.aload_n 0, 1) := by decide +kernel
theorem dX0_addNode_6 : decode cX0_addNode 6 = .ok (.getfield 18, 3) := by decide +kernel
theorem dX0_addNode_9 : decode cX0_addNode 9 = .ok (.iload_n 3, 1) := by decide +kernel
theorem dX0_addNode_10 : decode cX0_addNode 10 = .ok (.iload_n 1, 1) := by decide +kernel
theorem dX0_addNode_11 : decode cX0_addNode 11 = .ok (.iastore, 1) := by decide +kernel
theorem dX0_addNode_12 : decode cX0_addNode 12 = .ok (.aload_n 0, 1) := by decide +kernel
theorem dX0_addNode_13 : decode cX0_addNode 13 = .ok (.getfield 22, 3) := by decide +kernel
theorem dX0_addNode_16 : decode cX0_addNode 16 = .ok (.iload_n 3, 1) := by decide +kernel
theorem dX0_addNode_17 : decode cX0_addNode 17 = .ok (.iload_n 2, 1) := by decide +kernel
theorem dX0_addNode_18 : decode cX0_addNode 18 = .ok (.iastore, 1) := by decide +kernel
theorem dX0_addNode_19 : decode cX0_addNode 19 = .ok (.aload_n 0, 1) := by decide +kernel
theorem dX0_addNode_20 : decode cX0_addNode 20 = .ok (.dup, 1) := by decide +kernel
theorem dX0_addNode_21 : decode cX0_addNode 21 = .ok (.getfield 32, 3) := by decide +kernel
theorem dX0_addNode_24 : decode cX0_addNode 24 = .ok (.iconst 1, 1) := by decide +kernel
theorem dX0_addNode_25 : decode cX0_addNode 25 = .ok (.iadd, 1) := by decide +kernel
theorem dX0_addNode_26 : decode cX0_addNode 26 = .ok (.putfield 32, 3) := by decide +kernel
theorem dX0_addNode_29 : decode cX0_addNode 29 = .ok (.iconst 2, 1) := by decide +kernel
theorem dX0_addNode_30 : decode cX0_addNode 30 = .ok (.iload_n 3, 1) := by decide +kernel
theorem dX0_addNode_31 : decode cX0_addNode 31 = .ok (.imul, 1) := by decide +kernel
theorem dX0_addNode_32 : decode cX0_addNode 32 = .ok (.ireturn, 1) := by decide +kernel
theorem dX0_wordOf_0 : decode cX0_wordOf 0 = .ok (.aload_n 0, 1) := by decide +kernel
theorem dX0_wordOf_1 : decode cX0_wordOf 1 = .ok (.getfield 28, 3) := by decide +kernel
theorem dX0_wordOf_4 : decode cX0_wordOf 4 = .ok (.iload_n 1, 1) := by decide +kernel
theorem dX0_wordOf_5 : decode cX0_wordOf 5 = .ok (.iconst 1, 1) := by decide +kernel
theorem dX0_wordOf_6 : decode cX0_wordOf 6 = .ok (.ishr, 1) := by decide +kernel
theorem dX0_wordOf_7 : decode cX0_wordOf 7 = .ok (.laload, 1) := by decide +kernel
theorem dX0_wordOf_8 : decode cX0_wordOf 8 = .ok (.lstore_n 2, 1) := by decide +kernel
theorem dX0_wordOf_9 : decode cX0_wordOf 9 = .ok (.iload_n 1, 1) := by decide +kernel
theorem dX0_wordOf_10 : decode cX0_wordOf 10 = .ok (.iconst 1, 1) := by decide +kernel
theorem dX0_wordOf_11 : decode cX0_wordOf 11 = .ok (.iand, 1) := by decide +kernel
theorem dX0_wordOf_12 : decode cX0_wordOf 12 = .ok (.ifCond .ne 7, 3) := by decide +kernel
theorem dX0_wordOf_15 : decode cX0_wordOf 15 = .ok (.lload_n 2, 1) := by decide +kernel
theorem dX0_wordOf_16 : decode cX0_wordOf 16 = .ok (.goto 8, 3) := by decide +kernel
theorem dX0_wordOf_19 : decode cX0_wordOf 19 = .ok (.lload_n 2, 1) := by decide +kernel
theorem dX0_wordOf_20 : decode cX0_wordOf 20 = .ok (.ldc2_w 56, 3) := by decide +kernel
theorem dX0_wordOf_23 : decode cX0_wordOf 23 = .ok (.lxor, 1) := by decide +kernel
theorem dX0_wordOf_24 : decode cX0_wordOf 24 = .ok (.lreturn, 1) := by decide +kernel
set_option maxRecDepth 20000 in
theorem ggX0_spread_X0_isGate : GoodIn wsX0_spread wsX0_isGate := goodIn_r _ [9, 3, 15, 16, 17, 18, 19, 20, 21, 22] (by decide +kernel) (by decide +kernel)
set_option maxRecDepth 20000 in
theorem gX0_spread_X0_isGate : GoodIn wsX0_spread (wsV RX0 58 RX0 yX0_isGate wsX0_isGate) := goodIn_app (goodIn_of _ (by decide +kernel)) ggX0_spread_X0_isGate
set_option maxRecDepth 20000 in
theorem ggX0_spread_X0_wordOf : GoodIn wsX0_spread wsX0_wordOf := goodIn_r _ [13, 2, 14, 15, 16, 17, 18, 19, 20, 21, 22] (by decide +kernel) (by decide +kernel)
set_option maxRecDepth 20000 in
theorem gX0_spread_X0_wordOf : GoodIn wsX0_spread (wsV RX0 61 RX0 yX0_wordOf wsX0_wordOf) := goodIn_app (goodIn_of _ (by decide +kernel)) ggX0_spread_X0_wordOf
theorem dX0_spread_0 : decode cX0_spread 0 = .ok (.iconst 0, 1) := by decide +kernel
theorem dX0_spread_1 : decode cX0_spread 1 = .ok (.istore_n 1, 1) := by decide +kernel
theorem dX0_spread_2 : decode cX0_spread 2 = .ok (.iload_n 1, 1) := by decide +kernel
theorem dX0_spread_3 : decode cX0_spread 3 = .ok (.aload_n 0, 1) := by decide +kernel
theorem dX0_spread_4 : decode cX0_spread 4 = .ok (.getfield 32, 3) := by decide +kernel
theorem dX0_spread_7 : decode cX0_spread 7 = .ok (.if_icmp .ge 44, 3) := by decide +kernel
theorem dX0_spread_10 : decode cX0_spread 10 = .ok (.aload_n 0, 1) := by decide +kernel
theorem dX0_spread_11 : decode cX0_spread 11 = .ok (.iload_n 1, 1) := by decide +kernel
theorem dX0_spread_12 : decode cX0_spread 12 = .ok (.invokevirtual 58, 3) := by decide +kernel
theorem dX0_spread_15 : decode cX0_spread 15 = .ok (.ifCond .eq 30, 3) := by decide +kernel
theorem dX0_spread_18 : decode cX0_spread 18 = .ok (.aload_n 0, 1) := by decide +kernel
theorem dX0_spread_19 : decode cX0_spread 19 = .ok (.getfield 28, 3) := by decide +kernel
theorem dX0_spread_22 : decode cX0_spread 22 = .ok (.iload_n 1, 1) := by decide +kernel
theorem dX0_spread_23 : decode cX0_spread 23 = .ok (.aload_n 0, 1) := by decide +kernel
theorem dX0_spread_24 : decode cX0_spread 24 = .ok (.aload_n 0, 1) := by decide +kernel
theorem dX0_spread_25 : decode cX0_spread 25 = .ok (.getfield 18, 3) := by decide +kernel
theorem dX0_spread_28 : decode cX0_spread 28 = .ok (.iload_n 1, 1) := by decide +kernel
theorem dX0_spread_29 : decode cX0_spread 29 = .ok (.iaload, 1) := by decide +kernel
theorem dX0_spread_30 : decode cX0_spread 30 = .ok (.invokevirtual 61, 3) := by decide +kernel
theorem dX0_spread_33 : decode cX0_spread 33 = .ok (.aload_n 0, 1) := by decide +kernel
theorem dX0_spread_34 : decode cX0_spread 34 = .ok (.aload_n 0, 1) := by decide +kernel
theorem dX0_spread_35 : decode cX0_spread 35 = .ok (.getfield 22, 3) := by decide +kernel
theorem dX0_spread_38 : decode cX0_spread 38 = .ok (.iload_n 1, 1) := by decide +kernel
theorem dX0_spread_39 : decode cX0_spread 39 = .ok (.iaload, 1) := by decide +kernel
theorem dX0_spread_40 : decode cX0_spread 40 = .ok (.invokevirtual 61, 3) := by decide +kernel
theorem dX0_spread_43 : decode cX0_spread 43 = .ok (.land, 1) := by decide +kernel
theorem dX0_spread_44 : decode cX0_spread 44 = .ok (.lastore, 1) := by decide +kernel
theorem dX0_spread_45 : decode cX0_spread 45 = .ok (.iinc 1 1, 3) := by decide +kernel
theorem dX0_spread_48 : decode cX0_spread 48 = .ok (.goto (-46), 3) := by decide +kernel
theorem dX0_spread_51 : decode cX0_spread 51 = .ok (.return_, 1) := by decide +kernel
set_option maxRecDepth 20000 in
theorem ggX1_init_X0_init : GoodIn wsX1_init wsX0_init := goodIn_r _ [18, 19, 2, 3, 20, 21, 10, 22, 23, 24, 15, 25, 26, 27, 28, 29, 30, 31, 32, 33, 34] (by decide +kernel) (by decide +kernel)
set_option maxRecDepth 20000 in
theorem gX1_init_X0_init_n11 : GoodIn wsX1_init (wsX0_init) := ggX1_init_X0_init
theorem dX1_init_0 : decode cX1_init 0 = .ok (.aload_n 0, 1) := by decide +kernel
theorem dX1_init_1 : decode cX1_init 1 = .ok (.invokespecial 1, 3) := by decide +kernel
theorem dX1_init_4 : decode cX1_init 4 = .ok (.aload_n 0, 1) := by decide +kernel
theorem dX1_init_5 : decode cX1_init 5 = .ok (.new 7, 3) := by decide +kernel
theorem dX1_init_8 : decode cX1_init 8 = .ok (.dup, 1) := by decide +kernel
theorem dX1_init_9 : decode cX1_init 9 = .ok (.bipush 64, 2) := by decide +kernel
theorem dX1_init_11 : decode cX1_init 11 = .ok (.sipush 400, 3) := by decide +kernel
theorem dX1_init_14 : decode cX1_init 14 = .ok (.invokespecial 11, 3) := by decide +kernel
theorem dX1_init_17 : decode cX1_init 17 = .ok (.putfield 14, 3) := by decide +kernel
theorem dX1_init_20 : decode cX1_init 20 = .ok (.aload_n 0, 1) := by decide +kernel
theorem dX1_init_21 : decode cX1_init 21 = .ok (.new 7, 3) := by decide +kernel
theorem dX1_init_24 : decode cX1_init 24 = .ok (.dup, 1) := by decide +kernel
theorem dX1_init_25 : decode cX1_init 25 = .ok (.sipush 128, 3) := by decide +kernel
theorem dX1_init_28 : decode cX1_init 28 = .ok (.sipush 1500, 3) := by decide +kernel
theorem dX1_init_31 : decode cX1_init 31 = .ok (.invokespecial 11, 3) := by decide +kernel
theorem dX1_init_34 : decode cX1_init 34 = .ok (.putfield 18, 3) := by decide +kernel
theorem dX1_init_37 : decode cX1_init 37 = .ok (.aload_n 0, 1) := by decide +kernel
theorem dX1_init_38 : decode cX1_init 38 = .ok (.iconst (-1), 1) := by decide +kernel
theorem dX1_init_39 : decode cX1_init 39 = .ok (.putfield 21, 3) := by decide +kernel
theorem dX1_init_42 : decode cX1_init 42 = .ok (.aload_n 0, 1) := by decide +kernel
theorem dX1_init_43 : decode cX1_init 43 = .ok (.sipush 465, 3) := by decide +kernel
theorem dX1_init_46 : decode cX1_init 46 = .ok (.newarray .int, 2) := by decide +kernel
theorem dX1_init_48 : decode cX1_init 48 = .ok (.putfield 25, 3) := by decide +kernel
theorem dX1_init_51 : decode cX1_init 51 = .ok (.aload_n 0, 1) := by decide +kernel
theorem dX1_init_52 : decode cX1_init 52 = .ok (.sipush 465, 3) := by decide +kernel
theorem dX1_init_55 : decode cX1_init 55 = .ok (.newarray .int, 2) := by decide +kernel
theorem dX1_init_57 : decode cX1_init 57 = .ok (.putfield 29, 3) := by decide +kernel
theorem dX1_init_60 : decode cX1_init 60 = .ok (.aload_n 0, 1) := by decide +kernel
theorem dX1_init_61 : decode cX1_init 61 = .ok (.bipush 64, 2) := by decide +kernel
theorem dX1_init_63 : decode cX1_init 63 = .ok (.newarray .int, 2) := by decide +kernel
theorem dX1_init_65 : decode cX1_init 65 = .ok (.putfield 32, 3) := by decide +kernel
theorem dX1_init_68 : decode cX1_init 68 = .ok (.aload_n 0, 1) := by decide +kernel
theorem dX1_init_69 : decode cX1_init 69 = .ok (.bipush 64, 2) := by decide +kernel
theorem dX1_init_71 : decode cX1_init 71 = .ok (.newarray .int, 2) := by decide +kernel
theorem dX1_init_73 : decode cX1_init 73 = .ok (.putfield 35, 3) := by decide +kernel
theorem dX1_init_76 : decode cX1_init 76 = .ok (.aload_n 0, 1) := by decide +kernel
theorem dX1_init_77 : decode cX1_init 77 = .ok (.sipush 465, 3) := by decide +kernel
theorem dX1_init_80 : decode cX1_init 80 = .ok (.newarray .long, 2) := by decide +kernel
theorem dX1_init_82 : decode cX1_init 82 = .ok (.putfield 38, 3) := by decide +kernel
theorem dX1_init_85 : decode cX1_init 85 = .ok (.return_, 1) := by decide +kernel
set_option maxRecDepth 20000 in
theorem ggX1_input_X0_addInput : GoodIn wsX1_input wsX0_addInput := goodIn_r _ [5, 6, 7, 8, 9, 10, 11, 12, 3, 13, 14, 15, 24, 25, 26, 27, 28, 29, 30, 31] (by decide +kernel) (by decide +kernel)
set_option maxRecDepth 20000 in
theorem gX1_input_X0_addInput_n42 : GoodIn wsX1_input (wsX0_addInput) := ggX1_input_X0_addInput
theorem dX1_input_0 : decode cX1_input 0 = .ok (.aload_n 0, 1) := by decide +kernel
theorem dX1_input_1 : decode cX1_input 1 = .ok (.getfield 14, 3) := by decide +kernel
theorem dX1_input_4 : decode cX1_input 4 = .ok (.invokevirtual 42, 3) := by decide +kernel
theorem dX1_input_7 : decode cX1_input 7 = .ok (.ireturn, 1) := by decide +kernel
set_option maxRecDepth 20000 in
theorem ggX1_and_X0_both : GoodIn wsX1_and wsX0_both := goodIn_r _ [5, 6, 7, 8, 3, 9, 10, 11, 12, 13, 14, 15, 16, 17, 18, 19, 20, 21, 22, 23, 24, 25, 34, 35, 36, 37, 38, 39, 40, 41] (by decide +kernel) (by decide +kernel)
set_option maxRecDepth 20000 in
theorem gX1_and_X0_both_n46 : GoodIn wsX1_and (wsX0_both) := ggX1_and_X0_both
theorem dX1_and_0 : decode cX1_and 0 = .ok (.aload_n 0, 1) := by decide +kernel
theorem dX1_and_1 : decode cX1_and 1 = .ok (.getfield 14, 3) := by decide +kernel
theorem dX1_and_4 : decode cX1_and 4 = .ok (.iload_n 1, 1) := by decide +kernel
theorem dX1_and_5 : decode cX1_and 5 = .ok (.iload_n 2, 1) := by decide +kernel
theorem dX1_and_6 : decode cX1_and 6 = .ok (.invokevirtual 46, 3) := by decide +kernel
theorem dX1_and_9 : decode cX1_and 9 = .ok (.ireturn, 1) := by decide +kernel
set_option maxRecDepth 20000 in
theorem ggX1_or_X0_either : GoodIn wsX1_or wsX0_either := goodIn_r _ [5, 6, 7, 8, 9, 10, 11, 3, 12, 13, 14, 15, 16, 17, 18, 19, 20, 21, 22, 23, 24, 25, 26, 27, 28, 29, 38, 39, 40, 41, 42, 43, 44, 45] (by decide +kernel) (by decide +kernel)
set_option maxRecDepth 20000 in
theorem gX1_or_X0_either_n50 : GoodIn wsX1_or (wsX0_either) := ggX1_or_X0_either
theorem dX1_or_0 : decode cX1_or 0 = .ok (.aload_n 0, 1) := by decide +kernel
theorem dX1_or_1 : decode cX1_or 1 = .ok (.getfield 14, 3) := by decide +kernel
theorem dX1_or_4 : decode cX1_or 4 = .ok (.iload_n 1, 1) := by decide +kernel
theorem dX1_or_5 : decode cX1_or 5 = .ok (.iload_n 2, 1) := by decide +kernel
theorem dX1_or_6 : decode cX1_or 6 = .ok (.invokevirtual 50, 3) := by decide +kernel
theorem dX1_or_9 : decode cX1_or 9 = .ok (.ireturn, 1) := by decide +kernel
set_option maxRecDepth 20000 in
theorem ggX1_xor_X1_not : GoodIn wsX1_xor wsX1_not := goodIn_r _ [5] (by decide +kernel) (by decide +kernel)
set_option maxRecDepth 20000 in
theorem gX1_xor_X1_not : GoodIn wsX1_xor (va_wsS RX1 53 yX1_not wsX1_not) := goodIn_app (goodIn_of _ (by decide +kernel)) ggX1_xor_X1_not
set_option maxRecDepth 20000 in
theorem ggX1_xor_X0_both : GoodIn wsX1_xor wsX0_both := goodIn_r _ [9, 10, 11, 12, 7, 13, 14, 3, 4, 5, 15, 16, 17, 18, 19, 20, 21, 22, 23, 24, 25, 26, 39, 40, 41, 42, 43, 44, 45, 46] (by decide +kernel) (by decide +kernel)
set_option maxRecDepth 20000 in
theorem gX1_xor_X0_both_n46 : GoodIn wsX1_xor (wsX0_both) := ggX1_xor_X0_both
set_option maxRecDepth 20000 in
theorem ggX1_xor_X0_either : GoodIn wsX1_xor wsX0_either := goodIn_r _ [29, 3, 4, 5, 30, 6, 8, 7, 9, 10, 11, 12, 13, 14, 15, 16, 17, 18, 19, 20, 21, 22, 23, 24, 25, 26, 39, 40, 41, 42, 43, 44, 45, 46] (by decide +kernel) (by decide +kernel)
set_option maxRecDepth 20000 in
theorem gX1_xor_X0_either_n50 : GoodIn wsX1_xor (wsX0_either) := ggX1_xor_X0_either
theorem dX1_xor_0 : decode cX1_xor 0 = .ok (.aload_n 0, 1) := by decide +kernel
theorem dX1_xor_1 : decode cX1_xor 1 = .ok (.getfield 14, 3) := by decide +kernel
theorem dX1_xor_4 : decode cX1_xor 4 = .ok (.iload_n 1, 1) := by decide +kernel
theorem dX1_xor_5 : decode cX1_xor 5 = .ok (.iload_n 2, 1) := by decide +kernel
theorem dX1_xor_6 : decode cX1_xor 6 = .ok (.invokestatic 53, 3) := by decide +kernel
theorem dX1_xor_9 : decode cX1_xor 9 = .ok (.invokevirtual 46, 3) := by decide +kernel
theorem dX1_xor_12 : decode cX1_xor 12 = .ok (.istore_n 3, 1) := by decide +kernel
theorem dX1_xor_13 : decode cX1_xor 13 = .ok (.aload_n 0, 1) := by decide +kernel
theorem dX1_xor_14 : decode cX1_xor 14 = .ok (.getfield 14, 3) := by decide +kernel
theorem dX1_xor_17 : decode cX1_xor 17 = .ok (.iload_n 1, 1) := by decide +kernel
theorem dX1_xor_18 : decode cX1_xor 18 = .ok (.invokestatic 53, 3) := by decide +kernel
theorem dX1_xor_21 : decode cX1_xor 21 = .ok (.iload_n 2, 1) := by decide +kernel
theorem dX1_xor_22 : decode cX1_xor 22 = .ok (.invokevirtual 46, 3) := by decide +kernel
theorem dX1_xor_25 : decode cX1_xor 25 = .ok (.istore 4, 2) := by decide +kernel
theorem dX1_xor_27 : decode cX1_xor 27 = .ok (.aload_n 0, 1) := by decide +kernel
theorem dX1_xor_28 : decode cX1_xor 28 = .ok (.getfield 14, 3) := by decide +kernel
theorem dX1_xor_31 : decode cX1_xor 31 = .ok (.iload_n 3, 1) := by decide +kernel
theorem dX1_xor_32 : decode cX1_xor 32 = .ok (.iload 4, 2) := by decide +kernel
theorem dX1_xor_34 : decode cX1_xor 34 = .ok (.invokevirtual 50, 3) := by decide +kernel
theorem dX1_xor_37 : decode cX1_xor 37 = .ok (.ireturn, 1) := by decide +kernel
set_option maxRecDepth 20000 in
theorem ggX1_choose_X0_holds : GoodIn wsX1_choose wsX0_holds := goodIn_r _ [5, 6, 39, 40, 41, 42, 43, 44, 45, 46] (by decide +kernel) (by decide +kernel)
set_option maxRecDepth 20000 in
theorem gX1_choose_X0_holds_n57 : GoodIn wsX1_choose (wsX0_holds) := ggX1_choose_X0_holds
set_option maxRecDepth 20000 in
theorem ggX1_choose_X0_both : GoodIn wsX1_choose wsX0_both := goodIn_r _ [9, 10, 2, 4, 3, 5, 6, 11, 12, 13, 14, 15, 16, 17, 18, 19, 20, 21, 22, 23, 24, 25, 39, 40, 41, 42, 43, 44, 45, 46] (by decide +kernel) (by decide +kernel)
set_option maxRecDepth 20000 in
theorem gX1_choose_X0_both_n46 : GoodIn wsX1_choose (wsX0_both) := ggX1_choose_X0_both
set_option maxRecDepth 20000 in
theorem ggX1_choose_X1_not : GoodIn wsX1_choose wsX1_not := goodIn_r _ [13] (by decide +kernel) (by decide +kernel)
set_option maxRecDepth 20000 in
theorem gX1_choose_X1_not : GoodIn wsX1_choose (va_wsS RX1 53 yX1_not wsX1_not) := goodIn_app (goodIn_of _ (by decide +kernel)) ggX1_choose_X1_not
set_option maxRecDepth 20000 in
theorem ggX1_choose_X0_either : GoodIn wsX1_choose wsX0_either := goodIn_r _ [29, 11, 12, 13, 30, 7, 8, 3, 9, 10, 2, 4, 5, 6, 14, 15, 16, 17, 18, 19, 20, 21, 22, 23, 24, 25, 39, 40, 41, 42, 43, 44, 45, 46] (by decide +kernel) (by decide +kernel)
set_option maxRecDepth 20000 in
theorem gX1_choose_X0_either_n50 : GoodIn wsX1_choose (wsX0_either) := ggX1_choose_X0_either
theorem dX1_choose_0 : decode cX1_choose 0 = .ok (.aload_n 0, 1) := by decide +kernel
theorem dX1_choose_1 : decode cX1_choose 1 = .ok (.getfield 14, 3) := by decide +kernel
theorem dX1_choose_4 : decode cX1_choose 4 = .ok (.iload_n 1, 1) := by decide +kernel
theorem dX1_choose_5 : decode cX1_choose 5 = .ok (.invokevirtual 57, 3) := by decide +kernel
theorem dX1_choose_8 : decode cX1_choose 8 = .ok (.ifCond .eq 25, 3) := by decide +kernel
theorem dX1_choose_11 : decode cX1_choose 11 = .ok (.aload_n 0, 1) := by decide +kernel
theorem dX1_choose_12 : decode cX1_choose 12 = .ok (.getfield 14, 3) := by decide +kernel
theorem dX1_choose_15 : decode cX1_choose 15 = .ok (.iload_n 2, 1) := by decide +kernel
theorem dX1_choose_16 : decode cX1_choose 16 = .ok (.invokevirtual 57, 3) := by decide +kernel
theorem dX1_choose_19 : decode cX1_choose 19 = .ok (.ifCond .eq 14, 3) := by decide +kernel
theorem dX1_choose_22 : decode cX1_choose 22 = .ok (.aload_n 0, 1) := by decide +kernel
theorem dX1_choose_23 : decode cX1_choose 23 = .ok (.getfield 14, 3) := by decide +kernel
theorem dX1_choose_26 : decode cX1_choose 26 = .ok (.iload_n 3, 1) := by decide +kernel
theorem dX1_choose_27 : decode cX1_choose 27 = .ok (.invokevirtual 57, 3) := by decide +kernel
theorem dX1_choose_30 : decode cX1_choose 30 = .ok (.ifCond .ne 5, 3) := by decide +kernel
theorem dX1_choose_33 : decode cX1_choose 33 = .ok (.iconst (-1), 1) := by decide +kernel
theorem dX1_choose_34 : decode cX1_choose 34 = .ok (.ireturn, 1) := by decide +kernel
theorem dX1_choose_35 : decode cX1_choose 35 = .ok (.aload_n 0, 1) := by decide +kernel
theorem dX1_choose_36 : decode cX1_choose 36 = .ok (.getfield 14, 3) := by decide +kernel
theorem dX1_choose_39 : decode cX1_choose 39 = .ok (.iload_n 1, 1) := by decide +kernel
theorem dX1_choose_40 : decode cX1_choose 40 = .ok (.iload_n 2, 1) := by decide +kernel
theorem dX1_choose_41 : decode cX1_choose 41 = .ok (.invokevirtual 46, 3) := by decide +kernel
theorem dX1_choose_44 : decode cX1_choose 44 = .ok (.istore 4, 2) := by decide +kernel
theorem dX1_choose_46 : decode cX1_choose 46 = .ok (.aload_n 0, 1) := by decide +kernel
theorem dX1_choose_47 : decode cX1_choose 47 = .ok (.getfield 14, 3) := by decide +kernel
theorem dX1_choose_50 : decode cX1_choose 50 = .ok (.iload_n 1, 1) := by decide +kernel
theorem dX1_choose_51 : decode cX1_choose 51 = .ok (.invokestatic 53, 3) := by decide +kernel
theorem dX1_choose_54 : decode cX1_choose 54 = .ok (.iload_n 3, 1) := by decide +kernel
theorem dX1_choose_55 : decode cX1_choose 55 = .ok (.invokevirtual 46, 3) := by decide +kernel
theorem dX1_choose_58 : decode cX1_choose 58 = .ok (.istore 5, 2) := by decide +kernel
theorem dX1_choose_60 : decode cX1_choose 60 = .ok (.aload_n 0, 1) := by decide +kernel
theorem dX1_choose_61 : decode cX1_choose 61 = .ok (.getfield 14, 3) := by decide +kernel
theorem dX1_choose_64 : decode cX1_choose 64 = .ok (.iload 4, 2) := by decide +kernel
theorem dX1_choose_66 : decode cX1_choose 66 = .ok (.iload 5, 2) := by decide +kernel
theorem dX1_choose_68 : decode cX1_choose 68 = .ok (.invokevirtual 50, 3) := by decide +kernel
theorem dX1_choose_71 : decode cX1_choose 71 = .ok (.ireturn, 1) := by decide +kernel
set_option maxRecDepth 20000 in
theorem ggX1_nodes_X1_twinStands : GoodIn wsX1_nodes wsX1_twinStands := goodIn_r _ [7, 8, 1, 9, 10, 11, 12, 13, 14, 15, 16, 17, 18, 19, 20, 21, 22, 23, 24] (by decide +kernel) (by decide +kernel)
set_option maxRecDepth 20000 in
theorem gX1_nodes_X1_twinStands : GoodIn wsX1_nodes (wsV RX1 64 RX1 yX1_twinStands wsX1_twinStands) := goodIn_app (goodIn_of _ (by decide +kernel)) ggX1_nodes_X1_twinStands
theorem dX1_nodes_0 : decode cX1_nodes 0 = .ok (.iload_n 1, 1) := by decide +kernel
theorem dX1_nodes_1 : decode cX1_nodes 1 = .ok (.ifCond .ne 11, 3) := by decide +kernel
theorem dX1_nodes_4 : decode cX1_nodes 4 = .ok (.aload_n 0, 1) := by decide +kernel
theorem dX1_nodes_5 : decode cX1_nodes 5 = .ok (.getfield 14, 3) := by decide +kernel
theorem dX1_nodes_8 : decode cX1_nodes 8 = .ok (.getfield 61, 3) := by decide +kernel
theorem dX1_nodes_11 : decode cX1_nodes 11 = .ok (.ireturn, 1) := by decide +kernel
theorem dX1_nodes_12 : decode cX1_nodes 12 = .ok (.aload_n 0, 1) := by decide +kernel
theorem dX1_nodes_13 : decode cX1_nodes 13 = .ok (.invokevirtual 64, 3) := by decide +kernel
theorem dX1_nodes_16 : decode cX1_nodes 16 = .ok (.ifCond .eq 13, 3) := by decide +kernel
theorem dX1_nodes_19 : decode cX1_nodes 19 = .ok (.aload_n 0, 1) := by decide +kernel
theorem dX1_nodes_20 : decode cX1_nodes 20 = .ok (.getfield 18, 3) := by decide +kernel
theorem dX1_nodes_23 : decode cX1_nodes 23 = .ok (.getfield 61, 3) := by decide +kernel
theorem dX1_nodes_26 : decode cX1_nodes 26 = .ok (.goto 4, 3) := by decide +kernel
theorem dX1_nodes_29 : decode cX1_nodes 29 = .ok (.iconst 0, 1) := by decide +kernel
theorem dX1_nodes_30 : decode cX1_nodes 30 = .ok (.ireturn, 1) := by decide +kernel
set_option maxRecDepth 20000 in
theorem ggX1_gate_X1_nodes : GoodIn wsX1_gate wsX1_nodes := goodIn_r _ [7, 2, 1, 8, 9, 10, 6, 11, 12, 13, 14, 15, 16, 17, 18, 19, 20, 21, 22, 23, 24, 25, 26, 27, 28] (by decide +kernel) (by decide +kernel)
set_option maxRecDepth 20000 in
theorem gX1_gate_X1_nodes : GoodIn wsX1_gate (wsV RX1 68 RX1 yX1_nodes wsX1_nodes) := goodIn_app (goodIn_of _ (by decide +kernel)) ggX1_gate_X1_nodes
theorem dX1_gate_0 : decode cX1_gate 0 = .ok (.iload_n 2, 1) := by decide +kernel
theorem dX1_gate_1 : decode cX1_gate 1 = .ok (.ifCond .lt 12, 3) := by decide +kernel
theorem dX1_gate_4 : decode cX1_gate 4 = .ok (.iload_n 2, 1) := by decide +kernel
theorem dX1_gate_5 : decode cX1_gate 5 = .ok (.aload_n 0, 1) := by decide +kernel
theorem dX1_gate_6 : decode cX1_gate 6 = .ok (.iload_n 1, 1) := by decide +kernel
theorem dX1_gate_7 : decode cX1_gate 7 = .ok (.invokevirtual 68, 3) := by decide +kernel
theorem dX1_gate_10 : decode cX1_gate 10 = .ok (.if_icmp .lt 5, 3) := by decide +kernel
theorem dX1_gate_13 : decode cX1_gate 13 = .ok (.iconst (-1), 1) := by decide +kernel
theorem dX1_gate_14 : decode cX1_gate 14 = .ok (.ireturn, 1) := by decide +kernel
theorem dX1_gate_15 : decode cX1_gate 15 = .ok (.iload_n 1, 1) := by decide +kernel
theorem dX1_gate_16 : decode cX1_gate 16 = .ok (.ifCond .eq 10, 3) := by decide +kernel
theorem dX1_gate_19 : decode cX1_gate 19 = .ok (.aload_n 0, 1) := by decide +kernel
theorem dX1_gate_20 : decode cX1_gate 20 = .ok (.getfield 18, 3) := by decide +kernel
theorem dX1_gate_23 : decode cX1_gate 23 = .ok (.goto 7, 3) := by decide +kernel
theorem dX1_gate_26 : decode cX1_gate 26 = .ok (.aload_n 0, 1) := by decide +kernel
theorem dX1_gate_27 : decode cX1_gate 27 = .ok (.getfield 14, 3) := by decide +kernel
theorem dX1_gate_30 : decode cX1_gate 30 = .ok (.astore 4, 2) := by decide +kernel
theorem dX1_gate_32 : decode cX1_gate 32 = .ok (.iload_n 3, 1) := by decide +kernel
theorem dX1_gate_33 : decode cX1_gate 33 = .ok (.ifCond .ne 11, 3) := by decide +kernel
theorem dX1_gate_36 : decode cX1_gate 36 = .ok (.aload 4, 2) := by decide +kernel
theorem dX1_gate_38 : decode cX1_gate 38 = .ok (.getfield 72, 3) := by decide +kernel
theorem dX1_gate_41 : decode cX1_gate 41 = .ok (.iload_n 2, 1) := by decide +kernel
theorem dX1_gate_42 : decode cX1_gate 42 = .ok (.iaload, 1) := by decide +kernel
theorem dX1_gate_43 : decode cX1_gate 43 = .ok (.ireturn, 1) := by decide +kernel
theorem dX1_gate_44 : decode cX1_gate 44 = .ok (.iload_n 3, 1) := by decide +kernel
theorem dX1_gate_45 : decode cX1_gate 45 = .ok (.iconst 1, 1) := by decide +kernel
theorem dX1_gate_46 : decode cX1_gate 46 = .ok (.if_icmp .ne 13, 3) := by decide +kernel
theorem dX1_gate_49 : decode cX1_gate 49 = .ok (.aload 4, 2) := by decide +kernel
theorem dX1_gate_51 : decode cX1_gate 51 = .ok (.getfield 75, 3) := by decide +kernel
theorem dX1_gate_54 : decode cX1_gate 54 = .ok (.iload_n 2, 1) := by decide +kernel
theorem dX1_gate_55 : decode cX1_gate 55 = .ok (.iaload, 1) := by decide +kernel
theorem dX1_gate_56 : decode cX1_gate 56 = .ok (.goto 4, 3) := by decide +kernel
theorem dX1_gate_59 : decode cX1_gate 59 = .ok (.iconst (-1), 1) := by decide +kernel
theorem dX1_gate_60 : decode cX1_gate 60 = .ok (.ireturn, 1) := by decide +kernel
set_option maxRecDepth 20000 in
theorem ggX1_twin_X1_twinStands : GoodIn wsX1_twin wsX1_twinStands := goodIn_r _ [8, 2, 1, 66, 67, 68, 69, 70, 71, 72, 73, 74, 75, 76, 77, 78, 79, 80, 81] (by decide +kernel) (by decide +kernel)
set_option maxRecDepth 20000 in
theorem gX1_twin_X1_twinStands : GoodIn wsX1_twin (wsV RX1 64 RX1 yX1_twinStands wsX1_twinStands) := goodIn_app (goodIn_of _ (by decide +kernel)) ggX1_twin_X1_twinStands
set_option maxRecDepth 20000 in
theorem ggX1_twin_X1_buildTwin : GoodIn wsX1_twin wsX1_buildTwin := goodIn_r _ [12, 3, 1, 13, 14, 15, 16, 17, 18, 19, 20, 21, 7, 22, 23, 24, 25, 26, 27, 28, 29, 30, 31, 32, 33, 34, 35, 36, 37, 38, 39, 40, 41, 42, 43, 44, 45, 46, 47, 48, 49, 50, 51, 52, 53, 54, 55, 56, 57, 58, 59, 60, 61, 62, 63, 64, 65, 66, 67, 68, 69, 70, 71, 72, 73, 74, 75, 76, 77, 78, 79, 80, 81] (by decide +kernel) (by decide +kernel)
set_option maxRecDepth 20000 in
theorem gX1_twin_X1_buildTwin : GoodIn wsX1_twin (wsV RX1 78 RX1 yX1_buildTwin wsX1_buildTwin) := goodIn_app (goodIn_of _ (by decide +kernel)) ggX1_twin_X1_buildTwin
theorem dX1_twin_0 : decode cX1_twin 0 = .ok (.aload_n 0, 1) := by decide +kernel
theorem dX1_twin_1 : decode cX1_twin 1 = .ok (.invokevirtual 64, 3) := by decide +kernel
theorem dX1_twin_4 : decode cX1_twin 4 = .ok (.ifCond .ne 25, 3) := by decide +kernel
theorem dX1_twin_7 : decode cX1_twin 7 = .ok (.aload_n 0, 1) := by decide +kernel
theorem dX1_twin_8 : decode cX1_twin 8 = .ok (.aload_n 0, 1) := by decide +kernel
theorem dX1_twin_9 : decode cX1_twin 9 = .ok (.invokevirtual 78, 3) := by decide +kernel
theorem dX1_twin_12 : decode cX1_twin 12 = .ok (.ifCond .eq 13, 3) := by decide +kernel
theorem dX1_twin_15 : decode cX1_twin 15 = .ok (.aload_n 0, 1) := by decide +kernel
theorem dX1_twin_16 : decode cX1_twin 16 = .ok (.getfield 14, 3) := by decide +kernel
theorem dX1_twin_19 : decode cX1_twin 19 = .ok (.getfield 61, 3) := by decide +kernel
theorem dX1_twin_22 : decode cX1_twin 22 = .ok (.goto 4, 3) := by decide +kernel
theorem dX1_twin_25 : decode cX1_twin 25 = .ok (.iconst (-1), 1) := by decide +kernel
theorem dX1_twin_26 : decode cX1_twin 26 = .ok (.putfield 21, 3) := by decide +kernel
theorem dX1_twin_29 : decode cX1_twin 29 = .ok (.aload_n 0, 1) := by decide +kernel
theorem dX1_twin_30 : decode cX1_twin 30 = .ok (.invokevirtual 64, 3) := by decide +kernel
theorem dX1_twin_33 : decode cX1_twin 33 = .ok (.ifCond .eq 13, 3) := by decide +kernel
theorem dX1_twin_36 : decode cX1_twin 36 = .ok (.aload_n 0, 1) := by decide +kernel
theorem dX1_twin_37 : decode cX1_twin 37 = .ok (.getfield 18, 3) := by decide +kernel
theorem dX1_twin_40 : decode cX1_twin 40 = .ok (.getfield 61, 3) := by decide +kernel
theorem dX1_twin_43 : decode cX1_twin 43 = .ok (.goto 4, 3) := by decide +kernel
theorem dX1_twin_46 : decode cX1_twin 46 = .ok (.iconst (-1), 1) := by decide +kernel
theorem dX1_twin_47 : decode cX1_twin 47 = .ok (.ireturn, 1) := by decide +kernel
set_option maxRecDepth 20000 in
theorem ggX1_twinOf_X1_twinStands : GoodIn wsX1_twinOf wsX1_twinStands := goodIn_r _ [7, 8, 1, 22, 23, 24, 25, 26, 27, 28, 29, 30, 31, 32, 33, 34, 35, 36, 37] (by decide +kernel) (by decide +kernel)
set_option maxRecDepth 20000 in
theorem gX1_twinOf_X1_twinStands : GoodIn wsX1_twinOf (wsV RX1 64 RX1 yX1_twinStands wsX1_twinStands) := goodIn_app (goodIn_of _ (by decide +kernel)) ggX1_twinOf_X1_twinStands
set_option maxRecDepth 20000 in
theorem ggX1_twinOf_X0_holds : GoodIn wsX1_twinOf wsX0_holds := goodIn_r _ [12, 13, 30, 31, 32, 33, 34, 35, 36, 37] (by decide +kernel) (by decide +kernel)
set_option maxRecDepth 20000 in
theorem gX1_twinOf_X0_holds_n57 : GoodIn wsX1_twinOf (wsX0_holds) := ggX1_twinOf_X0_holds
set_option maxRecDepth 20000 in
theorem ggX1_twinOf_X1_valueInTwin : GoodIn wsX1_twinOf wsX1_valueInTwin := goodIn_r _ [17, 18, 19, 20, 6, 21, 22, 23, 24, 25, 26, 27, 28, 29] (by decide +kernel) (by decide +kernel)
set_option maxRecDepth 20000 in
theorem gX1_twinOf_X1_valueInTwin : GoodIn wsX1_twinOf (wsV RX1 81 RX1 yX1_valueInTwin wsX1_valueInTwin) := goodIn_app (goodIn_of _ (by decide +kernel)) ggX1_twinOf_X1_valueInTwin
theorem dX1_twinOf_0 : decode cX1_twinOf 0 = .ok (.aload_n 0, 1) := by decide +kernel
theorem dX1_twinOf_1 : decode cX1_twinOf 1 = .ok (.invokevirtual 64, 3) := by decide +kernel
theorem dX1_twinOf_4 : decode cX1_twinOf 4 = .ok (.ifCond .eq 14, 3) := by decide +kernel
theorem dX1_twinOf_7 : decode cX1_twinOf 7 = .ok (.aload_n 0, 1) := by decide +kernel
theorem dX1_twinOf_8 : decode cX1_twinOf 8 = .ok (.getfield 14, 3) := by decide +kernel
theorem dX1_twinOf_11 : decode cX1_twinOf 11 = .ok (.iload_n 1, 1) := by decide +kernel
theorem dX1_twinOf_12 : decode cX1_twinOf 12 = .ok (.invokevirtual 57, 3) := by decide +kernel
theorem dX1_twinOf_15 : decode cX1_twinOf 15 = .ok (.ifCond .ne 5, 3) := by decide +kernel
theorem dX1_twinOf_18 : decode cX1_twinOf 18 = .ok (.iconst (-1), 1) := by decide +kernel
theorem dX1_twinOf_19 : decode cX1_twinOf 19 = .ok (.ireturn, 1) := by decide +kernel
theorem dX1_twinOf_20 : decode cX1_twinOf 20 = .ok (.iload_n 2, 1) := by decide +kernel
theorem dX1_twinOf_21 : decode cX1_twinOf 21 = .ok (.ifCond .eq 14, 3) := by decide +kernel
theorem dX1_twinOf_24 : decode cX1_twinOf 24 = .ok (.aload_n 0, 1) := by decide +kernel
theorem dX1_twinOf_25 : decode cX1_twinOf 25 = .ok (.getfield 29, 3) := by decide +kernel
theorem dX1_twinOf_28 : decode cX1_twinOf 28 = .ok (.iload_n 1, 1) := by decide +kernel
theorem dX1_twinOf_29 : decode cX1_twinOf 29 = .ok (.iconst 1, 1) := by decide +kernel
theorem dX1_twinOf_30 : decode cX1_twinOf 30 = .ok (.ishr, 1) := by decide +kernel
theorem dX1_twinOf_31 : decode cX1_twinOf 31 = .ok (.iaload, 1) := by decide +kernel
theorem dX1_twinOf_32 : decode cX1_twinOf 32 = .ok (.goto 8, 3) := by decide +kernel
theorem dX1_twinOf_35 : decode cX1_twinOf 35 = .ok (.aload_n 0, 1) := by decide +kernel
theorem dX1_twinOf_36 : decode cX1_twinOf 36 = .ok (.iload_n 1, 1) := by decide +kernel
theorem dX1_twinOf_37 : decode cX1_twinOf 37 = .ok (.invokevirtual 81, 3) := by decide +kernel
theorem dX1_twinOf_40 : decode cX1_twinOf 40 = .ok (.ireturn, 1) := by decide +kernel
theorem dX1_set_0 : decode cX1_set 0 = .ok (.iload_n 1, 1) := by decide +kernel
theorem dX1_set_1 : decode cX1_set 1 = .ok (.ifCond .lt 14, 3) := by decide +kernel
theorem dX1_set_4 : decode cX1_set 4 = .ok (.iload_n 1, 1) := by decide +kernel
theorem dX1_set_5 : decode cX1_set 5 = .ok (.aload_n 0, 1) := by decide +kernel
theorem dX1_set_6 : decode cX1_set 6 = .ok (.getfield 14, 3) := by decide +kernel
theorem dX1_set_9 : decode cX1_set 9 = .ok (.getfield 84, 3) := by decide +kernel
theorem dX1_set_12 : decode cX1_set 12 = .ok (.if_icmp .lt 5, 3) := by decide +kernel
theorem dX1_set_15 : decode cX1_set 15 = .ok (.iconst (-1), 1) := by decide +kernel
theorem dX1_set_16 : decode cX1_set 16 = .ok (.ireturn, 1) := by decide +kernel
theorem dX1_set_17 : decode cX1_set 17 = .ok (.iload_n 2, 1) := by decide +kernel
theorem dX1_set_18 : decode cX1_set 18 = .ok (.ifCond .eq 10, 3) := by decide +kernel
theorem dX1_set_21 : decode cX1_set 21 = .ok (.aload_n 0, 1) := by decide +kernel
theorem dX1_set_22 : decode cX1_set 22 = .ok (.getfield 35, 3) := by decide +kernel
theorem dX1_set_25 : decode cX1_set 25 = .ok (.goto 7, 3) := by decide +kernel
theorem dX1_set_28 : decode cX1_set 28 = .ok (.aload_n 0, 1) := by decide +kernel
theorem dX1_set_29 : decode cX1_set 29 = .ok (.getfield 32, 3) := by decide +kernel
theorem dX1_set_32 : decode cX1_set 32 = .ok (.astore 4, 2) := by decide +kernel
theorem dX1_set_34 : decode cX1_set 34 = .ok (.aload 4, 2) := by decide +kernel
theorem dX1_set_36 : decode cX1_set 36 = .ok (.iload_n 1, 1) := by decide +kernel
theorem dX1_set_37 : decode cX1_set 37 = .ok (.iaload, 1) := by decide +kernel
theorem dX1_set_38 : decode cX1_set 38 = .ok (.istore 5, 2) := by decide +kernel
theorem dX1_set_40 : decode cX1_set 40 = .ok (.aload 4, 2) := by decide +kernel
theorem dX1_set_42 : decode cX1_set 42 = .ok (.iload_n 1, 1) := by decide +kernel
theorem dX1_set_43 : decode cX1_set 43 = .ok (.iload_n 3, 1) := by decide +kernel
theorem dX1_set_44 : decode cX1_set 44 = .ok (.ifCond .ne 7, 3) := by decide +kernel
theorem dX1_set_47 : decode cX1_set 47 = .ok (.iconst 0, 1) := by decide +kernel
theorem dX1_set_48 : decode cX1_set 48 = .ok (.goto 4, 3) := by decide +kernel
theorem dX1_set_51 : decode cX1_set 51 = .ok (.iconst 1, 1) := by decide +kernel
theorem dX1_set_52 : decode cX1_set 52 = .ok (.iastore, 1) := by decide +kernel
theorem dX1_set_53 : decode cX1_set 53 = .ok (.iload 5, 2) := by decide +kernel
theorem dX1_set_55 : decode cX1_set 55 = .ok (.ireturn, 1) := by decide +kernel
set_option maxRecDepth 20000 in
theorem ggX1_bit_X1_twinStands : GoodIn wsX1_bit wsX1_twinStands := goodIn_r _ [7, 8, 2, 46, 47, 48, 49, 50, 51, 52, 53, 54, 55, 56, 57, 58, 59, 60, 61] (by decide +kernel) (by decide +kernel)
set_option maxRecDepth 20000 in
theorem gX1_bit_X1_twinStands : GoodIn wsX1_bit (wsV RX1 64 RX1 yX1_twinStands wsX1_twinStands) := goodIn_app (goodIn_of _ (by decide +kernel)) ggX1_bit_X1_twinStands
set_option maxRecDepth 20000 in
theorem ggX1_bit_X0_holds : GoodIn wsX1_bit wsX0_holds := goodIn_r _ [12, 13, 54, 55, 56, 57, 58, 59, 60, 61] (by decide +kernel) (by decide +kernel)
set_option maxRecDepth 20000 in
theorem gX1_bit_X0_holds_n57 : GoodIn wsX1_bit (wsX0_holds) := ggX1_bit_X0_holds
set_option maxRecDepth 20000 in
theorem ggX1_bit_X1_spreadTwin : GoodIn wsX1_bit wsX1_spreadTwin := goodIn_r _ [17, 2, 1, 18, 19, 20, 21, 6, 22, 23, 24, 10, 25, 26, 13, 27, 28, 29, 30, 31, 32, 33, 34, 35, 36, 37, 38, 46, 47, 48, 49, 50, 51, 52, 53, 54, 55, 56, 57, 58, 59, 60, 61] (by decide +kernel) (by decide +kernel)
set_option maxRecDepth 20000 in
theorem gX1_bit_X1_spreadTwin : GoodIn wsX1_bit (wsV RX1 87 RX1 yX1_spreadTwin wsX1_spreadTwin) := goodIn_app (goodIn_of _ (by decide +kernel)) ggX1_bit_X1_spreadTwin
set_option maxRecDepth 20000 in
theorem ggX1_bit_X0_wordOf : GoodIn wsX1_bit wsX0_wordOf := goodIn_r _ [37, 27, 38, 54, 55, 56, 57, 58, 59, 60, 61] (by decide +kernel) (by decide +kernel)
set_option maxRecDepth 20000 in
theorem gX1_bit_X0_wordOf_n90 : GoodIn wsX1_bit (wsX0_wordOf) := ggX1_bit_X0_wordOf
set_option maxRecDepth 20000 in
theorem ggX1_bit_X1_bitOf : GoodIn wsX1_bit wsX1_bitOf := goodIn_r _ [41] (by decide +kernel) (by decide +kernel)
set_option maxRecDepth 20000 in
theorem gX1_bit_X1_bitOf : GoodIn wsX1_bit (va_wsS RX1 94 yX1_bitOf wsX1_bitOf) := goodIn_app (goodIn_of _ (by decide +kernel)) ggX1_bit_X1_bitOf
set_option maxRecDepth 20000 in
theorem ggX1_bit_X1_spreadNet : GoodIn wsX1_bit wsX1_spreadNet := goodIn_r _ [45, 2, 18, 20, 21, 6, 22, 23, 24, 10, 25, 26, 13, 27, 28, 29, 30, 31, 32, 33, 34, 35, 36, 37, 38, 46, 47, 48, 49, 50, 51, 52, 53, 54, 55, 56, 57, 58, 59, 60, 61] (by decide +kernel) (by decide +kernel)
set_option maxRecDepth 20000 in
theorem gX1_bit_X1_spreadNet : GoodIn wsX1_bit (wsV RX1 98 RX1 yX1_spreadNet wsX1_spreadNet) := goodIn_app (goodIn_of _ (by decide +kernel)) ggX1_bit_X1_spreadNet
theorem dX1_bit_0 : decode cX1_bit 0 = .ok (.iload_n 1, 1) := by decide +kernel
theorem dX1_bit_1 : decode cX1_bit 1 = .ok (.ifCond .eq 39, 3) := by decide +kernel
end
section
theorem dX1_bit_4 : decode cX1_bit 4 = .ok (.aload_n 0, 1) := by decide +kernel
theorem dX1_bit_5 : decode cX1_bit 5 = .ok (.invokevirtual 64, 3) := by decide +kernel
theorem dX1_bit_8 : decode cX1_bit 8 = .ok (.ifCond .eq 14, 3) := by decide +kernel
theorem dX1_bit_11 : decode cX1_bit 11 = .ok (.aload_n 0, 1) := by decide +kernel
theorem dX1_bit_12 : decode cX1_bit 12 = .ok (.getfield 18, 3) := by decide +kernel
theorem dX1_bit_15 : decode cX1_bit 15 = .ok (.iload_n 2, 1) := by decide +kernel
theorem dX1_bit_16 : decode cX1_bit 16 = .ok (.invokevirtual 57, 3) := by decide +kernel
theorem dX1_bit_19 : decode cX1_bit 19 = .ok (.ifCond .ne 5, 3) := by decide +kernel
theorem dX1_bit_22 : decode cX1_bit 22 = .ok (.iconst (-1), 1) := by decide +kernel
theorem dX1_bit_23 : decode cX1_bit 23 = .ok (.ireturn, 1) := by decide +kernel
theorem dX1_bit_24 : decode cX1_bit 24 = .ok (.aload_n 0, 1) := by decide +kernel
theorem dX1_bit_25 : decode cX1_bit 25 = .ok (.invokevirtual 87, 3) := by decide +kernel
theorem dX1_bit_28 : decode cX1_bit 28 = .ok (.aload_n 0, 1) := by decide +kernel
theorem dX1_bit_29 : decode cX1_bit 29 = .ok (.getfield 18, 3) := by decide +kernel
theorem dX1_bit_32 : decode cX1_bit 32 = .ok (.iload_n 2, 1) := by decide +kernel
theorem dX1_bit_33 : decode cX1_bit 33 = .ok (.invokevirtual 90, 3) := by decide +kernel
theorem dX1_bit_36 : decode cX1_bit 36 = .ok (.invokestatic 94, 3) := by decide +kernel
theorem dX1_bit_39 : decode cX1_bit 39 = .ok (.ireturn, 1) := by decide +kernel
theorem dX1_bit_40 : decode cX1_bit 40 = .ok (.aload_n 0, 1) := by decide +kernel
theorem dX1_bit_41 : decode cX1_bit 41 = .ok (.getfield 14, 3) := by decide +kernel
theorem dX1_bit_44 : decode cX1_bit 44 = .ok (.iload_n 2, 1) := by decide +kernel
theorem dX1_bit_45 : decode cX1_bit 45 = .ok (.invokevirtual 57, 3) := by decide +kernel
theorem dX1_bit_48 : decode cX1_bit 48 = .ok (.ifCond .ne 5, 3) := by decide +kernel
theorem dX1_bit_51 : decode cX1_bit 51 = .ok (.iconst (-1), 1) := by decide +kernel
theorem dX1_bit_52 : decode cX1_bit 52 = .ok (.ireturn, 1) := by decide +kernel
theorem dX1_bit_53 : decode cX1_bit 53 = .ok (.aload_n 0, 1) := by decide +kernel
theorem dX1_bit_54 : decode cX1_bit 54 = .ok (.invokevirtual 98, 3) := by decide +kernel
theorem dX1_bit_57 : decode cX1_bit 57 = .ok (.aload_n 0, 1) := by decide +kernel
theorem dX1_bit_58 : decode cX1_bit 58 = .ok (.getfield 14, 3) := by decide +kernel
theorem dX1_bit_61 : decode cX1_bit 61 = .ok (.iload_n 2, 1) := by decide +kernel
theorem dX1_bit_62 : decode cX1_bit 62 = .ok (.invokevirtual 90, 3) := by decide +kernel
theorem dX1_bit_65 : decode cX1_bit 65 = .ok (.invokestatic 94, 3) := by decide +kernel
theorem dX1_bit_68 : decode cX1_bit 68 = .ok (.ireturn, 1) := by decide +kernel
set_option maxRecDepth 20000 in
theorem ggX1_taint_X0_holds : GoodIn wsX1_taint wsX0_holds := goodIn_r _ [6, 7, 49, 50, 51, 52, 53, 54, 55, 56] (by decide +kernel) (by decide +kernel)
set_option maxRecDepth 20000 in
theorem gX1_taint_X0_holds_n57 : GoodIn wsX1_taint (wsX0_holds) := ggX1_taint_X0_holds
set_option maxRecDepth 20000 in
theorem ggX1_taint_X1_spreadNet : GoodIn wsX1_taint wsX1_spreadNet := goodIn_r _ [12, 1, 13, 14, 15, 11, 16, 17, 18, 4, 19, 20, 7, 21, 22, 23, 24, 25, 26, 27, 28, 29, 30, 31, 32, 41, 42, 43, 44, 45, 46, 47, 48, 49, 50, 51, 52, 53, 54, 55, 56] (by decide +kernel) (by decide +kernel)
set_option maxRecDepth 20000 in
theorem gX1_taint_X1_spreadNet : GoodIn wsX1_taint (wsV RX1 98 RX1 yX1_spreadNet wsX1_spreadNet) := goodIn_app (goodIn_of _ (by decide +kernel)) ggX1_taint_X1_spreadNet
set_option maxRecDepth 20000 in
theorem ggX1_taint_X1_spreadTaints : GoodIn wsX1_taint wsX1_spreadTaints := goodIn_r _ [36, 1, 2, 37, 14, 15, 11, 16, 17, 25, 4, 26, 27, 22, 29, 30, 31, 21, 32, 41, 42, 43, 44, 45, 46, 47, 48, 49, 50, 51, 52, 53, 54, 55, 56] (by decide +kernel) (by decide +kernel)
set_option maxRecDepth 20000 in
theorem gX1_taint_X1_spreadTaints : GoodIn wsX1_taint (wsV RX1 101 RX1 yX1_spreadTaints wsX1_spreadTaints) := goodIn_app (goodIn_of _ (by decide +kernel)) ggX1_taint_X1_spreadTaints
set_option maxRecDepth 20000 in
theorem ggX1_taint_X1_bitOf : GoodIn wsX1_taint wsX1_bitOf := goodIn_r _ [40] (by decide +kernel) (by decide +kernel)
set_option maxRecDepth 20000 in
theorem gX1_taint_X1_bitOf : GoodIn wsX1_taint (va_wsS RX1 94 yX1_bitOf wsX1_bitOf) := goodIn_app (goodIn_of _ (by decide +kernel)) ggX1_taint_X1_bitOf
theorem dX1_taint_0 : decode cX1_taint 0 = .ok (.aload_n 0, 1) := by decide +kernel
theorem dX1_taint_1 : decode cX1_taint 1 = .ok (.getfield 14, 3) := by decide +kernel
theorem dX1_taint_4 : decode cX1_taint 4 = .ok (.iload_n 1, 1) := by decide +kernel
theorem dX1_taint_5 : decode cX1_taint 5 = .ok (.invokevirtual 57, 3) := by decide +kernel
theorem dX1_taint_8 : decode cX1_taint 8 = .ok (.ifCond .ne 5, 3) := by decide +kernel
theorem dX1_taint_11 : decode cX1_taint 11 = .ok (.iconst (-1), 1) := by decide +kernel
theorem dX1_taint_12 : decode cX1_taint 12 = .ok (.ireturn, 1) := by decide +kernel
theorem dX1_taint_13 : decode cX1_taint 13 = .ok (.aload_n 0, 1) := by decide +kernel
theorem dX1_taint_14 : decode cX1_taint 14 = .ok (.invokevirtual 98, 3) := by decide +kernel
theorem dX1_taint_17 : decode cX1_taint 17 = .ok (.aload_n 0, 1) := by decide +kernel
theorem dX1_taint_18 : decode cX1_taint 18 = .ok (.invokevirtual 101, 3) := by decide +kernel
theorem dX1_taint_21 : decode cX1_taint 21 = .ok (.aload_n 0, 1) := by decide +kernel
theorem dX1_taint_22 : decode cX1_taint 22 = .ok (.getfield 38, 3) := by decide +kernel
theorem dX1_taint_25 : decode cX1_taint 25 = .ok (.iload_n 1, 1) := by decide +kernel
theorem dX1_taint_26 : decode cX1_taint 26 = .ok (.iconst 1, 1) := by decide +kernel
theorem dX1_taint_27 : decode cX1_taint 27 = .ok (.ishr, 1) := by decide +kernel
theorem dX1_taint_28 : decode cX1_taint 28 = .ok (.laload, 1) := by decide +kernel
theorem dX1_taint_29 : decode cX1_taint 29 = .ok (.invokestatic 94, 3) := by decide +kernel
theorem dX1_taint_32 : decode cX1_taint 32 = .ok (.ireturn, 1) := by decide +kernel
set_option maxRecDepth 20000 in
theorem ggX1_hangs_X0_holds : GoodIn wsX1_hangs wsX0_holds := goodIn_r _ [5, 6, 53, 54, 55, 56, 57, 58, 59, 60] (by decide +kernel) (by decide +kernel)
set_option maxRecDepth 20000 in
theorem gX1_hangs_X0_holds_n57 : GoodIn wsX1_hangs (wsX0_holds) := ggX1_hangs_X0_holds
set_option maxRecDepth 20000 in
theorem ggX1_hangs_X1_countTainted : GoodIn wsX1_hangs wsX1_countTainted := goodIn_r _ [11, 1, 12, 45, 46, 47, 48, 49, 50, 51, 52, 53, 54, 55, 56, 57, 58, 59, 60] (by decide +kernel) (by decide +kernel)
set_option maxRecDepth 20000 in
theorem gX1_hangs_X1_countTainted : GoodIn wsX1_hangs (wsV RX1 104 RX1 yX1_countTainted wsX1_countTainted) := goodIn_app (goodIn_of _ (by decide +kernel)) ggX1_hangs_X1_countTainted
set_option maxRecDepth 20000 in
theorem ggX1_hangs_X1_spreadNet : GoodIn wsX1_hangs wsX1_spreadNet := goodIn_r _ [16, 1, 17, 18, 19, 10, 20, 21, 22, 3, 23, 24, 6, 25, 26, 27, 28, 29, 30, 31, 32, 33, 34, 35, 36, 45, 46, 47, 48, 49, 50, 51, 52, 53, 54, 55, 56, 57, 58, 59, 60] (by decide +kernel) (by decide +kernel)
set_option maxRecDepth 20000 in
theorem gX1_hangs_X1_spreadNet : GoodIn wsX1_hangs (wsV RX1 98 RX1 yX1_spreadNet wsX1_spreadNet) := goodIn_app (goodIn_of _ (by decide +kernel)) ggX1_hangs_X1_spreadNet
set_option maxRecDepth 20000 in
theorem ggX1_hangs_X0_wordOf : GoodIn wsX1_hangs wsX0_wordOf := goodIn_r _ [35, 25, 36, 53, 54, 55, 56, 57, 58, 59, 60] (by decide +kernel) (by decide +kernel)
set_option maxRecDepth 20000 in
theorem gX1_hangs_X0_wordOf_n90 : GoodIn wsX1_hangs (wsX0_wordOf) := ggX1_hangs_X0_wordOf
set_option maxRecDepth 20000 in
theorem ggX1_hangs_X1_setTaintedInputs : GoodIn wsX1_hangs wsX1_setTaintedInputs := goodIn_r _ [40, 1, 12, 41, 42, 10, 43, 44, 18, 19, 20, 21, 45, 46, 47, 48, 49, 50, 51, 52, 53, 54, 55, 56, 57, 58, 59, 60] (by decide +kernel) (by decide +kernel)
set_option maxRecDepth 20000 in
theorem gX1_hangs_X1_setTaintedInputs : GoodIn wsX1_hangs (wsV RX1 107 RX1 yX1_setTaintedInputs wsX1_setTaintedInputs) := goodIn_app (goodIn_of _ (by decide +kernel)) ggX1_hangs_X1_setTaintedInputs
set_option maxRecDepth 20000 in
theorem ggX1_hangs_X0_spread : GoodIn wsX1_hangs wsX0_spread := goodIn_r _ [24, 6, 25, 26, 27, 28, 29, 30, 3, 31, 32, 33, 34, 35, 36, 53, 54, 55, 56, 57, 58, 59, 60] (by decide +kernel) (by decide +kernel)
set_option maxRecDepth 20000 in
theorem gX1_hangs_X0_spread_n111 : GoodIn wsX1_hangs (wsX0_spread) := ggX1_hangs_X0_spread
theorem dX1_hangs_0 : decode cX1_hangs 0 = .ok (.aload_n 0, 1) := by decide +kernel
theorem dX1_hangs_1 : decode cX1_hangs 1 = .ok (.getfield 14, 3) := by decide +kernel
theorem dX1_hangs_4 : decode cX1_hangs 4 = .ok (.iload_n 1, 1) := by decide +kernel
theorem dX1_hangs_5 : decode cX1_hangs 5 = .ok (.invokevirtual 57, 3) := by decide +kernel
theorem dX1_hangs_8 : decode cX1_hangs 8 = .ok (.ifCond .eq 12, 3) := by decide +kernel
theorem dX1_hangs_11 : decode cX1_hangs 11 = .ok (.aload_n 0, 1) := by decide +kernel
theorem dX1_hangs_12 : decode cX1_hangs 12 = .ok (.invokevirtual 104, 3) := by decide +kernel
theorem dX1_hangs_15 : decode cX1_hangs 15 = .ok (.bipush 8, 2) := by decide +kernel
theorem dX1_hangs_17 : decode cX1_hangs 17 = .ok (.if_icmp .le 5, 3) := by decide +kernel
theorem dX1_hangs_20 : decode cX1_hangs 20 = .ok (.iconst (-1), 1) := by decide +kernel
theorem dX1_hangs_21 : decode cX1_hangs 21 = .ok (.ireturn, 1) := by decide +kernel
theorem dX1_hangs_22 : decode cX1_hangs 22 = .ok (.aload_n 0, 1) := by decide +kernel
theorem dX1_hangs_23 : decode cX1_hangs 23 = .ok (.invokevirtual 98, 3) := by decide +kernel
theorem dX1_hangs_26 : decode cX1_hangs 26 = .ok (.aload_n 0, 1) := by decide +kernel
theorem dX1_hangs_27 : decode cX1_hangs 27 = .ok (.getfield 14, 3) := by decide +kernel
theorem dX1_hangs_30 : decode cX1_hangs 30 = .ok (.iload_n 1, 1) := by decide +kernel
theorem dX1_hangs_31 : decode cX1_hangs 31 = .ok (.invokevirtual 90, 3) := by decide +kernel
theorem dX1_hangs_34 : decode cX1_hangs 34 = .ok (.lstore_n 2, 1) := by decide +kernel
theorem dX1_hangs_35 : decode cX1_hangs 35 = .ok (.iconst 0, 1) := by decide +kernel
theorem dX1_hangs_36 : decode cX1_hangs 36 = .ok (.istore 4, 2) := by decide +kernel
theorem dX1_hangs_38 : decode cX1_hangs 38 = .ok (.iload 4, 2) := by decide +kernel
theorem dX1_hangs_40 : decode cX1_hangs 40 = .ok (.iconst 4, 1) := by decide +kernel
theorem dX1_hangs_41 : decode cX1_hangs 41 = .ok (.if_icmp .ge 37, 3) := by decide +kernel
theorem dX1_hangs_44 : decode cX1_hangs 44 = .ok (.aload_n 0, 1) := by decide +kernel
theorem dX1_hangs_45 : decode cX1_hangs 45 = .ok (.iload 4, 2) := by decide +kernel
theorem dX1_hangs_47 : decode cX1_hangs 47 = .ok (.invokevirtual 107, 3) := by decide +kernel
theorem dX1_hangs_50 : decode cX1_hangs 50 = .ok (.aload_n 0, 1) := by decide +kernel
theorem dX1_hangs_51 : decode cX1_hangs 51 = .ok (.getfield 14, 3) := by decide +kernel
theorem dX1_hangs_54 : decode cX1_hangs 54 = .ok (.invokevirtual 111, 3) := by decide +kernel
theorem dX1_hangs_57 : decode cX1_hangs 57 = .ok (.aload_n 0, 1) := by decide +kernel
theorem dX1_hangs_58 : decode cX1_hangs 58 = .ok (.getfield 14, 3) := by decide +kernel
theorem dX1_hangs_61 : decode cX1_hangs 61 = .ok (.iload_n 1, 1) := by decide +kernel
theorem dX1_hangs_62 : decode cX1_hangs 62 = .ok (.invokevirtual 90, 3) := by decide +kernel
theorem dX1_hangs_65 : decode cX1_hangs 65 = .ok (.lload_n 2, 1) := by decide +kernel
theorem dX1_hangs_66 : decode cX1_hangs 66 = .ok (.lcmp, 1) := by decide +kernel
theorem dX1_hangs_67 : decode cX1_hangs 67 = .ok (.ifCond .eq 5, 3) := by decide +kernel
theorem dX1_hangs_70 : decode cX1_hangs 70 = .ok (.iconst 1, 1) := by decide +kernel
theorem dX1_hangs_71 : decode cX1_hangs 71 = .ok (.ireturn, 1) := by decide +kernel
theorem dX1_hangs_72 : decode cX1_hangs 72 = .ok (.iinc 4 1, 3) := by decide +kernel
theorem dX1_hangs_75 : decode cX1_hangs 75 = .ok (.goto (-37), 3) := by decide +kernel
theorem dX1_hangs_78 : decode cX1_hangs 78 = .ok (.iconst 0, 1) := by decide +kernel
theorem dX1_hangs_79 : decode cX1_hangs 79 = .ok (.ireturn, 1) := by decide +kernel
theorem dX1_twinStands_0 : decode cX1_twinStands 0 = .ok (.aload_n 0, 1) := by decide +kernel
theorem dX1_twinStands_1 : decode cX1_twinStands 1 = .ok (.getfield 21, 3) := by decide +kernel
theorem dX1_twinStands_4 : decode cX1_twinStands 4 = .ok (.aload_n 0, 1) := by decide +kernel
theorem dX1_twinStands_5 : decode cX1_twinStands 5 = .ok (.getfield 14, 3) := by decide +kernel
theorem dX1_twinStands_8 : decode cX1_twinStands 8 = .ok (.getfield 61, 3) := by decide +kernel
theorem dX1_twinStands_11 : decode cX1_twinStands 11 = .ok (.if_icmp .ne 7, 3) := by decide +kernel
theorem dX1_twinStands_14 : decode cX1_twinStands 14 = .ok (.iconst 1, 1) := by decide +kernel
theorem dX1_twinStands_15 : decode cX1_twinStands 15 = .ok (.goto 4, 3) := by decide +kernel
theorem dX1_twinStands_18 : decode cX1_twinStands 18 = .ok (.iconst 0, 1) := by decide +kernel
theorem dX1_twinStands_19 : decode cX1_twinStands 19 = .ok (.ireturn, 1) := by decide +kernel
set_option maxRecDepth 20000 in
theorem ggX1_buildTwin_X0_clear : GoodIn wsX1_buildTwin wsX0_clear := goodIn_r _ [6, 7, 8, 65, 66, 67, 68, 69, 70, 71, 72] (by decide +kernel) (by decide +kernel)
set_option maxRecDepth 20000 in
theorem gX1_buildTwin_X0_clear_n114 : GoodIn wsX1_buildTwin (wsX0_clear) := ggX1_buildTwin_X0_clear
set_option maxRecDepth 20000 in
theorem ggX1_buildTwin_X1_twinInputs : GoodIn wsX1_buildTwin wsX1_twinInputs := goodIn_r _ [13, 14, 15, 2, 1, 16, 4, 17, 18, 8, 19, 20, 7, 21, 22, 23, 24, 25, 26, 57, 58, 59, 60, 61, 62, 63, 64, 65, 66, 67, 68, 69, 70, 71, 72] (by decide +kernel) (by decide +kernel)
set_option maxRecDepth 20000 in
theorem gX1_buildTwin_X1_twinInputs : GoodIn wsX1_buildTwin (wsV RX1 117 RX1 yX1_twinInputs wsX1_twinInputs) := goodIn_app (goodIn_of _ (by decide +kernel)) ggX1_buildTwin_X1_twinInputs
set_option maxRecDepth 20000 in
theorem ggX1_buildTwin_X0_isGate : GoodIn wsX1_buildTwin wsX0_isGate := goodIn_r _ [29, 25, 65, 66, 67, 68, 69, 70, 71, 72] (by decide +kernel) (by decide +kernel)
set_option maxRecDepth 20000 in
theorem gX1_buildTwin_X0_isGate_n120 : GoodIn wsX1_buildTwin (wsX0_isGate) := ggX1_buildTwin_X0_isGate
set_option maxRecDepth 20000 in
theorem ggX1_buildTwin_X1_twinGate : GoodIn wsX1_buildTwin wsX1_twinGate := goodIn_r _ [33, 2, 15, 1, 14, 34, 35, 36, 12, 37, 38, 39, 40, 41, 4, 42, 43, 44, 45, 46, 47, 7, 48, 49, 50, 51, 25, 26, 8, 52, 21, 22, 23, 24, 53, 54, 55, 56, 57, 58, 59, 60, 61, 62, 63, 64, 65, 66, 67, 68, 69, 70, 71, 72] (by decide +kernel) (by decide +kernel)
set_option maxRecDepth 20000 in
theorem gX1_buildTwin_X1_twinGate : GoodIn wsX1_buildTwin (wsV RX1 123 RX1 yX1_twinGate wsX1_twinGate) := goodIn_app (goodIn_of _ (by decide +kernel)) ggX1_buildTwin_X1_twinGate
theorem dX1_buildTwin_0 : decode cX1_buildTwin 0 = .ok (.aload_n 0, 1) := by decide +kernel
theorem dX1_buildTwin_1 : decode cX1_buildTwin 1 = .ok (.getfield 18, 3) := by decide +kernel
theorem dX1_buildTwin_4 : decode cX1_buildTwin 4 = .ok (.invokevirtual 114, 3) := by decide +kernel
theorem dX1_buildTwin_7 : decode cX1_buildTwin 7 = .ok (.aload_n 0, 1) := by decide +kernel
theorem dX1_buildTwin_8 : decode cX1_buildTwin 8 = .ok (.invokevirtual 117, 3) := by decide +kernel
theorem dX1_buildTwin_11 : decode cX1_buildTwin 11 = .ok (.iconst 0, 1) := by decide +kernel
theorem dX1_buildTwin_12 : decode cX1_buildTwin 12 = .ok (.istore_n 1, 1) := by decide +kernel
theorem dX1_buildTwin_13 : decode cX1_buildTwin 13 = .ok (.iload_n 1, 1) := by decide +kernel
theorem dX1_buildTwin_14 : decode cX1_buildTwin 14 = .ok (.aload_n 0, 1) := by decide +kernel
theorem dX1_buildTwin_15 : decode cX1_buildTwin 15 = .ok (.getfield 14, 3) := by decide +kernel
theorem dX1_buildTwin_18 : decode cX1_buildTwin 18 = .ok (.getfield 61, 3) := by decide +kernel
theorem dX1_buildTwin_21 : decode cX1_buildTwin 21 = .ok (.if_icmp .ge 30, 3) := by decide +kernel
theorem dX1_buildTwin_24 : decode cX1_buildTwin 24 = .ok (.aload_n 0, 1) := by decide +kernel
theorem dX1_buildTwin_25 : decode cX1_buildTwin 25 = .ok (.getfield 14, 3) := by decide +kernel
theorem dX1_buildTwin_28 : decode cX1_buildTwin 28 = .ok (.iload_n 1, 1) := by decide +kernel
theorem dX1_buildTwin_29 : decode cX1_buildTwin 29 = .ok (.invokevirtual 120, 3) := by decide +kernel
theorem dX1_buildTwin_32 : decode cX1_buildTwin 32 = .ok (.ifCond .eq 13, 3) := by decide +kernel
theorem dX1_buildTwin_35 : decode cX1_buildTwin 35 = .ok (.aload_n 0, 1) := by decide +kernel
theorem dX1_buildTwin_36 : decode cX1_buildTwin 36 = .ok (.iload_n 1, 1) := by decide +kernel
theorem dX1_buildTwin_37 : decode cX1_buildTwin 37 = .ok (.invokevirtual 123, 3) := by decide +kernel
theorem dX1_buildTwin_40 : decode cX1_buildTwin 40 = .ok (.ifCond .ne 5, 3) := by decide +kernel
theorem dX1_buildTwin_43 : decode cX1_buildTwin 43 = .ok (.iconst 0, 1) := by decide +kernel
theorem dX1_buildTwin_44 : decode cX1_buildTwin 44 = .ok (.ireturn, 1) := by decide +kernel
theorem dX1_buildTwin_45 : decode cX1_buildTwin 45 = .ok (.iinc 1 1, 3) := by decide +kernel
theorem dX1_buildTwin_48 : decode cX1_buildTwin 48 = .ok (.goto (-35), 3) := by decide +kernel
theorem dX1_buildTwin_51 : decode cX1_buildTwin 51 = .ok (.iconst 1, 1) := by decide +kernel
theorem dX1_buildTwin_52 : decode cX1_buildTwin 52 = .ok (.ireturn, 1) := by decide +kernel
set_option maxRecDepth 20000 in
theorem ggX1_twinInputs_X0_addInput : GoodIn wsX1_twinInputs wsX0_addInput := goodIn_r _ [8, 9, 10, 11, 12, 13, 14, 15, 6, 16, 17, 18, 27, 28, 29, 30, 31, 32, 33, 34] (by decide +kernel) (by decide +kernel)
set_option maxRecDepth 20000 in
theorem gX1_twinInputs_X0_addInput_n42 : GoodIn wsX1_twinInputs (wsX0_addInput) := ggX1_twinInputs_X0_addInput
theorem dX1_twinInputs_0 : decode cX1_twinInputs 0 = .ok (.aload_n 0, 1) := by decide +kernel
theorem dX1_twinInputs_1 : decode cX1_twinInputs 1 = .ok (.getfield 25, 3) := by decide +kernel
theorem dX1_twinInputs_4 : decode cX1_twinInputs 4 = .ok (.iconst 0, 1) := by decide +kernel
theorem dX1_twinInputs_5 : decode cX1_twinInputs 5 = .ok (.iconst 0, 1) := by decide +kernel
theorem dX1_twinInputs_6 : decode cX1_twinInputs 6 = .ok (.iastore, 1) := by decide +kernel
theorem dX1_twinInputs_7 : decode cX1_twinInputs 7 = .ok (.aload_n 0, 1) := by decide +kernel
theorem dX1_twinInputs_8 : decode cX1_twinInputs 8 = .ok (.getfield 29, 3) := by decide +kernel
theorem dX1_twinInputs_11 : decode cX1_twinInputs 11 = .ok (.iconst 0, 1) := by decide +kernel
theorem dX1_twinInputs_12 : decode cX1_twinInputs 12 = .ok (.iconst 0, 1) := by decide +kernel
theorem dX1_twinInputs_13 : decode cX1_twinInputs 13 = .ok (.iastore, 1) := by decide +kernel
theorem dX1_twinInputs_14 : decode cX1_twinInputs 14 = .ok (.iconst 0, 1) := by decide +kernel
theorem dX1_twinInputs_15 : decode cX1_twinInputs 15 = .ok (.istore_n 1, 1) := by decide +kernel
theorem dX1_twinInputs_16 : decode cX1_twinInputs 16 = .ok (.iload_n 1, 1) := by decide +kernel
theorem dX1_twinInputs_17 : decode cX1_twinInputs 17 = .ok (.aload_n 0, 1) := by decide +kernel
theorem dX1_twinInputs_18 : decode cX1_twinInputs 18 = .ok (.getfield 14, 3) := by decide +kernel
theorem dX1_twinInputs_21 : decode cX1_twinInputs 21 = .ok (.getfield 84, 3) := by decide +kernel
theorem dX1_twinInputs_24 : decode cX1_twinInputs 24 = .ok (.if_icmp .ge 30, 3) := by decide +kernel
theorem dX1_twinInputs_27 : decode cX1_twinInputs 27 = .ok (.aload_n 0, 1) := by decide +kernel
theorem dX1_twinInputs_28 : decode cX1_twinInputs 28 = .ok (.getfield 25, 3) := by decide +kernel
theorem dX1_twinInputs_31 : decode cX1_twinInputs 31 = .ok (.aload_n 0, 1) := by decide +kernel
theorem dX1_twinInputs_32 : decode cX1_twinInputs 32 = .ok (.getfield 14, 3) := by decide +kernel
theorem dX1_twinInputs_35 : decode cX1_twinInputs 35 = .ok (.getfield 126, 3) := by decide +kernel
theorem dX1_twinInputs_38 : decode cX1_twinInputs 38 = .ok (.iload_n 1, 1) := by decide +kernel
theorem dX1_twinInputs_39 : decode cX1_twinInputs 39 = .ok (.iaload, 1) := by decide +kernel
theorem dX1_twinInputs_40 : decode cX1_twinInputs 40 = .ok (.aload_n 0, 1) := by decide +kernel
theorem dX1_twinInputs_41 : decode cX1_twinInputs 41 = .ok (.getfield 18, 3) := by decide +kernel
theorem dX1_twinInputs_44 : decode cX1_twinInputs 44 = .ok (.invokevirtual 42, 3) := by decide +kernel
theorem dX1_twinInputs_47 : decode cX1_twinInputs 47 = .ok (.iastore, 1) := by decide +kernel
theorem dX1_twinInputs_48 : decode cX1_twinInputs 48 = .ok (.iinc 1 1, 3) := by decide +kernel
theorem dX1_twinInputs_51 : decode cX1_twinInputs 51 = .ok (.goto (-35), 3) := by decide +kernel
theorem dX1_twinInputs_54 : decode cX1_twinInputs 54 = .ok (.iconst 0, 1) := by decide +kernel
theorem dX1_twinInputs_55 : decode cX1_twinInputs 55 = .ok (.istore_n 1, 1) := by decide +kernel
theorem dX1_twinInputs_56 : decode cX1_twinInputs 56 = .ok (.iload_n 1, 1) := by decide +kernel
theorem dX1_twinInputs_57 : decode cX1_twinInputs 57 = .ok (.aload_n 0, 1) := by decide +kernel
theorem dX1_twinInputs_58 : decode cX1_twinInputs 58 = .ok (.getfield 14, 3) := by decide +kernel
theorem dX1_twinInputs_61 : decode cX1_twinInputs 61 = .ok (.getfield 84, 3) := by decide +kernel
theorem dX1_twinInputs_64 : decode cX1_twinInputs 64 = .ok (.if_icmp .ge 30, 3) := by decide +kernel
theorem dX1_twinInputs_67 : decode cX1_twinInputs 67 = .ok (.aload_n 0, 1) := by decide +kernel
theorem dX1_twinInputs_68 : decode cX1_twinInputs 68 = .ok (.getfield 29, 3) := by decide +kernel
theorem dX1_twinInputs_71 : decode cX1_twinInputs 71 = .ok (.aload_n 0, 1) := by decide +kernel
theorem dX1_twinInputs_72 : decode cX1_twinInputs 72 = .ok (.getfield 14, 3) := by decide +kernel
theorem dX1_twinInputs_75 : decode cX1_twinInputs 75 = .ok (.getfield 126, 3) := by decide +kernel
theorem dX1_twinInputs_78 : decode cX1_twinInputs 78 = .ok (.iload_n 1, 1) := by decide +kernel
theorem dX1_twinInputs_79 : decode cX1_twinInputs 79 = .ok (.iaload, 1) := by decide +kernel
theorem dX1_twinInputs_80 : decode cX1_twinInputs 80 = .ok (.aload_n 0, 1) := by decide +kernel
theorem dX1_twinInputs_81 : decode cX1_twinInputs 81 = .ok (.getfield 18, 3) := by decide +kernel
theorem dX1_twinInputs_84 : decode cX1_twinInputs 84 = .ok (.invokevirtual 42, 3) := by decide +kernel
theorem dX1_twinInputs_87 : decode cX1_twinInputs 87 = .ok (.iastore, 1) := by decide +kernel
theorem dX1_twinInputs_88 : decode cX1_twinInputs 88 = .ok (.iinc 1 1, 3) := by decide +kernel
theorem dX1_twinInputs_91 : decode cX1_twinInputs 91 = .ok (.goto (-35), 3) := by decide +kernel
theorem dX1_twinInputs_94 : decode cX1_twinInputs 94 = .ok (.return_, 1) := by decide +kernel
set_option maxRecDepth 20000 in
theorem ggX1_twinGate_X1_valueInTwin : GoodIn wsX1_twinGate wsX1_valueInTwin := goodIn_r _ [9, 4, 10, 11, 8, 12, 38, 39, 40, 41, 42, 43, 44, 45] (by decide +kernel) (by decide +kernel)
set_option maxRecDepth 20000 in
theorem gX1_twinGate_X1_valueInTwin : GoodIn wsX1_twinGate (wsV RX1 81 RX1 yX1_valueInTwin wsX1_valueInTwin) := goodIn_app (goodIn_of _ (by decide +kernel)) ggX1_twinGate_X1_valueInTwin
set_option maxRecDepth 20000 in
theorem ggX1_twinGate_X0_both : GoodIn wsX1_twinGate wsX0_both := goodIn_r _ [16, 17, 18, 19, 14, 20, 21, 11, 8, 12, 22, 23, 24, 25, 26, 27, 28, 29, 30, 31, 32, 33, 46, 47, 48, 49, 50, 51, 52, 53] (by decide +kernel) (by decide +kernel)
set_option maxRecDepth 20000 in
theorem gX1_twinGate_X0_both_n46 : GoodIn wsX1_twinGate (wsX0_both) := ggX1_twinGate_X0_both
set_option maxRecDepth 20000 in
theorem ggX1_twinGate_X0_either : GoodIn wsX1_twinGate wsX0_either := goodIn_r _ [36, 11, 8, 12, 37, 13, 15, 14, 16, 17, 18, 19, 20, 21, 22, 23, 24, 25, 26, 27, 28, 29, 30, 31, 32, 33, 46, 47, 48, 49, 50, 51, 52, 53] (by decide +kernel) (by decide +kernel)
set_option maxRecDepth 20000 in
theorem gX1_twinGate_X0_either_n50 : GoodIn wsX1_twinGate (wsX0_either) := ggX1_twinGate_X0_either
theorem dX1_twinGate_0 : decode cX1_twinGate 0 = .ok (.aload_n 0, 1) := by decide +kernel
theorem dX1_twinGate_1 : decode cX1_twinGate 1 = .ok (.aload_n 0, 1) := by decide +kernel
theorem dX1_twinGate_2 : decode cX1_twinGate 2 = .ok (.getfield 14, 3) := by decide +kernel
theorem dX1_twinGate_5 : decode cX1_twinGate 5 = .ok (.getfield 72, 3) := by decide +kernel
theorem dX1_twinGate_8 : decode cX1_twinGate 8 = .ok (.iload_n 1, 1) := by decide +kernel
theorem dX1_twinGate_9 : decode cX1_twinGate 9 = .ok (.iaload, 1) := by decide +kernel
theorem dX1_twinGate_10 : decode cX1_twinGate 10 = .ok (.invokevirtual 81, 3) := by decide +kernel
theorem dX1_twinGate_13 : decode cX1_twinGate 13 = .ok (.istore_n 2, 1) := by decide +kernel
theorem dX1_twinGate_14 : decode cX1_twinGate 14 = .ok (.aload_n 0, 1) := by decide +kernel
theorem dX1_twinGate_15 : decode cX1_twinGate 15 = .ok (.aload_n 0, 1) := by decide +kernel
theorem dX1_twinGate_16 : decode cX1_twinGate 16 = .ok (.getfield 14, 3) := by decide +kernel
theorem dX1_twinGate_19 : decode cX1_twinGate 19 = .ok (.getfield 75, 3) := by decide +kernel
theorem dX1_twinGate_22 : decode cX1_twinGate 22 = .ok (.iload_n 1, 1) := by decide +kernel
theorem dX1_twinGate_23 : decode cX1_twinGate 23 = .ok (.iaload, 1) := by decide +kernel
theorem dX1_twinGate_24 : decode cX1_twinGate 24 = .ok (.invokevirtual 81, 3) := by decide +kernel
theorem dX1_twinGate_27 : decode cX1_twinGate 27 = .ok (.istore_n 3, 1) := by decide +kernel
theorem dX1_twinGate_28 : decode cX1_twinGate 28 = .ok (.aload_n 0, 1) := by decide +kernel
theorem dX1_twinGate_29 : decode cX1_twinGate 29 = .ok (.getfield 29, 3) := by decide +kernel
theorem dX1_twinGate_32 : decode cX1_twinGate 32 = .ok (.aload_n 0, 1) := by decide +kernel
theorem dX1_twinGate_33 : decode cX1_twinGate 33 = .ok (.getfield 14, 3) := by decide +kernel
theorem dX1_twinGate_36 : decode cX1_twinGate 36 = .ok (.getfield 72, 3) := by decide +kernel
theorem dX1_twinGate_39 : decode cX1_twinGate 39 = .ok (.iload_n 1, 1) := by decide +kernel
theorem dX1_twinGate_40 : decode cX1_twinGate 40 = .ok (.iaload, 1) := by decide +kernel
theorem dX1_twinGate_41 : decode cX1_twinGate 41 = .ok (.iconst 1, 1) := by decide +kernel
theorem dX1_twinGate_42 : decode cX1_twinGate 42 = .ok (.ishr, 1) := by decide +kernel
theorem dX1_twinGate_43 : decode cX1_twinGate 43 = .ok (.iaload, 1) := by decide +kernel
theorem dX1_twinGate_44 : decode cX1_twinGate 44 = .ok (.istore 4, 2) := by decide +kernel
theorem dX1_twinGate_46 : decode cX1_twinGate 46 = .ok (.aload_n 0, 1) := by decide +kernel
theorem dX1_twinGate_47 : decode cX1_twinGate 47 = .ok (.getfield 29, 3) := by decide +kernel
theorem dX1_twinGate_50 : decode cX1_twinGate 50 = .ok (.aload_n 0, 1) := by decide +kernel
theorem dX1_twinGate_51 : decode cX1_twinGate 51 = .ok (.getfield 14, 3) := by decide +kernel
theorem dX1_twinGate_54 : decode cX1_twinGate 54 = .ok (.getfield 75, 3) := by decide +kernel
theorem dX1_twinGate_57 : decode cX1_twinGate 57 = .ok (.iload_n 1, 1) := by decide +kernel
theorem dX1_twinGate_58 : decode cX1_twinGate 58 = .ok (.iaload, 1) := by decide +kernel
theorem dX1_twinGate_59 : decode cX1_twinGate 59 = .ok (.iconst 1, 1) := by decide +kernel
theorem dX1_twinGate_60 : decode cX1_twinGate 60 = .ok (.ishr, 1) := by decide +kernel
theorem dX1_twinGate_61 : decode cX1_twinGate 61 = .ok (.iaload, 1) := by decide +kernel
theorem dX1_twinGate_62 : decode cX1_twinGate 62 = .ok (.istore 5, 2) := by decide +kernel
theorem dX1_twinGate_64 : decode cX1_twinGate 64 = .ok (.aload_n 0, 1) := by decide +kernel
theorem dX1_twinGate_65 : decode cX1_twinGate 65 = .ok (.getfield 18, 3) := by decide +kernel
theorem dX1_twinGate_68 : decode cX1_twinGate 68 = .ok (.iload_n 2, 1) := by decide +kernel
theorem dX1_twinGate_69 : decode cX1_twinGate 69 = .ok (.iload_n 3, 1) := by decide +kernel
theorem dX1_twinGate_70 : decode cX1_twinGate 70 = .ok (.invokevirtual 46, 3) := by decide +kernel
theorem dX1_twinGate_73 : decode cX1_twinGate 73 = .ok (.istore 6, 2) := by decide +kernel
theorem dX1_twinGate_75 : decode cX1_twinGate 75 = .ok (.aload_n 0, 1) := by decide +kernel
theorem dX1_twinGate_76 : decode cX1_twinGate 76 = .ok (.getfield 18, 3) := by decide +kernel
theorem dX1_twinGate_79 : decode cX1_twinGate 79 = .ok (.iload 4, 2) := by decide +kernel
theorem dX1_twinGate_81 : decode cX1_twinGate 81 = .ok (.iload_n 3, 1) := by decide +kernel
theorem dX1_twinGate_82 : decode cX1_twinGate 82 = .ok (.invokevirtual 46, 3) := by decide +kernel
theorem dX1_twinGate_85 : decode cX1_twinGate 85 = .ok (.istore 7, 2) := by decide +kernel
theorem dX1_twinGate_87 : decode cX1_twinGate 87 = .ok (.aload_n 0, 1) := by decide +kernel
theorem dX1_twinGate_88 : decode cX1_twinGate 88 = .ok (.getfield 18, 3) := by decide +kernel
theorem dX1_twinGate_91 : decode cX1_twinGate 91 = .ok (.iload 5, 2) := by decide +kernel
theorem dX1_twinGate_93 : decode cX1_twinGate 93 = .ok (.iload_n 2, 1) := by decide +kernel
theorem dX1_twinGate_94 : decode cX1_twinGate 94 = .ok (.invokevirtual 46, 3) := by decide +kernel
theorem dX1_twinGate_97 : decode cX1_twinGate 97 = .ok (.istore 8, 2) := by decide +kernel
theorem dX1_twinGate_99 : decode cX1_twinGate 99 = .ok (.aload_n 0, 1) := by decide +kernel
theorem dX1_twinGate_100 : decode cX1_twinGate 100 = .ok (.getfield 18, 3) := by decide +kernel
theorem dX1_twinGate_103 : decode cX1_twinGate 103 = .ok (.iload 7, 2) := by decide +kernel
theorem dX1_twinGate_105 : decode cX1_twinGate 105 = .ok (.iload 8, 2) := by decide +kernel
theorem dX1_twinGate_107 : decode cX1_twinGate 107 = .ok (.invokevirtual 50, 3) := by decide +kernel
theorem dX1_twinGate_110 : decode cX1_twinGate 110 = .ok (.istore 9, 2) := by decide +kernel
theorem dX1_twinGate_112 : decode cX1_twinGate 112 = .ok (.aload_n 0, 1) := by decide +kernel
theorem dX1_twinGate_113 : decode cX1_twinGate 113 = .ok (.getfield 18, 3) := by decide +kernel
theorem dX1_twinGate_116 : decode cX1_twinGate 116 = .ok (.iload 4, 2) := by decide +kernel
theorem dX1_twinGate_118 : decode cX1_twinGate 118 = .ok (.iload 5, 2) := by decide +kernel
theorem dX1_twinGate_120 : decode cX1_twinGate 120 = .ok (.invokevirtual 46, 3) := by decide +kernel
theorem dX1_twinGate_123 : decode cX1_twinGate 123 = .ok (.istore 10, 2) := by decide +kernel
theorem dX1_twinGate_125 : decode cX1_twinGate 125 = .ok (.aload_n 0, 1) := by decide +kernel
theorem dX1_twinGate_126 : decode cX1_twinGate 126 = .ok (.getfield 18, 3) := by decide +kernel
theorem dX1_twinGate_129 : decode cX1_twinGate 129 = .ok (.iload 9, 2) := by decide +kernel
theorem dX1_twinGate_131 : decode cX1_twinGate 131 = .ok (.iload 10, 2) := by decide +kernel
theorem dX1_twinGate_133 : decode cX1_twinGate 133 = .ok (.invokevirtual 50, 3) := by decide +kernel
theorem dX1_twinGate_136 : decode cX1_twinGate 136 = .ok (.istore 11, 2) := by decide +kernel
theorem dX1_twinGate_138 : decode cX1_twinGate 138 = .ok (.aload_n 0, 1) := by decide +kernel
theorem dX1_twinGate_139 : decode cX1_twinGate 139 = .ok (.getfield 25, 3) := by decide +kernel
theorem dX1_twinGate_142 : decode cX1_twinGate 142 = .ok (.iload_n 1, 1) := by decide +kernel
theorem dX1_twinGate_143 : decode cX1_twinGate 143 = .ok (.iload 6, 2) := by decide +kernel
theorem dX1_twinGate_145 : decode cX1_twinGate 145 = .ok (.iastore, 1) := by decide +kernel
theorem dX1_twinGate_146 : decode cX1_twinGate 146 = .ok (.aload_n 0, 1) := by decide +kernel
theorem dX1_twinGate_147 : decode cX1_twinGate 147 = .ok (.getfield 29, 3) := by decide +kernel
theorem dX1_twinGate_150 : decode cX1_twinGate 150 = .ok (.iload_n 1, 1) := by decide +kernel
theorem dX1_twinGate_151 : decode cX1_twinGate 151 = .ok (.iload 11, 2) := by decide +kernel
theorem dX1_twinGate_153 : decode cX1_twinGate 153 = .ok (.iastore, 1) := by decide +kernel
theorem dX1_twinGate_154 : decode cX1_twinGate 154 = .ok (.iload 6, 2) := by decide +kernel
theorem dX1_twinGate_156 : decode cX1_twinGate 156 = .ok (.iconst (-1), 1) := by decide +kernel
theorem dX1_twinGate_157 : decode cX1_twinGate 157 = .ok (.if_icmp .eq 13, 3) := by decide +kernel
theorem dX1_twinGate_160 : decode cX1_twinGate 160 = .ok (.iload 11, 2) := by decide +kernel
theorem dX1_twinGate_162 : decode cX1_twinGate 162 = .ok (.iconst (-1), 1) := by decide +kernel
theorem dX1_twinGate_163 : decode cX1_twinGate 163 = .ok (.if_icmp .eq 7, 3) := by decide +kernel
theorem dX1_twinGate_166 : decode cX1_twinGate 166 = .ok (.iconst 1, 1) := by decide +kernel
theorem dX1_twinGate_167 : decode cX1_twinGate 167 = .ok (.goto 4, 3) := by decide +kernel
theorem dX1_twinGate_170 : decode cX1_twinGate 170 = .ok (.iconst 0, 1) := by decide +kernel
theorem dX1_twinGate_171 : decode cX1_twinGate 171 = .ok (.ireturn, 1) := by decide +kernel
set_option maxRecDepth 20000 in
theorem ggX1_valueInTwin_X1_not : GoodIn wsX1_valueInTwin wsX1_not := goodIn_r _ [5] (by decide +kernel) (by decide +kernel)
set_option maxRecDepth 20000 in
theorem gX1_valueInTwin_X1_not : GoodIn wsX1_valueInTwin (va_wsS RX1 53 yX1_not wsX1_not) := goodIn_app (goodIn_of _ (by decide +kernel)) ggX1_valueInTwin_X1_not
theorem dX1_valueInTwin_0 : decode cX1_valueInTwin 0 = .ok (.aload_n 0, 1) := by decide +kernel
theorem dX1_valueInTwin_1 : decode cX1_valueInTwin 1 = .ok (.getfield 25, 3) := by decide +kernel
theorem dX1_valueInTwin_4 : decode cX1_valueInTwin 4 = .ok (.iload_n 1, 1) := by decide +kernel
theorem dX1_valueInTwin_5 : decode cX1_valueInTwin 5 = .ok (.iconst 1, 1) := by decide +kernel
theorem dX1_valueInTwin_6 : decode cX1_valueInTwin 6 = .ok (.ishr, 1) := by decide +kernel
theorem dX1_valueInTwin_7 : decode cX1_valueInTwin 7 = .ok (.iaload, 1) := by decide +kernel
theorem dX1_valueInTwin_8 : decode cX1_valueInTwin 8 = .ok (.istore_n 2, 1) := by decide +kernel
theorem dX1_valueInTwin_9 : decode cX1_valueInTwin 9 = .ok (.iload_n 1, 1) := by decide +kernel
theorem dX1_valueInTwin_10 : decode cX1_valueInTwin 10 = .ok (.iconst 1, 1) := by decide +kernel
theorem dX1_valueInTwin_11 : decode cX1_valueInTwin 11 = .ok (.iand, 1) := by decide +kernel
theorem dX1_valueInTwin_12 : decode cX1_valueInTwin 12 = .ok (.ifCond .ne 7, 3) := by decide +kernel
theorem dX1_valueInTwin_15 : decode cX1_valueInTwin 15 = .ok (.iload_n 2, 1) := by decide +kernel
theorem dX1_valueInTwin_16 : decode cX1_valueInTwin 16 = .ok (.goto 7, 3) := by decide +kernel
theorem dX1_valueInTwin_19 : decode cX1_valueInTwin 19 = .ok (.iload_n 2, 1) := by decide +kernel
theorem dX1_valueInTwin_20 : decode cX1_valueInTwin 20 = .ok (.invokestatic 53, 3) := by decide +kernel
theorem dX1_valueInTwin_23 : decode cX1_valueInTwin 23 = .ok (.ireturn, 1) := by decide +kernel
set_option maxRecDepth 20000 in
theorem ggX1_spreadNet_X1_wordOfBit : GoodIn wsX1_spreadNet wsX1_wordOfBit := goodIn_r _ [6, 7] (by decide +kernel) (by decide +kernel)
set_option maxRecDepth 20000 in
theorem gX1_spreadNet_X1_wordOfBit : GoodIn wsX1_spreadNet (va_wsS RX1 132 yX1_wordOfBit wsX1_wordOfBit) := goodIn_app (goodIn_of _ (by decide +kernel)) ggX1_spreadNet_X1_wordOfBit
set_option maxRecDepth 20000 in
theorem ggX1_spreadNet_X0_spread : GoodIn wsX1_spreadNet wsX0_spread := goodIn_r _ [11, 12, 13, 14, 15, 16, 17, 18, 9, 19, 20, 21, 22, 23, 24, 33, 34, 35, 36, 37, 38, 39, 40] (by decide +kernel) (by decide +kernel)
set_option maxRecDepth 20000 in
theorem gX1_spreadNet_X0_spread_n111 : GoodIn wsX1_spreadNet (wsX0_spread) := ggX1_spreadNet_X0_spread
theorem dX1_spreadNet_0 : decode cX1_spreadNet 0 = .ok (.iconst 0, 1) := by decide +kernel
theorem dX1_spreadNet_1 : decode cX1_spreadNet 1 = .ok (.istore_n 1, 1) := by decide +kernel
theorem dX1_spreadNet_2 : decode cX1_spreadNet 2 = .ok (.iload_n 1, 1) := by decide +kernel
theorem dX1_spreadNet_3 : decode cX1_spreadNet 3 = .ok (.aload_n 0, 1) := by decide +kernel
theorem dX1_spreadNet_4 : decode cX1_spreadNet 4 = .ok (.getfield 14, 3) := by decide +kernel
theorem dX1_spreadNet_7 : decode cX1_spreadNet 7 = .ok (.getfield 84, 3) := by decide +kernel
theorem dX1_spreadNet_10 : decode cX1_spreadNet 10 = .ok (.if_icmp .ge 35, 3) := by decide +kernel
theorem dX1_spreadNet_13 : decode cX1_spreadNet 13 = .ok (.aload_n 0, 1) := by decide +kernel
theorem dX1_spreadNet_14 : decode cX1_spreadNet 14 = .ok (.getfield 14, 3) := by decide +kernel
theorem dX1_spreadNet_17 : decode cX1_spreadNet 17 = .ok (.getfield 129, 3) := by decide +kernel
theorem dX1_spreadNet_20 : decode cX1_spreadNet 20 = .ok (.aload_n 0, 1) := by decide +kernel
theorem dX1_spreadNet_21 : decode cX1_spreadNet 21 = .ok (.getfield 14, 3) := by decide +kernel
theorem dX1_spreadNet_24 : decode cX1_spreadNet 24 = .ok (.getfield 126, 3) := by decide +kernel
theorem dX1_spreadNet_27 : decode cX1_spreadNet 27 = .ok (.iload_n 1, 1) := by decide +kernel
theorem dX1_spreadNet_28 : decode cX1_spreadNet 28 = .ok (.iaload, 1) := by decide +kernel
theorem dX1_spreadNet_29 : decode cX1_spreadNet 29 = .ok (.aload_n 0, 1) := by decide +kernel
theorem dX1_spreadNet_30 : decode cX1_spreadNet 30 = .ok (.getfield 32, 3) := by decide +kernel
theorem dX1_spreadNet_33 : decode cX1_spreadNet 33 = .ok (.iload_n 1, 1) := by decide +kernel
theorem dX1_spreadNet_34 : decode cX1_spreadNet 34 = .ok (.iaload, 1) := by decide +kernel
theorem dX1_spreadNet_35 : decode cX1_spreadNet 35 = .ok (.invokestatic 132, 3) := by decide +kernel
theorem dX1_spreadNet_38 : decode cX1_spreadNet 38 = .ok (.lastore, 1) := by decide +kernel
theorem dX1_spreadNet_39 : decode cX1_spreadNet 39 = .ok (.iinc 1 1, 3) := by decide +kernel
theorem dX1_spreadNet_42 : decode cX1_spreadNet 42 = .ok (.goto (-40), 3) := by decide +kernel
theorem dX1_spreadNet_45 : decode cX1_spreadNet 45 = .ok (.aload_n 0, 1) := by decide +kernel
theorem dX1_spreadNet_46 : decode cX1_spreadNet 46 = .ok (.getfield 14, 3) := by decide +kernel
theorem dX1_spreadNet_49 : decode cX1_spreadNet 49 = .ok (.invokevirtual 111, 3) := by decide +kernel
theorem dX1_spreadNet_52 : decode cX1_spreadNet 52 = .ok (.return_, 1) := by decide +kernel
set_option maxRecDepth 20000 in
theorem ggX1_spreadTwin_X1_wordOfBit : GoodIn wsX1_spreadTwin wsX1_wordOfBit := goodIn_r _ [8, 9] (by decide +kernel) (by decide +kernel)
set_option maxRecDepth 20000 in
theorem gX1_spreadTwin_X1_wordOfBit : GoodIn wsX1_spreadTwin (va_wsS RX1 132 yX1_wordOfBit wsX1_wordOfBit) := goodIn_app (goodIn_of _ (by decide +kernel)) ggX1_spreadTwin_X1_wordOfBit
set_option maxRecDepth 20000 in
theorem ggX1_spreadTwin_X0_spread : GoodIn wsX1_spreadTwin wsX0_spread := goodIn_r _ [13, 14, 15, 16, 17, 18, 19, 20, 11, 21, 22, 23, 24, 25, 26, 35, 36, 37, 38, 39, 40, 41, 42] (by decide +kernel) (by decide +kernel)
set_option maxRecDepth 20000 in
theorem gX1_spreadTwin_X0_spread_n111 : GoodIn wsX1_spreadTwin (wsX0_spread) := ggX1_spreadTwin_X0_spread
theorem dX1_spreadTwin_0 : decode cX1_spreadTwin 0 = .ok (.aload_n 0, 1) := by decide +kernel
theorem dX1_spreadTwin_1 : decode cX1_spreadTwin 1 = .ok (.getfield 14, 3) := by decide +kernel
theorem dX1_spreadTwin_4 : decode cX1_spreadTwin 4 = .ok (.getfield 84, 3) := by decide +kernel
theorem dX1_spreadTwin_7 : decode cX1_spreadTwin 7 = .ok (.istore_n 1, 1) := by decide +kernel
theorem dX1_spreadTwin_8 : decode cX1_spreadTwin 8 = .ok (.iconst 0, 1) := by decide +kernel
theorem dX1_spreadTwin_9 : decode cX1_spreadTwin 9 = .ok (.istore_n 2, 1) := by decide +kernel
theorem dX1_spreadTwin_10 : decode cX1_spreadTwin 10 = .ok (.iload_n 2, 1) := by decide +kernel
theorem dX1_spreadTwin_11 : decode cX1_spreadTwin 11 = .ok (.iload_n 1, 1) := by decide +kernel
theorem dX1_spreadTwin_12 : decode cX1_spreadTwin 12 = .ok (.if_icmp .ge 63, 3) := by decide +kernel
theorem dX1_spreadTwin_15 : decode cX1_spreadTwin 15 = .ok (.aload_n 0, 1) := by decide +kernel
theorem dX1_spreadTwin_16 : decode cX1_spreadTwin 16 = .ok (.getfield 18, 3) := by decide +kernel
theorem dX1_spreadTwin_19 : decode cX1_spreadTwin 19 = .ok (.getfield 129, 3) := by decide +kernel
theorem dX1_spreadTwin_22 : decode cX1_spreadTwin 22 = .ok (.aload_n 0, 1) := by decide +kernel
theorem dX1_spreadTwin_23 : decode cX1_spreadTwin 23 = .ok (.getfield 18, 3) := by decide +kernel
theorem dX1_spreadTwin_26 : decode cX1_spreadTwin 26 = .ok (.getfield 126, 3) := by decide +kernel
theorem dX1_spreadTwin_29 : decode cX1_spreadTwin 29 = .ok (.iload_n 2, 1) := by decide +kernel
theorem dX1_spreadTwin_30 : decode cX1_spreadTwin 30 = .ok (.iaload, 1) := by decide +kernel
theorem dX1_spreadTwin_31 : decode cX1_spreadTwin 31 = .ok (.aload_n 0, 1) := by decide +kernel
theorem dX1_spreadTwin_32 : decode cX1_spreadTwin 32 = .ok (.getfield 32, 3) := by decide +kernel
theorem dX1_spreadTwin_35 : decode cX1_spreadTwin 35 = .ok (.iload_n 2, 1) := by decide +kernel
theorem dX1_spreadTwin_36 : decode cX1_spreadTwin 36 = .ok (.iaload, 1) := by decide +kernel
theorem dX1_spreadTwin_37 : decode cX1_spreadTwin 37 = .ok (.invokestatic 132, 3) := by decide +kernel
theorem dX1_spreadTwin_40 : decode cX1_spreadTwin 40 = .ok (.lastore, 1) := by decide +kernel
theorem dX1_spreadTwin_41 : decode cX1_spreadTwin 41 = .ok (.aload_n 0, 1) := by decide +kernel
theorem dX1_spreadTwin_42 : decode cX1_spreadTwin 42 = .ok (.getfield 18, 3) := by decide +kernel
theorem dX1_spreadTwin_45 : decode cX1_spreadTwin 45 = .ok (.getfield 129, 3) := by decide +kernel
theorem dX1_spreadTwin_48 : decode cX1_spreadTwin 48 = .ok (.aload_n 0, 1) := by decide +kernel
theorem dX1_spreadTwin_49 : decode cX1_spreadTwin 49 = .ok (.getfield 18, 3) := by decide +kernel
theorem dX1_spreadTwin_52 : decode cX1_spreadTwin 52 = .ok (.getfield 126, 3) := by decide +kernel
theorem dX1_spreadTwin_55 : decode cX1_spreadTwin 55 = .ok (.iload_n 1, 1) := by decide +kernel
theorem dX1_spreadTwin_56 : decode cX1_spreadTwin 56 = .ok (.iload_n 2, 1) := by decide +kernel
theorem dX1_spreadTwin_57 : decode cX1_spreadTwin 57 = .ok (.iadd, 1) := by decide +kernel
theorem dX1_spreadTwin_58 : decode cX1_spreadTwin 58 = .ok (.iaload, 1) := by decide +kernel
theorem dX1_spreadTwin_59 : decode cX1_spreadTwin 59 = .ok (.aload_n 0, 1) := by decide +kernel
theorem dX1_spreadTwin_60 : decode cX1_spreadTwin 60 = .ok (.getfield 35, 3) := by decide +kernel
theorem dX1_spreadTwin_63 : decode cX1_spreadTwin 63 = .ok (.iload_n 2, 1) := by decide +kernel
theorem dX1_spreadTwin_64 : decode cX1_spreadTwin 64 = .ok (.iaload, 1) := by decide +kernel
theorem dX1_spreadTwin_65 : decode cX1_spreadTwin 65 = .ok (.invokestatic 132, 3) := by decide +kernel
theorem dX1_spreadTwin_68 : decode cX1_spreadTwin 68 = .ok (.lastore, 1) := by decide +kernel
theorem dX1_spreadTwin_69 : decode cX1_spreadTwin 69 = .ok (.iinc 2 1, 3) := by decide +kernel
theorem dX1_spreadTwin_72 : decode cX1_spreadTwin 72 = .ok (.goto (-62), 3) := by decide +kernel
theorem dX1_spreadTwin_75 : decode cX1_spreadTwin 75 = .ok (.aload_n 0, 1) := by decide +kernel
theorem dX1_spreadTwin_76 : decode cX1_spreadTwin 76 = .ok (.getfield 18, 3) := by decide +kernel
theorem dX1_spreadTwin_79 : decode cX1_spreadTwin 79 = .ok (.invokevirtual 111, 3) := by decide +kernel
theorem dX1_spreadTwin_82 : decode cX1_spreadTwin 82 = .ok (.return_, 1) := by decide +kernel
set_option maxRecDepth 20000 in
theorem ggX1_spreadTaints_X1_wordOfBit : GoodIn wsX1_spreadTaints wsX1_wordOfBit := goodIn_r _ [7, 8] (by decide +kernel) (by decide +kernel)
set_option maxRecDepth 20000 in
theorem gX1_spreadTaints_X1_wordOfBit : GoodIn wsX1_spreadTaints (va_wsS RX1 132 yX1_wordOfBit wsX1_wordOfBit) := goodIn_app (goodIn_of _ (by decide +kernel)) ggX1_spreadTaints_X1_wordOfBit
set_option maxRecDepth 20000 in
theorem ggX1_spreadTaints_X0_isGate : GoodIn wsX1_spreadTaints wsX0_isGate := goodIn_r _ [12, 13, 27, 28, 29, 30, 31, 32, 33, 34] (by decide +kernel) (by decide +kernel)
set_option maxRecDepth 20000 in
theorem gX1_spreadTaints_X0_isGate_n120 : GoodIn wsX1_spreadTaints (wsX0_isGate) := ggX1_spreadTaints_X0_isGate
set_option maxRecDepth 20000 in
theorem ggX1_spreadTaints_X0_wordOf : GoodIn wsX1_spreadTaints wsX0_wordOf := goodIn_r _ [16, 17, 18, 27, 28, 29, 30, 31, 32, 33, 34] (by decide +kernel) (by decide +kernel)
set_option maxRecDepth 20000 in
theorem gX1_spreadTaints_X0_wordOf_n90 : GoodIn wsX1_spreadTaints (wsX0_wordOf) := ggX1_spreadTaints_X0_wordOf
theorem dX1_spreadTaints_0 : decode cX1_spreadTaints 0 = .ok (.iconst 0, 1) := by decide +kernel
theorem dX1_spreadTaints_1 : decode cX1_spreadTaints 1 = .ok (.istore_n 1, 1) := by decide +kernel
theorem dX1_spreadTaints_2 : decode cX1_spreadTaints 2 = .ok (.iload_n 1, 1) := by decide +kernel
theorem dX1_spreadTaints_3 : decode cX1_spreadTaints 3 = .ok (.aload_n 0, 1) := by decide +kernel
theorem dX1_spreadTaints_4 : decode cX1_spreadTaints 4 = .ok (.getfield 14, 3) := by decide +kernel
theorem dX1_spreadTaints_7 : decode cX1_spreadTaints 7 = .ok (.getfield 84, 3) := by decide +kernel
theorem dX1_spreadTaints_10 : decode cX1_spreadTaints 10 = .ok (.if_icmp .ge 32, 3) := by decide +kernel
theorem dX1_spreadTaints_13 : decode cX1_spreadTaints 13 = .ok (.aload_n 0, 1) := by decide +kernel
theorem dX1_spreadTaints_14 : decode cX1_spreadTaints 14 = .ok (.getfield 38, 3) := by decide +kernel
theorem dX1_spreadTaints_17 : decode cX1_spreadTaints 17 = .ok (.aload_n 0, 1) := by decide +kernel
theorem dX1_spreadTaints_18 : decode cX1_spreadTaints 18 = .ok (.getfield 14, 3) := by decide +kernel
theorem dX1_spreadTaints_21 : decode cX1_spreadTaints 21 = .ok (.getfield 126, 3) := by decide +kernel
theorem dX1_spreadTaints_24 : decode cX1_spreadTaints 24 = .ok (.iload_n 1, 1) := by decide +kernel
theorem dX1_spreadTaints_25 : decode cX1_spreadTaints 25 = .ok (.iaload, 1) := by decide +kernel
theorem dX1_spreadTaints_26 : decode cX1_spreadTaints 26 = .ok (.aload_n 0, 1) := by decide +kernel
theorem dX1_spreadTaints_27 : decode cX1_spreadTaints 27 = .ok (.getfield 35, 3) := by decide +kernel
theorem dX1_spreadTaints_30 : decode cX1_spreadTaints 30 = .ok (.iload_n 1, 1) := by decide +kernel
theorem dX1_spreadTaints_31 : decode cX1_spreadTaints 31 = .ok (.iaload, 1) := by decide +kernel
theorem dX1_spreadTaints_32 : decode cX1_spreadTaints 32 = .ok (.invokestatic 132, 3) := by decide +kernel
theorem dX1_spreadTaints_35 : decode cX1_spreadTaints 35 = .ok (.lastore, 1) := by decide +kernel
theorem dX1_spreadTaints_36 : decode cX1_spreadTaints 36 = .ok (.iinc 1 1, 3) := by decide +kernel
theorem dX1_spreadTaints_39 : decode cX1_spreadTaints 39 = .ok (.goto (-37), 3) := by decide +kernel
theorem dX1_spreadTaints_42 : decode cX1_spreadTaints 42 = .ok (.iconst 0, 1) := by decide +kernel
theorem dX1_spreadTaints_43 : decode cX1_spreadTaints 43 = .ok (.istore_n 1, 1) := by decide +kernel
theorem dX1_spreadTaints_44 : decode cX1_spreadTaints 44 = .ok (.iload_n 1, 1) := by decide +kernel
theorem dX1_spreadTaints_45 : decode cX1_spreadTaints 45 = .ok (.aload_n 0, 1) := by decide +kernel
theorem dX1_spreadTaints_46 : decode cX1_spreadTaints 46 = .ok (.getfield 14, 3) := by decide +kernel
theorem dX1_spreadTaints_49 : decode cX1_spreadTaints 49 = .ok (.getfield 61, 3) := by decide +kernel
theorem dX1_spreadTaints_52 : decode cX1_spreadTaints 52 = .ok (.if_icmp .ge 95, 3) := by decide +kernel
theorem dX1_spreadTaints_55 : decode cX1_spreadTaints 55 = .ok (.aload_n 0, 1) := by decide +kernel
theorem dX1_spreadTaints_56 : decode cX1_spreadTaints 56 = .ok (.getfield 14, 3) := by decide +kernel
theorem dX1_spreadTaints_59 : decode cX1_spreadTaints 59 = .ok (.iload_n 1, 1) := by decide +kernel
theorem dX1_spreadTaints_60 : decode cX1_spreadTaints 60 = .ok (.invokevirtual 120, 3) := by decide +kernel
theorem dX1_spreadTaints_63 : decode cX1_spreadTaints 63 = .ok (.ifCond .eq 78, 3) := by decide +kernel
theorem dX1_spreadTaints_66 : decode cX1_spreadTaints 66 = .ok (.aload_n 0, 1) := by decide +kernel
theorem dX1_spreadTaints_67 : decode cX1_spreadTaints 67 = .ok (.getfield 14, 3) := by decide +kernel
theorem dX1_spreadTaints_70 : decode cX1_spreadTaints 70 = .ok (.getfield 72, 3) := by decide +kernel
theorem dX1_spreadTaints_73 : decode cX1_spreadTaints 73 = .ok (.iload_n 1, 1) := by decide +kernel
theorem dX1_spreadTaints_74 : decode cX1_spreadTaints 74 = .ok (.iaload, 1) := by decide +kernel
theorem dX1_spreadTaints_75 : decode cX1_spreadTaints 75 = .ok (.istore_n 2, 1) := by decide +kernel
theorem dX1_spreadTaints_76 : decode cX1_spreadTaints 76 = .ok (.aload_n 0, 1) := by decide +kernel
theorem dX1_spreadTaints_77 : decode cX1_spreadTaints 77 = .ok (.getfield 14, 3) := by decide +kernel
theorem dX1_spreadTaints_80 : decode cX1_spreadTaints 80 = .ok (.getfield 75, 3) := by decide +kernel
theorem dX1_spreadTaints_83 : decode cX1_spreadTaints 83 = .ok (.iload_n 1, 1) := by decide +kernel
theorem dX1_spreadTaints_84 : decode cX1_spreadTaints 84 = .ok (.iaload, 1) := by decide +kernel
theorem dX1_spreadTaints_85 : decode cX1_spreadTaints 85 = .ok (.istore_n 3, 1) := by decide +kernel
theorem dX1_spreadTaints_86 : decode cX1_spreadTaints 86 = .ok (.aload_n 0, 1) := by decide +kernel
theorem dX1_spreadTaints_87 : decode cX1_spreadTaints 87 = .ok (.getfield 38, 3) := by decide +kernel
theorem dX1_spreadTaints_90 : decode cX1_spreadTaints 90 = .ok (.iload_n 2, 1) := by decide +kernel
theorem dX1_spreadTaints_91 : decode cX1_spreadTaints 91 = .ok (.iconst 1, 1) := by decide +kernel
theorem dX1_spreadTaints_92 : decode cX1_spreadTaints 92 = .ok (.ishr, 1) := by decide +kernel
theorem dX1_spreadTaints_93 : decode cX1_spreadTaints 93 = .ok (.laload, 1) := by decide +kernel
theorem dX1_spreadTaints_94 : decode cX1_spreadTaints 94 = .ok (.lstore 4, 2) := by decide +kernel
theorem dX1_spreadTaints_96 : decode cX1_spreadTaints 96 = .ok (.aload_n 0, 1) := by decide +kernel
theorem dX1_spreadTaints_97 : decode cX1_spreadTaints 97 = .ok (.getfield 38, 3) := by decide +kernel
theorem dX1_spreadTaints_100 : decode cX1_spreadTaints 100 = .ok (.iload_n 3, 1) := by decide +kernel
theorem dX1_spreadTaints_101 : decode cX1_spreadTaints 101 = .ok (.iconst 1, 1) := by decide +kernel
theorem dX1_spreadTaints_102 : decode cX1_spreadTaints 102 = .ok (.ishr, 1) := by decide +kernel
theorem dX1_spreadTaints_103 : decode cX1_spreadTaints 103 = .ok (.laload, 1) := by decide +kernel
theorem dX1_spreadTaints_104 : decode cX1_spreadTaints 104 = .ok (.lstore 6, 2) := by decide +kernel
theorem dX1_spreadTaints_106 : decode cX1_spreadTaints 106 = .ok (.aload_n 0, 1) := by decide +kernel
theorem dX1_spreadTaints_107 : decode cX1_spreadTaints 107 = .ok (.getfield 38, 3) := by decide +kernel
theorem dX1_spreadTaints_110 : decode cX1_spreadTaints 110 = .ok (.iload_n 1, 1) := by decide +kernel
theorem dX1_spreadTaints_111 : decode cX1_spreadTaints 111 = .ok (.lload 4, 2) := by decide +kernel
theorem dX1_spreadTaints_113 : decode cX1_spreadTaints 113 = .ok (.aload_n 0, 1) := by decide +kernel
theorem dX1_spreadTaints_114 : decode cX1_spreadTaints 114 = .ok (.getfield 14, 3) := by decide +kernel
theorem dX1_spreadTaints_117 : decode cX1_spreadTaints 117 = .ok (.iload_n 3, 1) := by decide +kernel
theorem dX1_spreadTaints_118 : decode cX1_spreadTaints 118 = .ok (.invokevirtual 90, 3) := by decide +kernel
theorem dX1_spreadTaints_121 : decode cX1_spreadTaints 121 = .ok (.land, 1) := by decide +kernel
theorem dX1_spreadTaints_122 : decode cX1_spreadTaints 122 = .ok (.lload 6, 2) := by decide +kernel
theorem dX1_spreadTaints_124 : decode cX1_spreadTaints 124 = .ok (.aload_n 0, 1) := by decide +kernel
theorem dX1_spreadTaints_125 : decode cX1_spreadTaints 125 = .ok (.getfield 14, 3) := by decide +kernel
theorem dX1_spreadTaints_128 : decode cX1_spreadTaints 128 = .ok (.iload_n 2, 1) := by decide +kernel
theorem dX1_spreadTaints_129 : decode cX1_spreadTaints 129 = .ok (.invokevirtual 90, 3) := by decide +kernel
theorem dX1_spreadTaints_132 : decode cX1_spreadTaints 132 = .ok (.land, 1) := by decide +kernel
theorem dX1_spreadTaints_133 : decode cX1_spreadTaints 133 = .ok (.lor, 1) := by decide +kernel
theorem dX1_spreadTaints_134 : decode cX1_spreadTaints 134 = .ok (.lload 4, 2) := by decide +kernel
theorem dX1_spreadTaints_136 : decode cX1_spreadTaints 136 = .ok (.lload 6, 2) := by decide +kernel
theorem dX1_spreadTaints_138 : decode cX1_spreadTaints 138 = .ok (.land, 1) := by decide +kernel
theorem dX1_spreadTaints_139 : decode cX1_spreadTaints 139 = .ok (.lor, 1) := by decide +kernel
theorem dX1_spreadTaints_140 : decode cX1_spreadTaints 140 = .ok (.lastore, 1) := by decide +kernel
theorem dX1_spreadTaints_141 : decode cX1_spreadTaints 141 = .ok (.iinc 1 1, 3) := by decide +kernel
theorem dX1_spreadTaints_144 : decode cX1_spreadTaints 144 = .ok (.goto (-100), 3) := by decide +kernel
theorem dX1_spreadTaints_147 : decode cX1_spreadTaints 147 = .ok (.return_, 1) := by decide +kernel
theorem dX1_countTainted_0 : decode cX1_countTainted 0 = .ok (.iconst 0, 1) := by decide +kernel
theorem dX1_countTainted_1 : decode cX1_countTainted 1 = .ok (.istore_n 1, 1) := by decide +kernel
theorem dX1_countTainted_2 : decode cX1_countTainted 2 = .ok (.iconst 0, 1) := by decide +kernel
theorem dX1_countTainted_3 : decode cX1_countTainted 3 = .ok (.istore_n 2, 1) := by decide +kernel
theorem dX1_countTainted_4 : decode cX1_countTainted 4 = .ok (.iload_n 2, 1) := by decide +kernel
theorem dX1_countTainted_5 : decode cX1_countTainted 5 = .ok (.aload_n 0, 1) := by decide +kernel
theorem dX1_countTainted_6 : decode cX1_countTainted 6 = .ok (.getfield 14, 3) := by decide +kernel
theorem dX1_countTainted_9 : decode cX1_countTainted 9 = .ok (.getfield 84, 3) := by decide +kernel
theorem dX1_countTainted_12 : decode cX1_countTainted 12 = .ok (.if_icmp .ge 18, 3) := by decide +kernel
theorem dX1_countTainted_15 : decode cX1_countTainted 15 = .ok (.iload_n 1, 1) := by decide +kernel
theorem dX1_countTainted_16 : decode cX1_countTainted 16 = .ok (.aload_n 0, 1) := by decide +kernel
theorem dX1_countTainted_17 : decode cX1_countTainted 17 = .ok (.getfield 35, 3) := by decide +kernel
theorem dX1_countTainted_20 : decode cX1_countTainted 20 = .ok (.iload_n 2, 1) := by decide +kernel
theorem dX1_countTainted_21 : decode cX1_countTainted 21 = .ok (.iaload, 1) := by decide +kernel
theorem dX1_countTainted_22 : decode cX1_countTainted 22 = .ok (.iadd, 1) := by decide +kernel
theorem dX1_countTainted_23 : decode cX1_countTainted 23 = .ok (.istore_n 1, 1) := by decide +kernel
theorem dX1_countTainted_24 : decode cX1_countTainted 24 = .ok (.iinc 2 1, 3) := by decide +kernel
theorem dX1_countTainted_27 : decode cX1_countTainted 27 = .ok (.goto (-23), 3) := by decide +kernel
theorem dX1_countTainted_30 : decode cX1_countTainted 30 = .ok (.iload_n 1, 1) := by decide +kernel
theorem dX1_countTainted_31 : decode cX1_countTainted 31 = .ok (.ireturn, 1) := by decide +kernel
set_option maxRecDepth 20000 in
theorem ggX1_setTaintedInputs_X1_settingsOf : GoodIn wsX1_setTaintedInputs wsX1_settingsOf := goodIn_r _ [6, 7, 8, 9, 5, 10, 11] (by decide +kernel) (by decide +kernel)
set_option maxRecDepth 20000 in
theorem gX1_setTaintedInputs_X1_settingsOf : GoodIn wsX1_setTaintedInputs (va_wsS RX1 135 yX1_settingsOf wsX1_settingsOf) := goodIn_app (goodIn_of _ (by decide +kernel)) ggX1_setTaintedInputs_X1_settingsOf
theorem dX1_setTaintedInputs_0 : decode cX1_setTaintedInputs 0 = .ok (.iconst 0, 1) := by decide +kernel
theorem dX1_setTaintedInputs_1 : decode cX1_setTaintedInputs 1 = .ok (.istore_n 2, 1) := by decide +kernel
theorem dX1_setTaintedInputs_2 : decode cX1_setTaintedInputs 2 = .ok (.iconst 0, 1) := by decide +kernel
theorem dX1_setTaintedInputs_3 : decode cX1_setTaintedInputs 3 = .ok (.istore_n 3, 1) := by decide +kernel
theorem dX1_setTaintedInputs_4 : decode cX1_setTaintedInputs 4 = .ok (.iload_n 3, 1) := by decide +kernel
theorem dX1_setTaintedInputs_5 : decode cX1_setTaintedInputs 5 = .ok (.aload_n 0, 1) := by decide +kernel
theorem dX1_setTaintedInputs_6 : decode cX1_setTaintedInputs 6 = .ok (.getfield 14, 3) := by decide +kernel
theorem dX1_setTaintedInputs_9 : decode cX1_setTaintedInputs 9 = .ok (.getfield 84, 3) := by decide +kernel
theorem dX1_setTaintedInputs_12 : decode cX1_setTaintedInputs 12 = .ok (.if_icmp .ge 44, 3) := by decide +kernel
theorem dX1_setTaintedInputs_15 : decode cX1_setTaintedInputs 15 = .ok (.aload_n 0, 1) := by decide +kernel
theorem dX1_setTaintedInputs_16 : decode cX1_setTaintedInputs 16 = .ok (.getfield 35, 3) := by decide +kernel
theorem dX1_setTaintedInputs_19 : decode cX1_setTaintedInputs 19 = .ok (.iload_n 3, 1) := by decide +kernel
theorem dX1_setTaintedInputs_20 : decode cX1_setTaintedInputs 20 = .ok (.iaload, 1) := by decide +kernel
theorem dX1_setTaintedInputs_21 : decode cX1_setTaintedInputs 21 = .ok (.iconst 1, 1) := by decide +kernel
theorem dX1_setTaintedInputs_22 : decode cX1_setTaintedInputs 22 = .ok (.if_icmp .ne 28, 3) := by decide +kernel
theorem dX1_setTaintedInputs_25 : decode cX1_setTaintedInputs 25 = .ok (.aload_n 0, 1) := by decide +kernel
theorem dX1_setTaintedInputs_26 : decode cX1_setTaintedInputs 26 = .ok (.getfield 14, 3) := by decide +kernel
theorem dX1_setTaintedInputs_29 : decode cX1_setTaintedInputs 29 = .ok (.getfield 129, 3) := by decide +kernel
theorem dX1_setTaintedInputs_32 : decode cX1_setTaintedInputs 32 = .ok (.aload_n 0, 1) := by decide +kernel
theorem dX1_setTaintedInputs_33 : decode cX1_setTaintedInputs 33 = .ok (.getfield 14, 3) := by decide +kernel
theorem dX1_setTaintedInputs_36 : decode cX1_setTaintedInputs 36 = .ok (.getfield 126, 3) := by decide +kernel
theorem dX1_setTaintedInputs_39 : decode cX1_setTaintedInputs 39 = .ok (.iload_n 3, 1) := by decide +kernel
theorem dX1_setTaintedInputs_40 : decode cX1_setTaintedInputs 40 = .ok (.iaload, 1) := by decide +kernel
theorem dX1_setTaintedInputs_41 : decode cX1_setTaintedInputs 41 = .ok (.iload_n 2, 1) := by decide +kernel
theorem dX1_setTaintedInputs_42 : decode cX1_setTaintedInputs 42 = .ok (.iload_n 1, 1) := by decide +kernel
theorem dX1_setTaintedInputs_43 : decode cX1_setTaintedInputs 43 = .ok (.invokestatic 135, 3) := by decide +kernel
theorem dX1_setTaintedInputs_46 : decode cX1_setTaintedInputs 46 = .ok (.lastore, 1) := by decide +kernel
theorem dX1_setTaintedInputs_47 : decode cX1_setTaintedInputs 47 = .ok (.iinc 2 1, 3) := by decide +kernel
theorem dX1_setTaintedInputs_50 : decode cX1_setTaintedInputs 50 = .ok (.iinc 3 1, 3) := by decide +kernel
theorem dX1_setTaintedInputs_53 : decode cX1_setTaintedInputs 53 = .ok (.goto (-49), 3) := by decide +kernel
theorem dX1_setTaintedInputs_56 : decode cX1_setTaintedInputs 56 = .ok (.return_, 1) := by decide +kernel
set_option maxRecDepth 20000 in
theorem ggX1_settingsOf_X1_wordOfBit : GoodIn wsX1_settingsOf wsX1_wordOfBit := goodIn_r _ [5, 6] (by decide +kernel) (by decide +kernel)
set_option maxRecDepth 20000 in
theorem gX1_settingsOf_X1_wordOfBit : GoodIn wsX1_settingsOf (va_wsS RX1 132 yX1_wordOfBit wsX1_wordOfBit) := goodIn_app (goodIn_of _ (by decide +kernel)) ggX1_settingsOf_X1_wordOfBit
theorem dX1_settingsOf_0 : decode cX1_settingsOf 0 = .ok (.iload_n 0, 1) := by decide +kernel
theorem dX1_settingsOf_1 : decode cX1_settingsOf 1 = .ok (.getstatic 139, 3) := by decide +kernel
theorem dX1_settingsOf_4 : decode cX1_settingsOf 4 = .ok (.arraylength, 1) := by decide +kernel
theorem dX1_settingsOf_5 : decode cX1_settingsOf 5 = .ok (.if_icmp .ge 9, 3) := by decide +kernel
theorem dX1_settingsOf_8 : decode cX1_settingsOf 8 = .ok (.getstatic 139, 3) := by decide +kernel
theorem dX1_settingsOf_11 : decode cX1_settingsOf 11 = .ok (.iload_n 0, 1) := by decide +kernel
theorem dX1_settingsOf_12 : decode cX1_settingsOf 12 = .ok (.laload, 1) := by decide +kernel
theorem dX1_settingsOf_13 : decode cX1_settingsOf 13 = .ok (.lreturn, 1) := by decide +kernel
theorem dX1_settingsOf_14 : decode cX1_settingsOf 14 = .ok (.iload_n 1, 1) := by decide +kernel
theorem dX1_settingsOf_15 : decode cX1_settingsOf 15 = .ok (.iload_n 0, 1) := by decide +kernel
theorem dX1_settingsOf_16 : decode cX1_settingsOf 16 = .ok (.getstatic 139, 3) := by decide +kernel
theorem dX1_settingsOf_19 : decode cX1_settingsOf 19 = .ok (.arraylength, 1) := by decide +kernel
theorem dX1_settingsOf_20 : decode cX1_settingsOf 20 = .ok (.isub, 1) := by decide +kernel
theorem dX1_settingsOf_21 : decode cX1_settingsOf 21 = .ok (.ishr, 1) := by decide +kernel
theorem dX1_settingsOf_22 : decode cX1_settingsOf 22 = .ok (.iconst 1, 1) := by decide +kernel
theorem dX1_settingsOf_23 : decode cX1_settingsOf 23 = .ok (.iand, 1) := by decide +kernel
theorem dX1_settingsOf_24 : decode cX1_settingsOf 24 = .ok (.invokestatic 132, 3) := by decide +kernel
theorem dX1_settingsOf_27 : decode cX1_settingsOf 27 = .ok (.lreturn, 1) := by decide +kernel
theorem dX1_wordOfBit_0 : decode cX1_wordOfBit 0 = .ok (.iload_n 0, 1) := by decide +kernel
theorem dX1_wordOfBit_1 : decode cX1_wordOfBit 1 = .ok (.ifCond .ne 7, 3) := by decide +kernel
theorem dX1_wordOfBit_4 : decode cX1_wordOfBit 4 = .ok (.lconst 0, 1) := by decide +kernel
theorem dX1_wordOfBit_5 : decode cX1_wordOfBit 5 = .ok (.goto 6, 3) := by decide +kernel
theorem dX1_wordOfBit_8 : decode cX1_wordOfBit 8 = .ok (.ldc2_w 142, 3) := by decide +kernel
theorem dX1_wordOfBit_11 : decode cX1_wordOfBit 11 = .ok (.lreturn, 1) := by decide +kernel
theorem dX1_bitOf_0 : decode cX1_bitOf 0 = .ok (.lload_n 0, 1) := by decide +kernel
theorem dX1_bitOf_1 : decode cX1_bitOf 1 = .ok (.lconst 1, 1) := by decide +kernel
theorem dX1_bitOf_2 : decode cX1_bitOf 2 = .ok (.land, 1) := by decide +kernel
theorem dX1_bitOf_3 : decode cX1_bitOf 3 = .ok (.lconst 0, 1) := by decide +kernel
theorem dX1_bitOf_4 : decode cX1_bitOf 4 = .ok (.lcmp, 1) := by decide +kernel
theorem dX1_bitOf_5 : decode cX1_bitOf 5 = .ok (.ifCond .ne 7, 3) := by decide +kernel
theorem dX1_bitOf_8 : decode cX1_bitOf 8 = .ok (.iconst 0, 1) := by decide +kernel
theorem dX1_bitOf_9 : decode cX1_bitOf 9 = .ok (.goto 4, 3) := by decide +kernel
theorem dX1_bitOf_12 : decode cX1_bitOf 12 = .ok (.iconst 1, 1) := by decide +kernel
theorem dX1_bitOf_13 : decode cX1_bitOf 13 = .ok (.ireturn, 1) := by decide +kernel
theorem dX1_not_0 : decode cX1_not 0 = .ok (.iload_n 0, 1) := by decide +kernel
theorem dX1_not_1 : decode cX1_not 1 = .ok (.iconst (-1), 1) := by decide +kernel
theorem dX1_not_2 : decode cX1_not 2 = .ok (.if_icmp .ne 7, 3) := by decide +kernel
theorem dX1_not_5 : decode cX1_not 5 = .ok (.iconst (-1), 1) := by decide +kernel
theorem dX1_not_6 : decode cX1_not 6 = .ok (.goto 6, 3) := by decide +kernel
theorem dX1_not_9 : decode cX1_not 9 = .ok (.iload_n 0, 1) := by decide +kernel
theorem dX1_not_10 : decode cX1_not 10 = .ok (.iconst 1, 1) := by decide +kernel
theorem dX1_not_11 : decode cX1_not 11 = .ok (.ixor, 1) := by decide +kernel
theorem dX1_not_12 : decode cX1_not 12 = .ok (.ireturn, 1) := by decide +kernel
set_option maxRecDepth 20000 in
theorem ggX2_init_X2_begin : GoodIn wsX2_init wsX2_begin := goodIn_r _ [12, 13, 14, 15, 16, 17, 11, 18, 5, 6, 19, 20, 21, 4, 22, 23, 24, 25, 26, 27, 28, 29, 30] (by decide +kernel) (by decide +kernel)
set_option maxRecDepth 20000 in
theorem gX2_init_X2_begin : GoodIn wsX2_init (wsV RX2 22 RX2 yX2_begin wsX2_begin) := goodIn_app (goodIn_of _ (by decide +kernel)) ggX2_init_X2_begin
end
section
theorem dX2_init_0 : decode cX2_init 0 = .ok (.aload_n 0, 1) := by decide +kernel
theorem dX2_init_1 : decode cX2_init 1 = .ok (.invokespecial 3, 3) := by decide +kernel
theorem dX2_init_4 : decode cX2_init 4 = .ok (.aload_n 0, 1) := by decide +kernel
theorem dX2_init_5 : decode cX2_init 5 = .ok (.bipush 16, 2) := by decide +kernel
theorem dX2_init_7 : decode cX2_init 7 = .ok (.newarray .int, 2) := by decide +kernel
theorem dX2_init_9 : decode cX2_init 9 = .ok (.putfield 9, 3) := by decide +kernel
theorem dX2_init_12 : decode cX2_init 12 = .ok (.aload_n 0, 1) := by decide +kernel
theorem dX2_init_13 : decode cX2_init 13 = .ok (.bipush 16, 2) := by decide +kernel
theorem dX2_init_15 : decode cX2_init 15 = .ok (.newarray .int, 2) := by decide +kernel
theorem dX2_init_17 : decode cX2_init 17 = .ok (.putfield 15, 3) := by decide +kernel
theorem dX2_init_20 : decode cX2_init 20 = .ok (.aload_n 0, 1) := by decide +kernel
theorem dX2_init_21 : decode cX2_init 21 = .ok (.iload_n 1, 1) := by decide +kernel
theorem dX2_init_22 : decode cX2_init 22 = .ok (.putfield 18, 3) := by decide +kernel
theorem dX2_init_25 : decode cX2_init 25 = .ok (.aload_n 0, 1) := by decide +kernel
theorem dX2_init_26 : decode cX2_init 26 = .ok (.invokevirtual 22, 3) := by decide +kernel
theorem dX2_init_29 : decode cX2_init 29 = .ok (.return_, 1) := by decide +kernel
set_option maxRecDepth 20000 in
theorem ggX2_begin_X2_add : GoodIn wsX2_begin wsX2_add := goodIn_r _ [7, 1, 8, 9, 10, 11, 6, 12, 13, 14, 15, 16, 17, 18, 19, 20, 21, 22] (by decide +kernel) (by decide +kernel)
set_option maxRecDepth 20000 in
theorem gX2_begin_X2_add : GoodIn wsX2_begin (wsV RX2 31 RX2 yX2_add wsX2_add) := goodIn_app (goodIn_of _ (by decide +kernel)) ggX2_begin_X2_add
theorem dX2_begin_0 : decode cX2_begin 0 = .ok (.aload_n 0, 1) := by decide +kernel
theorem dX2_begin_1 : decode cX2_begin 1 = .ok (.iconst 0, 1) := by decide +kernel
theorem dX2_begin_2 : decode cX2_begin 2 = .ok (.putfield 25, 3) := by decide +kernel
theorem dX2_begin_5 : decode cX2_begin 5 = .ok (.aload_n 0, 1) := by decide +kernel
theorem dX2_begin_6 : decode cX2_begin 6 = .ok (.iconst 0, 1) := by decide +kernel
theorem dX2_begin_7 : decode cX2_begin 7 = .ok (.putfield 28, 3) := by decide +kernel
theorem dX2_begin_10 : decode cX2_begin 10 = .ok (.aload_n 0, 1) := by decide +kernel
theorem dX2_begin_11 : decode cX2_begin 11 = .ok (.iconst (-1), 1) := by decide +kernel
theorem dX2_begin_12 : decode cX2_begin 12 = .ok (.iconst (-1), 1) := by decide +kernel
theorem dX2_begin_13 : decode cX2_begin 13 = .ok (.invokevirtual 31, 3) := by decide +kernel
theorem dX2_begin_16 : decode cX2_begin 16 = .ok (.pop, 1) := by decide +kernel
theorem dX2_begin_17 : decode cX2_begin 17 = .ok (.return_, 1) := by decide +kernel
theorem dX2_more_0 : decode cX2_more 0 = .ok (.iconst 2, 1) := by decide +kernel
theorem dX2_more_1 : decode cX2_more 1 = .ok (.aload_n 0, 1) := by decide +kernel
theorem dX2_more_2 : decode cX2_more 2 = .ok (.arraylength, 1) := by decide +kernel
theorem dX2_more_3 : decode cX2_more 3 = .ok (.imul, 1) := by decide +kernel
theorem dX2_more_4 : decode cX2_more 4 = .ok (.newarray .int, 2) := by decide +kernel
theorem dX2_more_6 : decode cX2_more 6 = .ok (.astore_n 1, 1) := by decide +kernel
theorem dX2_more_7 : decode cX2_more 7 = .ok (.aload_n 0, 1) := by decide +kernel
theorem dX2_more_8 : decode cX2_more 8 = .ok (.iconst 0, 1) := by decide +kernel
theorem dX2_more_9 : decode cX2_more 9 = .ok (.aload_n 1, 1) := by decide +kernel
theorem dX2_more_10 : decode cX2_more 10 = .ok (.iconst 0, 1) := by decide +kernel
theorem dX2_more_11 : decode cX2_more 11 = .ok (.aload_n 0, 1) := by decide +kernel
theorem dX2_more_12 : decode cX2_more 12 = .ok (.arraylength, 1) := by decide +kernel
theorem dX2_more_13 : decode cX2_more 13 = .ok (.invokestatic 35, 3) := by decide +kernel
theorem dX2_more_16 : decode cX2_more 16 = .ok (.aload_n 1, 1) := by decide +kernel
theorem dX2_more_17 : decode cX2_more 17 = .ok (.areturn, 1) := by decide +kernel
set_option maxRecDepth 20000 in
theorem ggX2_add_X2_more : GoodIn wsX2_add wsX2_more := goodIn_r _ [7, 8, 9, 10, 11, 12] (by decide +kernel) (by decide +kernel)
set_option maxRecDepth 20000 in
theorem gX2_add_X2_more : GoodIn wsX2_add (va_wsS RX2 41 yX2_more wsX2_more) := goodIn_app (goodIn_of _ (by decide +kernel)) ggX2_add_X2_more
theorem dX2_add_0 : decode cX2_add 0 = .ok (.aload_n 0, 1) := by decide +kernel
theorem dX2_add_1 : decode cX2_add 1 = .ok (.getfield 25, 3) := by decide +kernel
theorem dX2_add_4 : decode cX2_add 4 = .ok (.aload_n 0, 1) := by decide +kernel
theorem dX2_add_5 : decode cX2_add 5 = .ok (.getfield 9, 3) := by decide +kernel
theorem dX2_add_8 : decode cX2_add 8 = .ok (.arraylength, 1) := by decide +kernel
theorem dX2_add_9 : decode cX2_add 9 = .ok (.if_icmp .ne 25, 3) := by decide +kernel
theorem dX2_add_12 : decode cX2_add 12 = .ok (.aload_n 0, 1) := by decide +kernel
theorem dX2_add_13 : decode cX2_add 13 = .ok (.aload_n 0, 1) := by decide +kernel
theorem dX2_add_14 : decode cX2_add 14 = .ok (.getfield 9, 3) := by decide +kernel
theorem dX2_add_17 : decode cX2_add 17 = .ok (.invokestatic 41, 3) := by decide +kernel
theorem dX2_add_20 : decode cX2_add 20 = .ok (.putfield 9, 3) := by decide +kernel
theorem dX2_add_23 : decode cX2_add 23 = .ok (.aload_n 0, 1) := by decide +kernel
theorem dX2_add_24 : decode cX2_add 24 = .ok (.aload_n 0, 1) := by decide +kernel
theorem dX2_add_25 : decode cX2_add 25 = .ok (.getfield 15, 3) := by decide +kernel
theorem dX2_add_28 : decode cX2_add 28 = .ok (.invokestatic 41, 3) := by decide +kernel
theorem dX2_add_31 : decode cX2_add 31 = .ok (.putfield 15, 3) := by decide +kernel
theorem dX2_add_34 : decode cX2_add 34 = .ok (.aload_n 0, 1) := by decide +kernel
theorem dX2_add_35 : decode cX2_add 35 = .ok (.getfield 9, 3) := by decide +kernel
theorem dX2_add_38 : decode cX2_add 38 = .ok (.aload_n 0, 1) := by decide +kernel
theorem dX2_add_39 : decode cX2_add 39 = .ok (.getfield 25, 3) := by decide +kernel
theorem dX2_add_42 : decode cX2_add 42 = .ok (.iload_n 1, 1) := by decide +kernel
theorem dX2_add_43 : decode cX2_add 43 = .ok (.iastore, 1) := by decide +kernel
theorem dX2_add_44 : decode cX2_add 44 = .ok (.aload_n 0, 1) := by decide +kernel
theorem dX2_add_45 : decode cX2_add 45 = .ok (.getfield 15, 3) := by decide +kernel
theorem dX2_add_48 : decode cX2_add 48 = .ok (.aload_n 0, 1) := by decide +kernel
theorem dX2_add_49 : decode cX2_add 49 = .ok (.getfield 25, 3) := by decide +kernel
theorem dX2_add_52 : decode cX2_add 52 = .ok (.iload_n 2, 1) := by decide +kernel
theorem dX2_add_53 : decode cX2_add 53 = .ok (.iastore, 1) := by decide +kernel
theorem dX2_add_54 : decode cX2_add 54 = .ok (.aload_n 0, 1) := by decide +kernel
theorem dX2_add_55 : decode cX2_add 55 = .ok (.dup, 1) := by decide +kernel
theorem dX2_add_56 : decode cX2_add 56 = .ok (.getfield 25, 3) := by decide +kernel
theorem dX2_add_59 : decode cX2_add 59 = .ok (.iconst 1, 1) := by decide +kernel
theorem dX2_add_60 : decode cX2_add 60 = .ok (.iadd, 1) := by decide +kernel
theorem dX2_add_61 : decode cX2_add 61 = .ok (.putfield 25, 3) := by decide +kernel
theorem dX2_add_64 : decode cX2_add 64 = .ok (.aload_n 0, 1) := by decide +kernel
theorem dX2_add_65 : decode cX2_add 65 = .ok (.getfield 25, 3) := by decide +kernel
theorem dX2_add_68 : decode cX2_add 68 = .ok (.iconst 1, 1) := by decide +kernel
theorem dX2_add_69 : decode cX2_add 69 = .ok (.isub, 1) := by decide +kernel
theorem dX2_add_70 : decode cX2_add 70 = .ok (.ireturn, 1) := by decide +kernel
theorem dX2_has_0 : decode cX2_has 0 = .ok (.iload_n 1, 1) := by decide +kernel
theorem dX2_has_1 : decode cX2_has 1 = .ok (.ifCond .lt 17, 3) := by decide +kernel
theorem dX2_has_4 : decode cX2_has 4 = .ok (.iload_n 1, 1) := by decide +kernel
theorem dX2_has_5 : decode cX2_has 5 = .ok (.iconst 2, 1) := by decide +kernel
theorem dX2_has_6 : decode cX2_has 6 = .ok (.aload_n 0, 1) := by decide +kernel
theorem dX2_has_7 : decode cX2_has 7 = .ok (.getfield 25, 3) := by decide +kernel
theorem dX2_has_10 : decode cX2_has 10 = .ok (.imul, 1) := by decide +kernel
theorem dX2_has_11 : decode cX2_has 11 = .ok (.if_icmp .ge 7, 3) := by decide +kernel
theorem dX2_has_14 : decode cX2_has 14 = .ok (.iconst 1, 1) := by decide +kernel
theorem dX2_has_15 : decode cX2_has 15 = .ok (.goto 4, 3) := by decide +kernel
theorem dX2_has_18 : decode cX2_has 18 = .ok (.iconst 0, 1) := by decide +kernel
theorem dX2_has_19 : decode cX2_has 19 = .ok (.ireturn, 1) := by decide +kernel
set_option maxRecDepth 20000 in
theorem ggX2_and_X2_add : GoodIn wsX2_and wsX2_add := goodIn_r _ [10, 1, 2, 3, 11, 12, 9, 13, 14, 15, 16, 17, 18, 19, 20, 21, 22, 23] (by decide +kernel) (by decide +kernel)
set_option maxRecDepth 20000 in
theorem gX2_and_X2_add : GoodIn wsX2_and (wsV RX2 31 RX2 yX2_add wsX2_add) := goodIn_app (goodIn_of _ (by decide +kernel)) ggX2_and_X2_add
theorem dX2_and_0 : decode cX2_and 0 = .ok (.iload_n 1, 1) := by decide +kernel
theorem dX2_and_1 : decode cX2_and 1 = .ok (.ifCond .lt 7, 3) := by decide +kernel
theorem dX2_and_4 : decode cX2_and 4 = .ok (.iload_n 2, 1) := by decide +kernel
theorem dX2_and_5 : decode cX2_and 5 = .ok (.ifCond .ge 5, 3) := by decide +kernel
theorem dX2_and_8 : decode cX2_and 8 = .ok (.iconst (-1), 1) := by decide +kernel
theorem dX2_and_9 : decode cX2_and 9 = .ok (.ireturn, 1) := by decide +kernel
theorem dX2_and_10 : decode cX2_and 10 = .ok (.iload_n 1, 1) := by decide +kernel
theorem dX2_and_11 : decode cX2_and 11 = .ok (.ifCond .eq 21, 3) := by decide +kernel
theorem dX2_and_14 : decode cX2_and 14 = .ok (.iload_n 2, 1) := by decide +kernel
theorem dX2_and_15 : decode cX2_and 15 = .ok (.ifCond .eq 17, 3) := by decide +kernel
theorem dX2_and_18 : decode cX2_and 18 = .ok (.iload_n 1, 1) := by decide +kernel
theorem dX2_and_19 : decode cX2_and 19 = .ok (.iconst 2, 1) := by decide +kernel
theorem dX2_and_20 : decode cX2_and 20 = .ok (.idiv, 1) := by decide +kernel
theorem dX2_and_21 : decode cX2_and 21 = .ok (.iload_n 2, 1) := by decide +kernel
theorem dX2_and_22 : decode cX2_and 22 = .ok (.iconst 2, 1) := by decide +kernel
theorem dX2_and_23 : decode cX2_and 23 = .ok (.idiv, 1) := by decide +kernel
theorem dX2_and_24 : decode cX2_and 24 = .ok (.if_icmp .ne 10, 3) := by decide +kernel
theorem dX2_and_27 : decode cX2_and 27 = .ok (.iload_n 1, 1) := by decide +kernel
theorem dX2_and_28 : decode cX2_and 28 = .ok (.iload_n 2, 1) := by decide +kernel
theorem dX2_and_29 : decode cX2_and 29 = .ok (.if_icmp .eq 5, 3) := by decide +kernel
theorem dX2_and_32 : decode cX2_and 32 = .ok (.iconst 0, 1) := by decide +kernel
theorem dX2_and_33 : decode cX2_and 33 = .ok (.ireturn, 1) := by decide +kernel
theorem dX2_and_34 : decode cX2_and 34 = .ok (.iload_n 2, 1) := by decide +kernel
theorem dX2_and_35 : decode cX2_and 35 = .ok (.iconst 1, 1) := by decide +kernel
theorem dX2_and_36 : decode cX2_and 36 = .ok (.if_icmp .eq 8, 3) := by decide +kernel
theorem dX2_and_39 : decode cX2_and 39 = .ok (.iload_n 1, 1) := by decide +kernel
theorem dX2_and_40 : decode cX2_and 40 = .ok (.iload_n 2, 1) := by decide +kernel
theorem dX2_and_41 : decode cX2_and 41 = .ok (.if_icmp .ne 5, 3) := by decide +kernel
theorem dX2_and_44 : decode cX2_and 44 = .ok (.iload_n 1, 1) := by decide +kernel
theorem dX2_and_45 : decode cX2_and 45 = .ok (.ireturn, 1) := by decide +kernel
theorem dX2_and_46 : decode cX2_and 46 = .ok (.iload_n 1, 1) := by decide +kernel
theorem dX2_and_47 : decode cX2_and 47 = .ok (.iconst 1, 1) := by decide +kernel
theorem dX2_and_48 : decode cX2_and 48 = .ok (.if_icmp .ne 5, 3) := by decide +kernel
theorem dX2_and_51 : decode cX2_and 51 = .ok (.iload_n 2, 1) := by decide +kernel
theorem dX2_and_52 : decode cX2_and 52 = .ok (.ireturn, 1) := by decide +kernel
theorem dX2_and_53 : decode cX2_and 53 = .ok (.iload_n 1, 1) := by decide +kernel
theorem dX2_and_54 : decode cX2_and 54 = .ok (.iload_n 2, 1) := by decide +kernel
theorem dX2_and_55 : decode cX2_and 55 = .ok (.if_icmp .ge 7, 3) := by decide +kernel
theorem dX2_and_58 : decode cX2_and 58 = .ok (.iload_n 1, 1) := by decide +kernel
theorem dX2_and_59 : decode cX2_and 59 = .ok (.goto 4, 3) := by decide +kernel
theorem dX2_and_62 : decode cX2_and 62 = .ok (.iload_n 2, 1) := by decide +kernel
theorem dX2_and_63 : decode cX2_and 63 = .ok (.istore_n 3, 1) := by decide +kernel
theorem dX2_and_64 : decode cX2_and 64 = .ok (.iload_n 1, 1) := by decide +kernel
theorem dX2_and_65 : decode cX2_and 65 = .ok (.iload_n 2, 1) := by decide +kernel
theorem dX2_and_66 : decode cX2_and 66 = .ok (.if_icmp .ge 7, 3) := by decide +kernel
theorem dX2_and_69 : decode cX2_and 69 = .ok (.iload_n 2, 1) := by decide +kernel
theorem dX2_and_70 : decode cX2_and 70 = .ok (.goto 4, 3) := by decide +kernel
theorem dX2_and_73 : decode cX2_and 73 = .ok (.iload_n 1, 1) := by decide +kernel
theorem dX2_and_74 : decode cX2_and 74 = .ok (.istore 4, 2) := by decide +kernel
theorem dX2_and_76 : decode cX2_and 76 = .ok (.iconst 1, 1) := by decide +kernel
theorem dX2_and_77 : decode cX2_and 77 = .ok (.istore 5, 2) := by decide +kernel
theorem dX2_and_79 : decode cX2_and 79 = .ok (.iload 5, 2) := by decide +kernel
theorem dX2_and_81 : decode cX2_and 81 = .ok (.aload_n 0, 1) := by decide +kernel
theorem dX2_and_82 : decode cX2_and 82 = .ok (.getfield 25, 3) := by decide +kernel
theorem dX2_and_85 : decode cX2_and 85 = .ok (.if_icmp .ge 37, 3) := by decide +kernel
theorem dX2_and_88 : decode cX2_and 88 = .ok (.aload_n 0, 1) := by decide +kernel
theorem dX2_and_89 : decode cX2_and 89 = .ok (.getfield 9, 3) := by decide +kernel
theorem dX2_and_92 : decode cX2_and 92 = .ok (.iload 5, 2) := by decide +kernel
theorem dX2_and_94 : decode cX2_and 94 = .ok (.iaload, 1) := by decide +kernel
theorem dX2_and_95 : decode cX2_and 95 = .ok (.iload_n 3, 1) := by decide +kernel
theorem dX2_and_96 : decode cX2_and 96 = .ok (.if_icmp .ne 20, 3) := by decide +kernel
theorem dX2_and_99 : decode cX2_and 99 = .ok (.aload_n 0, 1) := by decide +kernel
theorem dX2_and_100 : decode cX2_and 100 = .ok (.getfield 15, 3) := by decide +kernel
theorem dX2_and_103 : decode cX2_and 103 = .ok (.iload 5, 2) := by decide +kernel
theorem dX2_and_105 : decode cX2_and 105 = .ok (.iaload, 1) := by decide +kernel
theorem dX2_and_106 : decode cX2_and 106 = .ok (.iload 4, 2) := by decide +kernel
theorem dX2_and_108 : decode cX2_and 108 = .ok (.if_icmp .ne 8, 3) := by decide +kernel
theorem dX2_and_111 : decode cX2_and 111 = .ok (.iconst 2, 1) := by decide +kernel
theorem dX2_and_112 : decode cX2_and 112 = .ok (.iload 5, 2) := by decide +kernel
theorem dX2_and_114 : decode cX2_and 114 = .ok (.imul, 1) := by decide +kernel
theorem dX2_and_115 : decode cX2_and 115 = .ok (.ireturn, 1) := by decide +kernel
theorem dX2_and_116 : decode cX2_and 116 = .ok (.iinc 5 1, 3) := by decide +kernel
theorem dX2_and_119 : decode cX2_and 119 = .ok (.goto (-40), 3) := by decide +kernel
theorem dX2_and_122 : decode cX2_and 122 = .ok (.aload_n 0, 1) := by decide +kernel
theorem dX2_and_123 : decode cX2_and 123 = .ok (.getfield 28, 3) := by decide +kernel
theorem dX2_and_126 : decode cX2_and 126 = .ok (.aload_n 0, 1) := by decide +kernel
theorem dX2_and_127 : decode cX2_and 127 = .ok (.getfield 18, 3) := by decide +kernel
theorem dX2_and_130 : decode cX2_and 130 = .ok (.if_icmp .ne 5, 3) := by decide +kernel
theorem dX2_and_133 : decode cX2_and 133 = .ok (.iconst (-1), 1) := by decide +kernel
theorem dX2_and_134 : decode cX2_and 134 = .ok (.ireturn, 1) := by decide +kernel
theorem dX2_and_135 : decode cX2_and 135 = .ok (.aload_n 0, 1) := by decide +kernel
theorem dX2_and_136 : decode cX2_and 136 = .ok (.dup, 1) := by decide +kernel
theorem dX2_and_137 : decode cX2_and 137 = .ok (.getfield 28, 3) := by decide +kernel
theorem dX2_and_140 : decode cX2_and 140 = .ok (.iconst 1, 1) := by decide +kernel
theorem dX2_and_141 : decode cX2_and 141 = .ok (.iadd, 1) := by decide +kernel
theorem dX2_and_142 : decode cX2_and 142 = .ok (.putfield 28, 3) := by decide +kernel
theorem dX2_and_145 : decode cX2_and 145 = .ok (.iconst 2, 1) := by decide +kernel
theorem dX2_and_146 : decode cX2_and 146 = .ok (.aload_n 0, 1) := by decide +kernel
theorem dX2_and_147 : decode cX2_and 147 = .ok (.iload_n 3, 1) := by decide +kernel
theorem dX2_and_148 : decode cX2_and 148 = .ok (.iload 4, 2) := by decide +kernel
theorem dX2_and_150 : decode cX2_and 150 = .ok (.invokevirtual 31, 3) := by decide +kernel
theorem dX2_and_153 : decode cX2_and 153 = .ok (.imul, 1) := by decide +kernel
theorem dX2_and_154 : decode cX2_and 154 = .ok (.ireturn, 1) := by decide +kernel
theorem dX2_not_0 : decode cX2_not 0 = .ok (.iload_n 0, 1) := by decide +kernel
theorem dX2_not_1 : decode cX2_not 1 = .ok (.ifCond .ge 7, 3) := by decide +kernel
theorem dX2_not_4 : decode cX2_not 4 = .ok (.iconst (-1), 1) := by decide +kernel
theorem dX2_not_5 : decode cX2_not 5 = .ok (.goto 18, 3) := by decide +kernel
theorem dX2_not_8 : decode cX2_not 8 = .ok (.iload_n 0, 1) := by decide +kernel
theorem dX2_not_9 : decode cX2_not 9 = .ok (.iconst 2, 1) := by decide +kernel
theorem dX2_not_10 : decode cX2_not 10 = .ok (.irem, 1) := by decide +kernel
theorem dX2_not_11 : decode cX2_not 11 = .ok (.ifCond .ne 9, 3) := by decide +kernel
theorem dX2_not_14 : decode cX2_not 14 = .ok (.iload_n 0, 1) := by decide +kernel
theorem dX2_not_15 : decode cX2_not 15 = .ok (.iconst 1, 1) := by decide +kernel
theorem dX2_not_16 : decode cX2_not 16 = .ok (.iadd, 1) := by decide +kernel
theorem dX2_not_17 : decode cX2_not 17 = .ok (.goto 6, 3) := by decide +kernel
theorem dX2_not_20 : decode cX2_not 20 = .ok (.iload_n 0, 1) := by decide +kernel
theorem dX2_not_21 : decode cX2_not 21 = .ok (.iconst 1, 1) := by decide +kernel
theorem dX2_not_22 : decode cX2_not 22 = .ok (.isub, 1) := by decide +kernel
theorem dX2_not_23 : decode cX2_not 23 = .ok (.ireturn, 1) := by decide +kernel
set_option maxRecDepth 20000 in
theorem ggX2_or_X2_not : GoodIn wsX2_or wsX2_not := goodIn_r _ [4] (by decide +kernel) (by decide +kernel)
set_option maxRecDepth 20000 in
theorem gX2_or_X2_not : GoodIn wsX2_or (va_wsS RX2 45 yX2_not wsX2_not) := goodIn_app (goodIn_of _ (by decide +kernel)) ggX2_or_X2_not
set_option maxRecDepth 20000 in
theorem ggX2_or_X2_and : GoodIn wsX2_or wsX2_and := goodIn_r _ [8, 9, 10, 11, 12, 13, 14, 15, 16, 3, 17, 18, 19, 20, 21, 22, 23, 24, 25, 26, 27, 28, 29, 30] (by decide +kernel) (by decide +kernel)
set_option maxRecDepth 20000 in
theorem gX2_or_X2_and : GoodIn wsX2_or (wsV RX2 49 RX2 yX2_and wsX2_and) := goodIn_app (goodIn_of _ (by decide +kernel)) ggX2_or_X2_and
theorem dX2_or_0 : decode cX2_or 0 = .ok (.aload_n 0, 1) := by decide +kernel
theorem dX2_or_1 : decode cX2_or 1 = .ok (.iload_n 1, 1) := by decide +kernel
theorem dX2_or_2 : decode cX2_or 2 = .ok (.invokestatic 45, 3) := by decide +kernel
theorem dX2_or_5 : decode cX2_or 5 = .ok (.iload_n 2, 1) := by decide +kernel
theorem dX2_or_6 : decode cX2_or 6 = .ok (.invokestatic 45, 3) := by decide +kernel
theorem dX2_or_9 : decode cX2_or 9 = .ok (.invokevirtual 49, 3) := by decide +kernel
theorem dX2_or_12 : decode cX2_or 12 = .ok (.invokestatic 45, 3) := by decide +kernel
theorem dX2_or_15 : decode cX2_or 15 = .ok (.ireturn, 1) := by decide +kernel
set_option maxRecDepth 20000 in
theorem ggX2_xor_X2_not : GoodIn wsX2_xor wsX2_not := goodIn_r _ [4] (by decide +kernel) (by decide +kernel)
set_option maxRecDepth 20000 in
theorem gX2_xor_X2_not : GoodIn wsX2_xor (va_wsS RX2 45 yX2_not wsX2_not) := goodIn_app (goodIn_of _ (by decide +kernel)) ggX2_xor_X2_not
set_option maxRecDepth 20000 in
theorem ggX2_xor_X2_and : GoodIn wsX2_xor wsX2_and := goodIn_r _ [8, 9, 10, 11, 12, 13, 14, 15, 16, 3, 17, 18, 19, 20, 21, 22, 23, 24, 25, 30, 31, 32, 33, 34] (by decide +kernel) (by decide +kernel)
set_option maxRecDepth 20000 in
theorem gX2_xor_X2_and : GoodIn wsX2_xor (wsV RX2 49 RX2 yX2_and wsX2_and) := goodIn_app (goodIn_of _ (by decide +kernel)) ggX2_xor_X2_and
set_option maxRecDepth 20000 in
theorem ggX2_xor_X2_or : GoodIn wsX2_xor wsX2_or := goodIn_r _ [29, 1, 2, 3, 4, 5, 6, 7, 8, 9, 10, 11, 12, 13, 14, 15, 16, 17, 18, 19, 20, 21, 22, 23, 24, 25, 30, 31, 32, 33, 34] (by decide +kernel) (by decide +kernel)
set_option maxRecDepth 20000 in
theorem gX2_xor_X2_or : GoodIn wsX2_xor (wsV RX2 52 RX2 yX2_or wsX2_or) := goodIn_app (goodIn_of _ (by decide +kernel)) ggX2_xor_X2_or
theorem dX2_xor_0 : decode cX2_xor 0 = .ok (.aload_n 0, 1) := by decide +kernel
theorem dX2_xor_1 : decode cX2_xor 1 = .ok (.iload_n 1, 1) := by decide +kernel
theorem dX2_xor_2 : decode cX2_xor 2 = .ok (.iload_n 2, 1) := by decide +kernel
theorem dX2_xor_3 : decode cX2_xor 3 = .ok (.invokestatic 45, 3) := by decide +kernel
theorem dX2_xor_6 : decode cX2_xor 6 = .ok (.invokevirtual 49, 3) := by decide +kernel
theorem dX2_xor_9 : decode cX2_xor 9 = .ok (.istore_n 3, 1) := by decide +kernel
theorem dX2_xor_10 : decode cX2_xor 10 = .ok (.iload_n 3, 1) := by decide +kernel
theorem dX2_xor_11 : decode cX2_xor 11 = .ok (.ifCond .ge 5, 3) := by decide +kernel
theorem dX2_xor_14 : decode cX2_xor 14 = .ok (.iconst (-1), 1) := by decide +kernel
theorem dX2_xor_15 : decode cX2_xor 15 = .ok (.ireturn, 1) := by decide +kernel
theorem dX2_xor_16 : decode cX2_xor 16 = .ok (.aload_n 0, 1) := by decide +kernel
theorem dX2_xor_17 : decode cX2_xor 17 = .ok (.iload_n 1, 1) := by decide +kernel
theorem dX2_xor_18 : decode cX2_xor 18 = .ok (.invokestatic 45, 3) := by decide +kernel
theorem dX2_xor_21 : decode cX2_xor 21 = .ok (.iload_n 2, 1) := by decide +kernel
theorem dX2_xor_22 : decode cX2_xor 22 = .ok (.invokevirtual 49, 3) := by decide +kernel
theorem dX2_xor_25 : decode cX2_xor 25 = .ok (.istore 4, 2) := by decide +kernel
theorem dX2_xor_27 : decode cX2_xor 27 = .ok (.aload_n 0, 1) := by decide +kernel
theorem dX2_xor_28 : decode cX2_xor 28 = .ok (.iload_n 3, 1) := by decide +kernel
theorem dX2_xor_29 : decode cX2_xor 29 = .ok (.iload 4, 2) := by decide +kernel
theorem dX2_xor_31 : decode cX2_xor 31 = .ok (.invokevirtual 52, 3) := by decide +kernel
theorem dX2_xor_34 : decode cX2_xor 34 = .ok (.ireturn, 1) := by decide +kernel
set_option maxRecDepth 20000 in
theorem ggX2_choose_X2_and : GoodIn wsX2_choose wsX2_and := goodIn_r _ [5, 6, 7, 8, 9, 10, 11, 12, 13, 4, 14, 15, 16, 17, 18, 19, 20, 21, 22, 30, 31, 32, 33, 34] (by decide +kernel) (by decide +kernel)
set_option maxRecDepth 20000 in
theorem gX2_choose_X2_and : GoodIn wsX2_choose (wsV RX2 49 RX2 yX2_and wsX2_and) := goodIn_app (goodIn_of _ (by decide +kernel)) ggX2_choose_X2_and
set_option maxRecDepth 20000 in
theorem ggX2_choose_X2_not : GoodIn wsX2_choose wsX2_not := goodIn_r _ [25] (by decide +kernel) (by decide +kernel)
set_option maxRecDepth 20000 in
theorem gX2_choose_X2_not : GoodIn wsX2_choose (va_wsS RX2 45 yX2_not wsX2_not) := goodIn_app (goodIn_of _ (by decide +kernel)) ggX2_choose_X2_not
set_option maxRecDepth 20000 in
theorem ggX2_choose_X2_or : GoodIn wsX2_choose wsX2_or := goodIn_r _ [29, 23, 24, 4, 25, 1, 2, 3, 5, 6, 7, 8, 9, 10, 11, 12, 13, 14, 15, 16, 17, 18, 19, 20, 21, 22, 30, 31, 32, 33, 34] (by decide +kernel) (by decide +kernel)
set_option maxRecDepth 20000 in
theorem gX2_choose_X2_or : GoodIn wsX2_choose (wsV RX2 52 RX2 yX2_or wsX2_or) := goodIn_app (goodIn_of _ (by decide +kernel)) ggX2_choose_X2_or
theorem dX2_choose_0 : decode cX2_choose 0 = .ok (.aload_n 0, 1) := by decide +kernel
theorem dX2_choose_1 : decode cX2_choose 1 = .ok (.iload_n 1, 1) := by decide +kernel
theorem dX2_choose_2 : decode cX2_choose 2 = .ok (.iload_n 2, 1) := by decide +kernel
theorem dX2_choose_3 : decode cX2_choose 3 = .ok (.invokevirtual 49, 3) := by decide +kernel
theorem dX2_choose_6 : decode cX2_choose 6 = .ok (.istore 4, 2) := by decide +kernel
theorem dX2_choose_8 : decode cX2_choose 8 = .ok (.iload 4, 2) := by decide +kernel
theorem dX2_choose_10 : decode cX2_choose 10 = .ok (.ifCond .ge 5, 3) := by decide +kernel
theorem dX2_choose_13 : decode cX2_choose 13 = .ok (.iconst (-1), 1) := by decide +kernel
theorem dX2_choose_14 : decode cX2_choose 14 = .ok (.ireturn, 1) := by decide +kernel
theorem dX2_choose_15 : decode cX2_choose 15 = .ok (.aload_n 0, 1) := by decide +kernel
theorem dX2_choose_16 : decode cX2_choose 16 = .ok (.iload_n 1, 1) := by decide +kernel
theorem dX2_choose_17 : decode cX2_choose 17 = .ok (.invokestatic 45, 3) := by decide +kernel
theorem dX2_choose_20 : decode cX2_choose 20 = .ok (.iload_n 3, 1) := by decide +kernel
theorem dX2_choose_21 : decode cX2_choose 21 = .ok (.invokevirtual 49, 3) := by decide +kernel
theorem dX2_choose_24 : decode cX2_choose 24 = .ok (.istore 5, 2) := by decide +kernel
theorem dX2_choose_26 : decode cX2_choose 26 = .ok (.aload_n 0, 1) := by decide +kernel
theorem dX2_choose_27 : decode cX2_choose 27 = .ok (.iload 4, 2) := by decide +kernel
theorem dX2_choose_29 : decode cX2_choose 29 = .ok (.iload 5, 2) := by decide +kernel
theorem dX2_choose_31 : decode cX2_choose 31 = .ok (.invokevirtual 52, 3) := by decide +kernel
theorem dX2_choose_34 : decode cX2_choose 34 = .ok (.ireturn, 1) := by decide +kernel
set_option maxRecDepth 20000 in
theorem ggX3_init_X2_init : GoodIn wsX3_init wsX2_init := goodIn_r _ [19, 20, 2, 3, 9, 21, 22, 23, 24, 25, 26, 6, 27, 28, 29, 30, 31, 32, 33, 34, 35, 36, 37, 38, 39, 40, 41, 42, 43, 44, 45] (by decide +kernel) (by decide +kernel)
set_option maxRecDepth 20000 in
theorem gX3_init_X2_init : GoodIn wsX3_init (wsX2_init) := ggX3_init_X2_init
theorem dX3_init_0 : decode cX3_init 0 = .ok (.aload_n 0, 1) := by decide +kernel
theorem dX3_init_1 : decode cX3_init 1 = .ok (.invokespecial 1, 3) := by decide +kernel
theorem dX3_init_4 : decode cX3_init 4 = .ok (.aload_n 0, 1) := by decide +kernel
theorem dX3_init_5 : decode cX3_init 5 = .ok (.new 7, 3) := by decide +kernel
theorem dX3_init_8 : decode cX3_init 8 = .ok (.dup, 1) := by decide +kernel
theorem dX3_init_9 : decode cX3_init 9 = .ok (.sipush 400, 3) := by decide +kernel
theorem dX3_init_12 : decode cX3_init 12 = .ok (.invokespecial 11, 3) := by decide +kernel
theorem dX3_init_15 : decode cX3_init 15 = .ok (.putfield 14, 3) := by decide +kernel
theorem dX3_init_18 : decode cX3_init 18 = .ok (.aload_n 0, 1) := by decide +kernel
theorem dX3_init_19 : decode cX3_init 19 = .ok (.new 7, 3) := by decide +kernel
theorem dX3_init_22 : decode cX3_init 22 = .ok (.dup, 1) := by decide +kernel
theorem dX3_init_23 : decode cX3_init 23 = .ok (.sipush 1500, 3) := by decide +kernel
theorem dX3_init_26 : decode cX3_init 26 = .ok (.invokespecial 11, 3) := by decide +kernel
theorem dX3_init_29 : decode cX3_init 29 = .ok (.putfield 18, 3) := by decide +kernel
theorem dX3_init_32 : decode cX3_init 32 = .ok (.aload_n 0, 1) := by decide +kernel
theorem dX3_init_33 : decode cX3_init 33 = .ok (.bipush 64, 2) := by decide +kernel
theorem dX3_init_35 : decode cX3_init 35 = .ok (.newarray .int, 2) := by decide +kernel
theorem dX3_init_37 : decode cX3_init 37 = .ok (.putfield 21, 3) := by decide +kernel
theorem dX3_init_40 : decode cX3_init 40 = .ok (.aload_n 0, 1) := by decide +kernel
theorem dX3_init_41 : decode cX3_init 41 = .ok (.bipush 64, 2) := by decide +kernel
theorem dX3_init_43 : decode cX3_init 43 = .ok (.newarray .int, 2) := by decide +kernel
theorem dX3_init_45 : decode cX3_init 45 = .ok (.putfield 25, 3) := by decide +kernel
theorem dX3_init_48 : decode cX3_init 48 = .ok (.aload_n 0, 1) := by decide +kernel
theorem dX3_init_49 : decode cX3_init 49 = .ok (.bipush 64, 2) := by decide +kernel
theorem dX3_init_51 : decode cX3_init 51 = .ok (.newarray .int, 2) := by decide +kernel
theorem dX3_init_53 : decode cX3_init 53 = .ok (.putfield 28, 3) := by decide +kernel
theorem dX3_init_56 : decode cX3_init 56 = .ok (.aload_n 0, 1) := by decide +kernel
theorem dX3_init_57 : decode cX3_init 57 = .ok (.bipush 16, 2) := by decide +kernel
theorem dX3_init_59 : decode cX3_init 59 = .ok (.newarray .int, 2) := by decide +kernel
theorem dX3_init_61 : decode cX3_init 61 = .ok (.putfield 31, 3) := by decide +kernel
theorem dX3_init_64 : decode cX3_init 64 = .ok (.aload_n 0, 1) := by decide +kernel
theorem dX3_init_65 : decode cX3_init 65 = .ok (.bipush 16, 2) := by decide +kernel
theorem dX3_init_67 : decode cX3_init 67 = .ok (.newarray .int, 2) := by decide +kernel
theorem dX3_init_69 : decode cX3_init 69 = .ok (.putfield 34, 3) := by decide +kernel
theorem dX3_init_72 : decode cX3_init 72 = .ok (.aload_n 0, 1) := by decide +kernel
theorem dX3_init_73 : decode cX3_init 73 = .ok (.bipush 16, 2) := by decide +kernel
theorem dX3_init_75 : decode cX3_init 75 = .ok (.newarray .int, 2) := by decide +kernel
theorem dX3_init_77 : decode cX3_init 77 = .ok (.putfield 37, 3) := by decide +kernel
theorem dX3_init_80 : decode cX3_init 80 = .ok (.aload_n 0, 1) := by decide +kernel
theorem dX3_init_81 : decode cX3_init 81 = .ok (.bipush 16, 2) := by decide +kernel
theorem dX3_init_83 : decode cX3_init 83 = .ok (.newarray .int, 2) := by decide +kernel
theorem dX3_init_85 : decode cX3_init 85 = .ok (.putfield 40, 3) := by decide +kernel
theorem dX3_init_88 : decode cX3_init 88 = .ok (.return_, 1) := by decide +kernel
set_option maxRecDepth 20000 in
theorem ggX3_input_X2_add : GoodIn wsX3_input wsX2_add := goodIn_r _ [9, 10, 11, 12, 13, 14, 8, 15, 16, 17, 18, 19, 20, 32, 33, 34, 35, 36] (by decide +kernel) (by decide +kernel)
set_option maxRecDepth 20000 in
theorem gX3_input_X2_add : GoodIn wsX3_input (wsV RX3 47 RX2 yX2_add wsX2_add) := goodIn_app (goodIn_of _ (by decide +kernel)) ggX3_input_X2_add
theorem dX3_input_0 : decode cX3_input 0 = .ok (.aload_n 0, 1) := by decide +kernel
theorem dX3_input_1 : decode cX3_input 1 = .ok (.getfield 43, 3) := by decide +kernel
theorem dX3_input_4 : decode cX3_input 4 = .ok (.bipush 64, 2) := by decide +kernel
theorem dX3_input_6 : decode cX3_input 6 = .ok (.if_icmp .ne 5, 3) := by decide +kernel
theorem dX3_input_9 : decode cX3_input 9 = .ok (.iconst (-1), 1) := by decide +kernel
theorem dX3_input_10 : decode cX3_input 10 = .ok (.ireturn, 1) := by decide +kernel
theorem dX3_input_11 : decode cX3_input 11 = .ok (.aload_n 0, 1) := by decide +kernel
theorem dX3_input_12 : decode cX3_input 12 = .ok (.getfield 21, 3) := by decide +kernel
theorem dX3_input_15 : decode cX3_input 15 = .ok (.aload_n 0, 1) := by decide +kernel
theorem dX3_input_16 : decode cX3_input 16 = .ok (.getfield 43, 3) := by decide +kernel
theorem dX3_input_19 : decode cX3_input 19 = .ok (.aload_n 0, 1) := by decide +kernel
theorem dX3_input_20 : decode cX3_input 20 = .ok (.getfield 14, 3) := by decide +kernel
theorem dX3_input_23 : decode cX3_input 23 = .ok (.iconst (-1), 1) := by decide +kernel
theorem dX3_input_24 : decode cX3_input 24 = .ok (.iconst (-1), 1) := by decide +kernel
theorem dX3_input_25 : decode cX3_input 25 = .ok (.invokevirtual 47, 3) := by decide +kernel
theorem dX3_input_28 : decode cX3_input 28 = .ok (.iastore, 1) := by decide +kernel
theorem dX3_input_29 : decode cX3_input 29 = .ok (.aload_n 0, 1) := by decide +kernel
theorem dX3_input_30 : decode cX3_input 30 = .ok (.dup, 1) := by decide +kernel
theorem dX3_input_31 : decode cX3_input 31 = .ok (.getfield 43, 3) := by decide +kernel
theorem dX3_input_34 : decode cX3_input 34 = .ok (.iconst 1, 1) := by decide +kernel
theorem dX3_input_35 : decode cX3_input 35 = .ok (.iadd, 1) := by decide +kernel
theorem dX3_input_36 : decode cX3_input 36 = .ok (.putfield 43, 3) := by decide +kernel
theorem dX3_input_39 : decode cX3_input 39 = .ok (.aload_n 0, 1) := by decide +kernel
theorem dX3_input_40 : decode cX3_input 40 = .ok (.iconst 0, 1) := by decide +kernel
theorem dX3_input_41 : decode cX3_input 41 = .ok (.putfield 51, 3) := by decide +kernel
theorem dX3_input_44 : decode cX3_input 44 = .ok (.iconst 2, 1) := by decide +kernel
theorem dX3_input_45 : decode cX3_input 45 = .ok (.aload_n 0, 1) := by decide +kernel
theorem dX3_input_46 : decode cX3_input 46 = .ok (.getfield 21, 3) := by decide +kernel
theorem dX3_input_49 : decode cX3_input 49 = .ok (.aload_n 0, 1) := by decide +kernel
theorem dX3_input_50 : decode cX3_input 50 = .ok (.getfield 43, 3) := by decide +kernel
theorem dX3_input_53 : decode cX3_input 53 = .ok (.iconst 1, 1) := by decide +kernel
theorem dX3_input_54 : decode cX3_input 54 = .ok (.isub, 1) := by decide +kernel
theorem dX3_input_55 : decode cX3_input 55 = .ok (.iaload, 1) := by decide +kernel
theorem dX3_input_56 : decode cX3_input 56 = .ok (.imul, 1) := by decide +kernel
theorem dX3_input_57 : decode cX3_input 57 = .ok (.ireturn, 1) := by decide +kernel
theorem dX3_made_0 : decode cX3_made 0 = .ok (.aload_n 0, 1) := by decide +kernel
theorem dX3_made_1 : decode cX3_made 1 = .ok (.aload_n 0, 1) := by decide +kernel
theorem dX3_made_2 : decode cX3_made 2 = .ok (.getfield 51, 3) := by decide +kernel
theorem dX3_made_5 : decode cX3_made 5 = .ok (.ifCond .eq 18, 3) := by decide +kernel
theorem dX3_made_8 : decode cX3_made 8 = .ok (.aload_n 0, 1) := by decide +kernel
theorem dX3_made_9 : decode cX3_made 9 = .ok (.getfield 14, 3) := by decide +kernel
theorem dX3_made_12 : decode cX3_made 12 = .ok (.getfield 55, 3) := by decide +kernel
theorem dX3_made_15 : decode cX3_made 15 = .ok (.iload_n 1, 1) := by decide +kernel
theorem dX3_made_16 : decode cX3_made 16 = .ok (.if_icmp .ne 7, 3) := by decide +kernel
theorem dX3_made_19 : decode cX3_made 19 = .ok (.iconst 1, 1) := by decide +kernel
theorem dX3_made_20 : decode cX3_made 20 = .ok (.goto 4, 3) := by decide +kernel
theorem dX3_made_23 : decode cX3_made 23 = .ok (.iconst 0, 1) := by decide +kernel
theorem dX3_made_24 : decode cX3_made 24 = .ok (.putfield 51, 3) := by decide +kernel
theorem dX3_made_27 : decode cX3_made 27 = .ok (.iload_n 2, 1) := by decide +kernel
theorem dX3_made_28 : decode cX3_made 28 = .ok (.ireturn, 1) := by decide +kernel
set_option maxRecDepth 20000 in
theorem ggX3_and_X2_has : GoodIn wsX3_and wsX2_has := goodIn_r _ [7, 8, 46, 47, 48, 49, 50] (by decide +kernel) (by decide +kernel)
set_option maxRecDepth 20000 in
theorem gX3_and_X2_has : GoodIn wsX3_and (wsV RX3 58 RX2 yX2_has wsX2_has) := goodIn_app (goodIn_of _ (by decide +kernel)) ggX3_and_X2_has
set_option maxRecDepth 20000 in
theorem ggX3_and_X2_and : GoodIn wsX3_and wsX2_and := goodIn_r _ [12, 8, 13, 14, 15, 16, 17, 18, 19, 6, 20, 21, 22, 23, 24, 25, 26, 27, 28, 46, 47, 48, 49, 50] (by decide +kernel) (by decide +kernel)
set_option maxRecDepth 20000 in
theorem gX3_and_X2_and : GoodIn wsX3_and (wsV RX3 62 RX2 yX2_and wsX2_and) := goodIn_app (goodIn_of _ (by decide +kernel)) ggX3_and_X2_and
set_option maxRecDepth 20000 in
theorem ggX3_and_X3_made : GoodIn wsX3_and wsX3_made := goodIn_r _ [33, 34, 1, 2, 35, 36, 37, 38, 39, 40, 41, 42, 43, 44, 45, 46, 47, 48, 49, 50] (by decide +kernel) (by decide +kernel)
set_option maxRecDepth 20000 in
theorem gX3_and_X3_made : GoodIn wsX3_and (wsV RX3 65 RX3 yX3_made wsX3_made) := goodIn_app (goodIn_of _ (by decide +kernel)) ggX3_and_X3_made
theorem dX3_and_0 : decode cX3_and 0 = .ok (.aload_n 0, 1) := by decide +kernel
theorem dX3_and_1 : decode cX3_and 1 = .ok (.getfield 14, 3) := by decide +kernel
theorem dX3_and_4 : decode cX3_and 4 = .ok (.iload_n 1, 1) := by decide +kernel
theorem dX3_and_5 : decode cX3_and 5 = .ok (.invokevirtual 58, 3) := by decide +kernel
theorem dX3_and_8 : decode cX3_and 8 = .ok (.ifCond .eq 14, 3) := by decide +kernel
theorem dX3_and_11 : decode cX3_and 11 = .ok (.aload_n 0, 1) := by decide +kernel
theorem dX3_and_12 : decode cX3_and 12 = .ok (.getfield 14, 3) := by decide +kernel
theorem dX3_and_15 : decode cX3_and 15 = .ok (.iload_n 2, 1) := by decide +kernel
theorem dX3_and_16 : decode cX3_and 16 = .ok (.invokevirtual 58, 3) := by decide +kernel
theorem dX3_and_19 : decode cX3_and 19 = .ok (.ifCond .ne 7, 3) := by decide +kernel
theorem dX3_and_22 : decode cX3_and 22 = .ok (.iconst (-1), 1) := by decide +kernel
theorem dX3_and_23 : decode cX3_and 23 = .ok (.goto 23, 3) := by decide +kernel
theorem dX3_and_26 : decode cX3_and 26 = .ok (.aload_n 0, 1) := by decide +kernel
theorem dX3_and_27 : decode cX3_and 27 = .ok (.aload_n 0, 1) := by decide +kernel
theorem dX3_and_28 : decode cX3_and 28 = .ok (.getfield 14, 3) := by decide +kernel
theorem dX3_and_31 : decode cX3_and 31 = .ok (.getfield 55, 3) := by decide +kernel
theorem dX3_and_34 : decode cX3_and 34 = .ok (.aload_n 0, 1) := by decide +kernel
theorem dX3_and_35 : decode cX3_and 35 = .ok (.getfield 14, 3) := by decide +kernel
theorem dX3_and_38 : decode cX3_and 38 = .ok (.iload_n 1, 1) := by decide +kernel
theorem dX3_and_39 : decode cX3_and 39 = .ok (.iload_n 2, 1) := by decide +kernel
theorem dX3_and_40 : decode cX3_and 40 = .ok (.invokevirtual 62, 3) := by decide +kernel
theorem dX3_and_43 : decode cX3_and 43 = .ok (.invokevirtual 65, 3) := by decide +kernel
theorem dX3_and_46 : decode cX3_and 46 = .ok (.ireturn, 1) := by decide +kernel
set_option maxRecDepth 20000 in
theorem ggX3_or_X2_has : GoodIn wsX3_or wsX2_has := goodIn_r _ [7, 8, 53, 54, 55, 56, 57] (by decide +kernel) (by decide +kernel)
set_option maxRecDepth 20000 in
theorem gX3_or_X2_has : GoodIn wsX3_or (wsV RX3 58 RX2 yX2_has wsX2_has) := goodIn_app (goodIn_of _ (by decide +kernel)) ggX3_or_X2_has
set_option maxRecDepth 20000 in
theorem ggX3_or_X2_or : GoodIn wsX3_or wsX2_or := goodIn_r _ [12, 13, 14, 6, 15, 16, 17, 18, 19, 8, 20, 21, 22, 23, 24, 25, 26, 27, 28, 29, 30, 31, 32, 33, 34, 35, 53, 54, 55, 56, 57] (by decide +kernel) (by decide +kernel)
set_option maxRecDepth 20000 in
theorem gX3_or_X2_or : GoodIn wsX3_or (wsV RX3 68 RX2 yX2_or wsX2_or) := goodIn_app (goodIn_of _ (by decide +kernel)) ggX3_or_X2_or
set_option maxRecDepth 20000 in
theorem ggX3_or_X3_made : GoodIn wsX3_or wsX3_made := goodIn_r _ [40, 41, 1, 2, 42, 43, 44, 45, 46, 47, 48, 49, 50, 51, 52, 53, 54, 55, 56, 57] (by decide +kernel) (by decide +kernel)
set_option maxRecDepth 20000 in
theorem gX3_or_X3_made : GoodIn wsX3_or (wsV RX3 65 RX3 yX3_made wsX3_made) := goodIn_app (goodIn_of _ (by decide +kernel)) ggX3_or_X3_made
theorem dX3_or_0 : decode cX3_or 0 = .ok (.aload_n 0, 1) := by decide +kernel
theorem dX3_or_1 : decode cX3_or 1 = .ok (.getfield 14, 3) := by decide +kernel
theorem dX3_or_4 : decode cX3_or 4 = .ok (.iload_n 1, 1) := by decide +kernel
theorem dX3_or_5 : decode cX3_or 5 = .ok (.invokevirtual 58, 3) := by decide +kernel
theorem dX3_or_8 : decode cX3_or 8 = .ok (.ifCond .eq 14, 3) := by decide +kernel
theorem dX3_or_11 : decode cX3_or 11 = .ok (.aload_n 0, 1) := by decide +kernel
theorem dX3_or_12 : decode cX3_or 12 = .ok (.getfield 14, 3) := by decide +kernel
theorem dX3_or_15 : decode cX3_or 15 = .ok (.iload_n 2, 1) := by decide +kernel
theorem dX3_or_16 : decode cX3_or 16 = .ok (.invokevirtual 58, 3) := by decide +kernel
theorem dX3_or_19 : decode cX3_or 19 = .ok (.ifCond .ne 7, 3) := by decide +kernel
theorem dX3_or_22 : decode cX3_or 22 = .ok (.iconst (-1), 1) := by decide +kernel
theorem dX3_or_23 : decode cX3_or 23 = .ok (.goto 23, 3) := by decide +kernel
theorem dX3_or_26 : decode cX3_or 26 = .ok (.aload_n 0, 1) := by decide +kernel
theorem dX3_or_27 : decode cX3_or 27 = .ok (.aload_n 0, 1) := by decide +kernel
theorem dX3_or_28 : decode cX3_or 28 = .ok (.getfield 14, 3) := by decide +kernel
theorem dX3_or_31 : decode cX3_or 31 = .ok (.getfield 55, 3) := by decide +kernel
theorem dX3_or_34 : decode cX3_or 34 = .ok (.aload_n 0, 1) := by decide +kernel
theorem dX3_or_35 : decode cX3_or 35 = .ok (.getfield 14, 3) := by decide +kernel
theorem dX3_or_38 : decode cX3_or 38 = .ok (.iload_n 1, 1) := by decide +kernel
theorem dX3_or_39 : decode cX3_or 39 = .ok (.iload_n 2, 1) := by decide +kernel
theorem dX3_or_40 : decode cX3_or 40 = .ok (.invokevirtual 68, 3) := by decide +kernel
theorem dX3_or_43 : decode cX3_or 43 = .ok (.invokevirtual 65, 3) := by decide +kernel
theorem dX3_or_46 : decode cX3_or 46 = .ok (.ireturn, 1) := by decide +kernel
set_option maxRecDepth 20000 in
theorem ggX3_xor_X2_has : GoodIn wsX3_xor wsX2_has := goodIn_r _ [7, 8, 57, 58, 59, 60, 61] (by decide +kernel) (by decide +kernel)
set_option maxRecDepth 20000 in
theorem gX3_xor_X2_has : GoodIn wsX3_xor (wsV RX3 58 RX2 yX2_has wsX2_has) := goodIn_app (goodIn_of _ (by decide +kernel)) ggX3_xor_X2_has
set_option maxRecDepth 20000 in
theorem ggX3_xor_X2_xor : GoodIn wsX3_xor wsX2_xor := goodIn_r _ [12, 13, 14, 6, 15, 16, 17, 18, 19, 8, 20, 21, 22, 23, 24, 25, 26, 27, 28, 29, 30, 31, 32, 33, 34, 35, 36, 37, 38, 39, 57, 58, 59, 60, 61] (by decide +kernel) (by decide +kernel)
set_option maxRecDepth 20000 in
theorem gX3_xor_X2_xor : GoodIn wsX3_xor (wsV RX3 71 RX2 yX2_xor wsX2_xor) := goodIn_app (goodIn_of _ (by decide +kernel)) ggX3_xor_X2_xor
set_option maxRecDepth 20000 in
theorem ggX3_xor_X3_made : GoodIn wsX3_xor wsX3_made := goodIn_r _ [44, 45, 1, 2, 46, 47, 48, 49, 50, 51, 52, 53, 54, 55, 56, 57, 58, 59, 60, 61] (by decide +kernel) (by decide +kernel)
set_option maxRecDepth 20000 in
theorem gX3_xor_X3_made : GoodIn wsX3_xor (wsV RX3 65 RX3 yX3_made wsX3_made) := goodIn_app (goodIn_of _ (by decide +kernel)) ggX3_xor_X3_made
theorem dX3_xor_0 : decode cX3_xor 0 = .ok (.aload_n 0, 1) := by decide +kernel
theorem dX3_xor_1 : decode cX3_xor 1 = .ok (.getfield 14, 3) := by decide +kernel
theorem dX3_xor_4 : decode cX3_xor 4 = .ok (.iload_n 1, 1) := by decide +kernel
theorem dX3_xor_5 : decode cX3_xor 5 = .ok (.invokevirtual 58, 3) := by decide +kernel
theorem dX3_xor_8 : decode cX3_xor 8 = .ok (.ifCond .eq 14, 3) := by decide +kernel
theorem dX3_xor_11 : decode cX3_xor 11 = .ok (.aload_n 0, 1) := by decide +kernel
theorem dX3_xor_12 : decode cX3_xor 12 = .ok (.getfield 14, 3) := by decide +kernel
theorem dX3_xor_15 : decode cX3_xor 15 = .ok (.iload_n 2, 1) := by decide +kernel
theorem dX3_xor_16 : decode cX3_xor 16 = .ok (.invokevirtual 58, 3) := by decide +kernel
theorem dX3_xor_19 : decode cX3_xor 19 = .ok (.ifCond .ne 7, 3) := by decide +kernel
theorem dX3_xor_22 : decode cX3_xor 22 = .ok (.iconst (-1), 1) := by decide +kernel
theorem dX3_xor_23 : decode cX3_xor 23 = .ok (.goto 23, 3) := by decide +kernel
theorem dX3_xor_26 : decode cX3_xor 26 = .ok (.aload_n 0, 1) := by decide +kernel
theorem dX3_xor_27 : decode cX3_xor 27 = .ok (.aload_n 0, 1) := by decide +kernel
theorem dX3_xor_28 : decode cX3_xor 28 = .ok (.getfield 14, 3) := by decide +kernel
theorem dX3_xor_31 : decode cX3_xor 31 = .ok (.getfield 55, 3) := by decide +kernel
theorem dX3_xor_34 : decode cX3_xor 34 = .ok (.aload_n 0, 1) := by decide +kernel
theorem dX3_xor_35 : decode cX3_xor 35 = .ok (.getfield 14, 3) := by decide +kernel
theorem dX3_xor_38 : decode cX3_xor 38 = .ok (.iload_n 1, 1) := by decide +kernel
theorem dX3_xor_39 : decode cX3_xor 39 = .ok (.iload_n 2, 1) := by decide +kernel
theorem dX3_xor_40 : decode cX3_xor 40 = .ok (.invokevirtual 71, 3) := by decide +kernel
theorem dX3_xor_43 : decode cX3_xor 43 = .ok (.invokevirtual 65, 3) := by decide +kernel
theorem dX3_xor_46 : decode cX3_xor 46 = .ok (.ireturn, 1) := by decide +kernel
set_option maxRecDepth 20000 in
theorem ggX3_choose_X2_has : GoodIn wsX3_choose wsX2_has := goodIn_r _ [7, 8, 57, 58, 59, 60, 61] (by decide +kernel) (by decide +kernel)
set_option maxRecDepth 20000 in
theorem gX3_choose_X2_has : GoodIn wsX3_choose (wsV RX3 58 RX2 yX2_has wsX2_has) := goodIn_app (goodIn_of _ (by decide +kernel)) ggX3_choose_X2_has
set_option maxRecDepth 20000 in
theorem ggX3_choose_X2_choose : GoodIn wsX3_choose wsX2_choose := goodIn_r _ [12, 13, 14, 15, 6, 16, 8, 17, 18, 19, 20, 21, 22, 23, 24, 25, 26, 27, 28, 29, 30, 31, 32, 33, 34, 35, 36, 37, 38, 39, 57, 58, 59, 60, 61] (by decide +kernel) (by decide +kernel)
set_option maxRecDepth 20000 in
theorem gX3_choose_X2_choose : GoodIn wsX3_choose (wsV RX3 74 RX2 yX2_choose wsX2_choose) := goodIn_app (goodIn_of _ (by decide +kernel)) ggX3_choose_X2_choose
set_option maxRecDepth 20000 in
theorem ggX3_choose_X3_made : GoodIn wsX3_choose wsX3_made := goodIn_r _ [44, 45, 1, 2, 46, 47, 48, 49, 50, 51, 52, 53, 54, 55, 56, 57, 58, 59, 60, 61] (by decide +kernel) (by decide +kernel)
set_option maxRecDepth 20000 in
theorem gX3_choose_X3_made : GoodIn wsX3_choose (wsV RX3 65 RX3 yX3_made wsX3_made) := goodIn_app (goodIn_of _ (by decide +kernel)) ggX3_choose_X3_made
theorem dX3_choose_0 : decode cX3_choose 0 = .ok (.aload_n 0, 1) := by decide +kernel
theorem dX3_choose_1 : decode cX3_choose 1 = .ok (.getfield 14, 3) := by decide +kernel
theorem dX3_choose_4 : decode cX3_choose 4 = .ok (.iload_n 1, 1) := by decide +kernel
theorem dX3_choose_5 : decode cX3_choose 5 = .ok (.invokevirtual 58, 3) := by decide +kernel
theorem dX3_choose_8 : decode cX3_choose 8 = .ok (.ifCond .eq 25, 3) := by decide +kernel
theorem dX3_choose_11 : decode cX3_choose 11 = .ok (.aload_n 0, 1) := by decide +kernel
theorem dX3_choose_12 : decode cX3_choose 12 = .ok (.getfield 14, 3) := by decide +kernel
theorem dX3_choose_15 : decode cX3_choose 15 = .ok (.iload_n 2, 1) := by decide +kernel
theorem dX3_choose_16 : decode cX3_choose 16 = .ok (.invokevirtual 58, 3) := by decide +kernel
theorem dX3_choose_19 : decode cX3_choose 19 = .ok (.ifCond .eq 14, 3) := by decide +kernel
theorem dX3_choose_22 : decode cX3_choose 22 = .ok (.aload_n 0, 1) := by decide +kernel
theorem dX3_choose_23 : decode cX3_choose 23 = .ok (.getfield 14, 3) := by decide +kernel
theorem dX3_choose_26 : decode cX3_choose 26 = .ok (.iload_n 3, 1) := by decide +kernel
theorem dX3_choose_27 : decode cX3_choose 27 = .ok (.invokevirtual 58, 3) := by decide +kernel
theorem dX3_choose_30 : decode cX3_choose 30 = .ok (.ifCond .ne 7, 3) := by decide +kernel
theorem dX3_choose_33 : decode cX3_choose 33 = .ok (.iconst (-1), 1) := by decide +kernel
theorem dX3_choose_34 : decode cX3_choose 34 = .ok (.goto 24, 3) := by decide +kernel
theorem dX3_choose_37 : decode cX3_choose 37 = .ok (.aload_n 0, 1) := by decide +kernel
theorem dX3_choose_38 : decode cX3_choose 38 = .ok (.aload_n 0, 1) := by decide +kernel
theorem dX3_choose_39 : decode cX3_choose 39 = .ok (.getfield 14, 3) := by decide +kernel
theorem dX3_choose_42 : decode cX3_choose 42 = .ok (.getfield 55, 3) := by decide +kernel
theorem dX3_choose_45 : decode cX3_choose 45 = .ok (.aload_n 0, 1) := by decide +kernel
theorem dX3_choose_46 : decode cX3_choose 46 = .ok (.getfield 14, 3) := by decide +kernel
theorem dX3_choose_49 : decode cX3_choose 49 = .ok (.iload_n 1, 1) := by decide +kernel
theorem dX3_choose_50 : decode cX3_choose 50 = .ok (.iload_n 2, 1) := by decide +kernel
theorem dX3_choose_51 : decode cX3_choose 51 = .ok (.iload_n 3, 1) := by decide +kernel
theorem dX3_choose_52 : decode cX3_choose 52 = .ok (.invokevirtual 74, 3) := by decide +kernel
theorem dX3_choose_55 : decode cX3_choose 55 = .ok (.invokevirtual 65, 3) := by decide +kernel
theorem dX3_choose_58 : decode cX3_choose 58 = .ok (.ireturn, 1) := by decide +kernel
theorem dX3_nodes_0 : decode cX3_nodes 0 = .ok (.iload_n 1, 1) := by decide +kernel
theorem dX3_nodes_1 : decode cX3_nodes 1 = .ok (.ifCond .ne 13, 3) := by decide +kernel
theorem dX3_nodes_4 : decode cX3_nodes 4 = .ok (.aload_n 0, 1) := by decide +kernel
theorem dX3_nodes_5 : decode cX3_nodes 5 = .ok (.getfield 14, 3) := by decide +kernel
theorem dX3_nodes_8 : decode cX3_nodes 8 = .ok (.getfield 78, 3) := by decide +kernel
theorem dX3_nodes_11 : decode cX3_nodes 11 = .ok (.goto 21, 3) := by decide +kernel
theorem dX3_nodes_14 : decode cX3_nodes 14 = .ok (.aload_n 0, 1) := by decide +kernel
theorem dX3_nodes_15 : decode cX3_nodes 15 = .ok (.getfield 51, 3) := by decide +kernel
theorem dX3_nodes_18 : decode cX3_nodes 18 = .ok (.ifCond .eq 13, 3) := by decide +kernel
theorem dX3_nodes_21 : decode cX3_nodes 21 = .ok (.aload_n 0, 1) := by decide +kernel
theorem dX3_nodes_22 : decode cX3_nodes 22 = .ok (.getfield 18, 3) := by decide +kernel
theorem dX3_nodes_25 : decode cX3_nodes 25 = .ok (.getfield 78, 3) := by decide +kernel
theorem dX3_nodes_28 : decode cX3_nodes 28 = .ok (.goto 4, 3) := by decide +kernel
theorem dX3_nodes_31 : decode cX3_nodes 31 = .ok (.iconst 0, 1) := by decide +kernel
theorem dX3_nodes_32 : decode cX3_nodes 32 = .ok (.ireturn, 1) := by decide +kernel
theorem dX3_gate_0 : decode cX3_gate 0 = .ok (.iload_n 1, 1) := by decide +kernel
theorem dX3_gate_1 : decode cX3_gate 1 = .ok (.ifCond .eq 10, 3) := by decide +kernel
theorem dX3_gate_4 : decode cX3_gate 4 = .ok (.aload_n 0, 1) := by decide +kernel
theorem dX3_gate_5 : decode cX3_gate 5 = .ok (.getfield 18, 3) := by decide +kernel
theorem dX3_gate_8 : decode cX3_gate 8 = .ok (.goto 7, 3) := by decide +kernel
theorem dX3_gate_11 : decode cX3_gate 11 = .ok (.aload_n 0, 1) := by decide +kernel
theorem dX3_gate_12 : decode cX3_gate 12 = .ok (.getfield 14, 3) := by decide +kernel
theorem dX3_gate_15 : decode cX3_gate 15 = .ok (.astore 4, 2) := by decide +kernel
theorem dX3_gate_17 : decode cX3_gate 17 = .ok (.iload_n 1, 1) := by decide +kernel
theorem dX3_gate_18 : decode cX3_gate 18 = .ok (.ifCond .eq 10, 3) := by decide +kernel
theorem dX3_gate_21 : decode cX3_gate 21 = .ok (.aload_n 0, 1) := by decide +kernel
theorem dX3_gate_22 : decode cX3_gate 22 = .ok (.getfield 51, 3) := by decide +kernel
theorem dX3_gate_25 : decode cX3_gate 25 = .ok (.ifCond .eq 20, 3) := by decide +kernel
theorem dX3_gate_28 : decode cX3_gate 28 = .ok (.iload_n 2, 1) := by decide +kernel
theorem dX3_gate_29 : decode cX3_gate 29 = .ok (.ifCond .lt 16, 3) := by decide +kernel
theorem dX3_gate_32 : decode cX3_gate 32 = .ok (.iload_n 2, 1) := by decide +kernel
theorem dX3_gate_33 : decode cX3_gate 33 = .ok (.aload 4, 2) := by decide +kernel
theorem dX3_gate_35 : decode cX3_gate 35 = .ok (.getfield 78, 3) := by decide +kernel
theorem dX3_gate_38 : decode cX3_gate 38 = .ok (.if_icmp .ge 7, 3) := by decide +kernel
theorem dX3_gate_41 : decode cX3_gate 41 = .ok (.iconst 1, 1) := by decide +kernel
theorem dX3_gate_42 : decode cX3_gate 42 = .ok (.goto 4, 3) := by decide +kernel
theorem dX3_gate_45 : decode cX3_gate 45 = .ok (.iconst 0, 1) := by decide +kernel
theorem dX3_gate_46 : decode cX3_gate 46 = .ok (.istore 5, 2) := by decide +kernel
theorem dX3_gate_48 : decode cX3_gate 48 = .ok (.iload 5, 2) := by decide +kernel
theorem dX3_gate_50 : decode cX3_gate 50 = .ok (.ifCond .eq 12, 3) := by decide +kernel
theorem dX3_gate_53 : decode cX3_gate 53 = .ok (.iload_n 3, 1) := by decide +kernel
theorem dX3_gate_54 : decode cX3_gate 54 = .ok (.ifCond .lt 8, 3) := by decide +kernel
theorem dX3_gate_57 : decode cX3_gate 57 = .ok (.iload_n 3, 1) := by decide +kernel
theorem dX3_gate_58 : decode cX3_gate 58 = .ok (.iconst 1, 1) := by decide +kernel
theorem dX3_gate_59 : decode cX3_gate 59 = .ok (.if_icmp .le 7, 3) := by decide +kernel
theorem dX3_gate_62 : decode cX3_gate 62 = .ok (.iconst (-1), 1) := by decide +kernel
theorem dX3_gate_63 : decode cX3_gate 63 = .ok (.goto 24, 3) := by decide +kernel
theorem dX3_gate_66 : decode cX3_gate 66 = .ok (.iload_n 3, 1) := by decide +kernel
theorem dX3_gate_67 : decode cX3_gate 67 = .ok (.ifCond .ne 13, 3) := by decide +kernel
theorem dX3_gate_70 : decode cX3_gate 70 = .ok (.aload 4, 2) := by decide +kernel
theorem dX3_gate_72 : decode cX3_gate 72 = .ok (.getfield 81, 3) := by decide +kernel
theorem dX3_gate_75 : decode cX3_gate 75 = .ok (.iload_n 2, 1) := by decide +kernel
theorem dX3_gate_76 : decode cX3_gate 76 = .ok (.iaload, 1) := by decide +kernel
theorem dX3_gate_77 : decode cX3_gate 77 = .ok (.goto 10, 3) := by decide +kernel
theorem dX3_gate_80 : decode cX3_gate 80 = .ok (.aload 4, 2) := by decide +kernel
theorem dX3_gate_82 : decode cX3_gate 82 = .ok (.getfield 84, 3) := by decide +kernel
theorem dX3_gate_85 : decode cX3_gate 85 = .ok (.iload_n 2, 1) := by decide +kernel
theorem dX3_gate_86 : decode cX3_gate 86 = .ok (.iaload, 1) := by decide +kernel
theorem dX3_gate_87 : decode cX3_gate 87 = .ok (.ireturn, 1) := by decide +kernel
set_option maxRecDepth 20000 in
theorem ggX3_with_X2_not : GoodIn wsX3_with wsX2_not := goodIn_r _ [4] (by decide +kernel) (by decide +kernel)
set_option maxRecDepth 20000 in
theorem gX3_with_X2_not : GoodIn wsX3_with (va_wsS RX3 87 yX2_not wsX2_not) := goodIn_app (goodIn_of _ (by decide +kernel)) ggX3_with_X2_not
theorem dX3_with_0 : decode cX3_with 0 = .ok (.aload_n 0, 1) := by decide +kernel
theorem dX3_with_1 : decode cX3_with 1 = .ok (.iload_n 1, 1) := by decide +kernel
theorem dX3_with_2 : decode cX3_with 2 = .ok (.iconst 2, 1) := by decide +kernel
theorem dX3_with_3 : decode cX3_with 3 = .ok (.idiv, 1) := by decide +kernel
theorem dX3_with_4 : decode cX3_with 4 = .ok (.iaload, 1) := by decide +kernel
theorem dX3_with_5 : decode cX3_with 5 = .ok (.ifCond .ge 7, 3) := by decide +kernel
theorem dX3_with_8 : decode cX3_with 8 = .ok (.iconst (-1), 1) := by decide +kernel
theorem dX3_with_9 : decode cX3_with 9 = .ok (.goto 25, 3) := by decide +kernel
theorem dX3_with_12 : decode cX3_with 12 = .ok (.iload_n 1, 1) := by decide +kernel
theorem dX3_with_13 : decode cX3_with 13 = .ok (.iconst 2, 1) := by decide +kernel
theorem dX3_with_14 : decode cX3_with 14 = .ok (.irem, 1) := by decide +kernel
theorem dX3_with_15 : decode cX3_with 15 = .ok (.ifCond .ne 11, 3) := by decide +kernel
theorem dX3_with_18 : decode cX3_with 18 = .ok (.aload_n 0, 1) := by decide +kernel
theorem dX3_with_19 : decode cX3_with 19 = .ok (.iload_n 1, 1) := by decide +kernel
theorem dX3_with_20 : decode cX3_with 20 = .ok (.iconst 2, 1) := by decide +kernel
theorem dX3_with_21 : decode cX3_with 21 = .ok (.idiv, 1) := by decide +kernel
theorem dX3_with_22 : decode cX3_with 22 = .ok (.iaload, 1) := by decide +kernel
theorem dX3_with_23 : decode cX3_with 23 = .ok (.goto 11, 3) := by decide +kernel
theorem dX3_with_26 : decode cX3_with 26 = .ok (.aload_n 0, 1) := by decide +kernel
theorem dX3_with_27 : decode cX3_with 27 = .ok (.iload_n 1, 1) := by decide +kernel
theorem dX3_with_28 : decode cX3_with 28 = .ok (.iconst 2, 1) := by decide +kernel
theorem dX3_with_29 : decode cX3_with 29 = .ok (.idiv, 1) := by decide +kernel
theorem dX3_with_30 : decode cX3_with 30 = .ok (.iaload, 1) := by decide +kernel
theorem dX3_with_31 : decode cX3_with 31 = .ok (.invokestatic 87, 3) := by decide +kernel
theorem dX3_with_34 : decode cX3_with 34 = .ok (.ireturn, 1) := by decide +kernel
set_option maxRecDepth 20000 in
theorem ggX3_twin_X2_begin : GoodIn wsX3_twin wsX2_begin := goodIn_r _ [15, 16, 17, 18, 19, 20, 14, 21, 22, 23, 24, 25, 26, 27, 28, 29, 30, 31, 62, 63, 64, 65, 66] (by decide +kernel) (by decide +kernel)
set_option maxRecDepth 20000 in
theorem gX3_twin_X2_begin : GoodIn wsX3_twin (wsV RX3 91 RX2 yX2_begin wsX2_begin) := goodIn_app (goodIn_of _ (by decide +kernel)) ggX3_twin_X2_begin
set_option maxRecDepth 20000 in
theorem ggX3_twin_X2_more : GoodIn wsX3_twin wsX2_more := goodIn_r _ [26, 27, 28, 29, 30, 31] (by decide +kernel) (by decide +kernel)
set_option maxRecDepth 20000 in
theorem gX3_twin_X2_more_n94 : GoodIn wsX3_twin (wsX2_more) := ggX3_twin_X2_more
set_option maxRecDepth 20000 in
theorem ggX3_twin_X2_add : GoodIn wsX3_twin wsX2_add := goodIn_r _ [21, 16, 22, 23, 24, 25, 14, 26, 27, 28, 29, 30, 31, 62, 63, 64, 65, 66] (by decide +kernel) (by decide +kernel)
set_option maxRecDepth 20000 in
theorem gX3_twin_X2_add : GoodIn wsX3_twin (wsV RX3 47 RX2 yX2_add wsX2_add) := goodIn_app (goodIn_of _ (by decide +kernel)) ggX3_twin_X2_add
set_option maxRecDepth 20000 in
theorem ggX3_twin_X3_with : GoodIn wsX3_twin wsX3_with := goodIn_r _ [36, 37, 38, 14, 39] (by decide +kernel) (by decide +kernel)
set_option maxRecDepth 20000 in
theorem gX3_twin_X3_with : GoodIn wsX3_twin (va_wsS RX3 98 yX3_with wsX3_with) := goodIn_app (goodIn_of _ (by decide +kernel)) ggX3_twin_X3_with
set_option maxRecDepth 20000 in
theorem ggX3_twin_X2_and : GoodIn wsX3_twin wsX2_and := goodIn_r _ [43, 16, 22, 23, 17, 44, 18, 19, 20, 14, 21, 24, 25, 26, 27, 28, 29, 30, 31, 62, 63, 64, 65, 66] (by decide +kernel) (by decide +kernel)
set_option maxRecDepth 20000 in
theorem gX3_twin_X2_and : GoodIn wsX3_twin (wsV RX3 62 RX2 yX2_and wsX2_and) := goodIn_app (goodIn_of _ (by decide +kernel)) ggX3_twin_X2_and
set_option maxRecDepth 20000 in
theorem ggX3_twin_X2_or : GoodIn wsX3_twin wsX2_or := goodIn_r _ [48, 49, 38, 14, 39, 50, 41, 42, 43, 16, 22, 23, 17, 44, 18, 19, 20, 21, 24, 25, 26, 27, 28, 29, 30, 31, 62, 63, 64, 65, 66] (by decide +kernel) (by decide +kernel)
set_option maxRecDepth 20000 in
theorem gX3_twin_X2_or : GoodIn wsX3_twin (wsV RX3 68 RX2 yX2_or wsX2_or) := goodIn_app (goodIn_of _ (by decide +kernel)) ggX3_twin_X2_or
theorem dX3_twin_0 : decode cX3_twin 0 = .ok (.aload_n 0, 1) := by decide +kernel
theorem dX3_twin_1 : decode cX3_twin 1 = .ok (.getfield 18, 3) := by decide +kernel
theorem dX3_twin_4 : decode cX3_twin 4 = .ok (.invokevirtual 91, 3) := by decide +kernel
theorem dX3_twin_7 : decode cX3_twin 7 = .ok (.aload_n 0, 1) := by decide +kernel
theorem dX3_twin_8 : decode cX3_twin 8 = .ok (.getfield 31, 3) := by decide +kernel
theorem dX3_twin_11 : decode cX3_twin 11 = .ok (.arraylength, 1) := by decide +kernel
theorem dX3_twin_12 : decode cX3_twin 12 = .ok (.aload_n 0, 1) := by decide +kernel
theorem dX3_twin_13 : decode cX3_twin 13 = .ok (.getfield 14, 3) := by decide +kernel
theorem dX3_twin_16 : decode cX3_twin 16 = .ok (.getfield 78, 3) := by decide +kernel
theorem dX3_twin_19 : decode cX3_twin 19 = .ok (.if_icmp .ge 28, 3) := by decide +kernel
theorem dX3_twin_22 : decode cX3_twin 22 = .ok (.aload_n 0, 1) := by decide +kernel
theorem dX3_twin_23 : decode cX3_twin 23 = .ok (.aload_n 0, 1) := by decide +kernel
theorem dX3_twin_24 : decode cX3_twin 24 = .ok (.getfield 31, 3) := by decide +kernel
theorem dX3_twin_27 : decode cX3_twin 27 = .ok (.invokestatic 94, 3) := by decide +kernel
theorem dX3_twin_30 : decode cX3_twin 30 = .ok (.putfield 31, 3) := by decide +kernel
theorem dX3_twin_33 : decode cX3_twin 33 = .ok (.aload_n 0, 1) := by decide +kernel
theorem dX3_twin_34 : decode cX3_twin 34 = .ok (.aload_n 0, 1) := by decide +kernel
theorem dX3_twin_35 : decode cX3_twin 35 = .ok (.getfield 34, 3) := by decide +kernel
theorem dX3_twin_38 : decode cX3_twin 38 = .ok (.invokestatic 94, 3) := by decide +kernel
theorem dX3_twin_41 : decode cX3_twin 41 = .ok (.putfield 34, 3) := by decide +kernel
theorem dX3_twin_44 : decode cX3_twin 44 = .ok (.goto (-37), 3) := by decide +kernel
theorem dX3_twin_47 : decode cX3_twin 47 = .ok (.aload_n 0, 1) := by decide +kernel
theorem dX3_twin_48 : decode cX3_twin 48 = .ok (.getfield 31, 3) := by decide +kernel
theorem dX3_twin_51 : decode cX3_twin 51 = .ok (.iconst 0, 1) := by decide +kernel
theorem dX3_twin_52 : decode cX3_twin 52 = .ok (.iconst 0, 1) := by decide +kernel
theorem dX3_twin_53 : decode cX3_twin 53 = .ok (.iastore, 1) := by decide +kernel
theorem dX3_twin_54 : decode cX3_twin 54 = .ok (.aload_n 0, 1) := by decide +kernel
theorem dX3_twin_55 : decode cX3_twin 55 = .ok (.getfield 34, 3) := by decide +kernel
theorem dX3_twin_58 : decode cX3_twin 58 = .ok (.iconst 0, 1) := by decide +kernel
theorem dX3_twin_59 : decode cX3_twin 59 = .ok (.iconst 0, 1) := by decide +kernel
theorem dX3_twin_60 : decode cX3_twin 60 = .ok (.iastore, 1) := by decide +kernel
theorem dX3_twin_61 : decode cX3_twin 61 = .ok (.iconst 0, 1) := by decide +kernel
theorem dX3_twin_62 : decode cX3_twin 62 = .ok (.istore_n 1, 1) := by decide +kernel
theorem dX3_twin_63 : decode cX3_twin 63 = .ok (.iload_n 1, 1) := by decide +kernel
theorem dX3_twin_64 : decode cX3_twin 64 = .ok (.aload_n 0, 1) := by decide +kernel
theorem dX3_twin_65 : decode cX3_twin 65 = .ok (.getfield 43, 3) := by decide +kernel
theorem dX3_twin_68 : decode cX3_twin 68 = .ok (.if_icmp .ge 31, 3) := by decide +kernel
theorem dX3_twin_71 : decode cX3_twin 71 = .ok (.aload_n 0, 1) := by decide +kernel
theorem dX3_twin_72 : decode cX3_twin 72 = .ok (.getfield 31, 3) := by decide +kernel
theorem dX3_twin_75 : decode cX3_twin 75 = .ok (.aload_n 0, 1) := by decide +kernel
theorem dX3_twin_76 : decode cX3_twin 76 = .ok (.getfield 21, 3) := by decide +kernel
theorem dX3_twin_79 : decode cX3_twin 79 = .ok (.iload_n 1, 1) := by decide +kernel
theorem dX3_twin_80 : decode cX3_twin 80 = .ok (.iaload, 1) := by decide +kernel
theorem dX3_twin_81 : decode cX3_twin 81 = .ok (.iconst 2, 1) := by decide +kernel
theorem dX3_twin_82 : decode cX3_twin 82 = .ok (.aload_n 0, 1) := by decide +kernel
theorem dX3_twin_83 : decode cX3_twin 83 = .ok (.getfield 18, 3) := by decide +kernel
theorem dX3_twin_86 : decode cX3_twin 86 = .ok (.iconst (-1), 1) := by decide +kernel
theorem dX3_twin_87 : decode cX3_twin 87 = .ok (.iconst (-1), 1) := by decide +kernel
theorem dX3_twin_88 : decode cX3_twin 88 = .ok (.invokevirtual 47, 3) := by decide +kernel
theorem dX3_twin_91 : decode cX3_twin 91 = .ok (.imul, 1) := by decide +kernel
theorem dX3_twin_92 : decode cX3_twin 92 = .ok (.iastore, 1) := by decide +kernel
theorem dX3_twin_93 : decode cX3_twin 93 = .ok (.iinc 1 1, 3) := by decide +kernel
theorem dX3_twin_96 : decode cX3_twin 96 = .ok (.goto (-33), 3) := by decide +kernel
theorem dX3_twin_99 : decode cX3_twin 99 = .ok (.iconst 0, 1) := by decide +kernel
theorem dX3_twin_100 : decode cX3_twin 100 = .ok (.istore_n 1, 1) := by decide +kernel
theorem dX3_twin_101 : decode cX3_twin 101 = .ok (.iload_n 1, 1) := by decide +kernel
theorem dX3_twin_102 : decode cX3_twin 102 = .ok (.aload_n 0, 1) := by decide +kernel
theorem dX3_twin_103 : decode cX3_twin 103 = .ok (.getfield 43, 3) := by decide +kernel
theorem dX3_twin_106 : decode cX3_twin 106 = .ok (.if_icmp .ge 31, 3) := by decide +kernel
theorem dX3_twin_109 : decode cX3_twin 109 = .ok (.aload_n 0, 1) := by decide +kernel
theorem dX3_twin_110 : decode cX3_twin 110 = .ok (.getfield 34, 3) := by decide +kernel
theorem dX3_twin_113 : decode cX3_twin 113 = .ok (.aload_n 0, 1) := by decide +kernel
theorem dX3_twin_114 : decode cX3_twin 114 = .ok (.getfield 21, 3) := by decide +kernel
theorem dX3_twin_117 : decode cX3_twin 117 = .ok (.iload_n 1, 1) := by decide +kernel
theorem dX3_twin_118 : decode cX3_twin 118 = .ok (.iaload, 1) := by decide +kernel
theorem dX3_twin_119 : decode cX3_twin 119 = .ok (.iconst 2, 1) := by decide +kernel
theorem dX3_twin_120 : decode cX3_twin 120 = .ok (.aload_n 0, 1) := by decide +kernel
theorem dX3_twin_121 : decode cX3_twin 121 = .ok (.getfield 18, 3) := by decide +kernel
theorem dX3_twin_124 : decode cX3_twin 124 = .ok (.iconst (-1), 1) := by decide +kernel
theorem dX3_twin_125 : decode cX3_twin 125 = .ok (.iconst (-1), 1) := by decide +kernel
theorem dX3_twin_126 : decode cX3_twin 126 = .ok (.invokevirtual 47, 3) := by decide +kernel
theorem dX3_twin_129 : decode cX3_twin 129 = .ok (.imul, 1) := by decide +kernel
theorem dX3_twin_130 : decode cX3_twin 130 = .ok (.iastore, 1) := by decide +kernel
theorem dX3_twin_131 : decode cX3_twin 131 = .ok (.iinc 1 1, 3) := by decide +kernel
theorem dX3_twin_134 : decode cX3_twin 134 = .ok (.goto (-33), 3) := by decide +kernel
theorem dX3_twin_137 : decode cX3_twin 137 = .ok (.aload_n 0, 1) := by decide +kernel
theorem dX3_twin_138 : decode cX3_twin 138 = .ok (.iconst 1, 1) := by decide +kernel
theorem dX3_twin_139 : decode cX3_twin 139 = .ok (.putfield 51, 3) := by decide +kernel
theorem dX3_twin_142 : decode cX3_twin 142 = .ok (.iconst 1, 1) := by decide +kernel
theorem dX3_twin_143 : decode cX3_twin 143 = .ok (.istore_n 1, 1) := by decide +kernel
theorem dX3_twin_144 : decode cX3_twin 144 = .ok (.iload_n 1, 1) := by decide +kernel
theorem dX3_twin_145 : decode cX3_twin 145 = .ok (.aload_n 0, 1) := by decide +kernel
theorem dX3_twin_146 : decode cX3_twin 146 = .ok (.getfield 14, 3) := by decide +kernel
theorem dX3_twin_149 : decode cX3_twin 149 = .ok (.getfield 78, 3) := by decide +kernel
theorem dX3_twin_152 : decode cX3_twin 152 = .ok (.if_icmp .ge 229, 3) := by decide +kernel
theorem dX3_twin_155 : decode cX3_twin 155 = .ok (.aload_n 0, 1) := by decide +kernel
theorem dX3_twin_156 : decode cX3_twin 156 = .ok (.getfield 51, 3) := by decide +kernel
theorem dX3_twin_159 : decode cX3_twin 159 = .ok (.ifCond .eq 222, 3) := by decide +kernel
theorem dX3_twin_162 : decode cX3_twin 162 = .ok (.aload_n 0, 1) := by decide +kernel
theorem dX3_twin_163 : decode cX3_twin 163 = .ok (.getfield 14, 3) := by decide +kernel
theorem dX3_twin_166 : decode cX3_twin 166 = .ok (.getfield 81, 3) := by decide +kernel
theorem dX3_twin_169 : decode cX3_twin 169 = .ok (.iload_n 1, 1) := by decide +kernel
theorem dX3_twin_170 : decode cX3_twin 170 = .ok (.iaload, 1) := by decide +kernel
theorem dX3_twin_171 : decode cX3_twin 171 = .ok (.ifCond .lt 204, 3) := by decide +kernel
theorem dX3_twin_174 : decode cX3_twin 174 = .ok (.aload_n 0, 1) := by decide +kernel
theorem dX3_twin_175 : decode cX3_twin 175 = .ok (.getfield 31, 3) := by decide +kernel
end
section
theorem dX3_twin_178 : decode cX3_twin 178 = .ok (.aload_n 0, 1) := by decide +kernel
theorem dX3_twin_179 : decode cX3_twin 179 = .ok (.getfield 14, 3) := by decide +kernel
theorem dX3_twin_182 : decode cX3_twin 182 = .ok (.getfield 81, 3) := by decide +kernel
theorem dX3_twin_185 : decode cX3_twin 185 = .ok (.iload_n 1, 1) := by decide +kernel
theorem dX3_twin_186 : decode cX3_twin 186 = .ok (.iaload, 1) := by decide +kernel
theorem dX3_twin_187 : decode cX3_twin 187 = .ok (.invokestatic 98, 3) := by decide +kernel
theorem dX3_twin_190 : decode cX3_twin 190 = .ok (.istore_n 2, 1) := by decide +kernel
theorem dX3_twin_191 : decode cX3_twin 191 = .ok (.aload_n 0, 1) := by decide +kernel
theorem dX3_twin_192 : decode cX3_twin 192 = .ok (.getfield 31, 3) := by decide +kernel
theorem dX3_twin_195 : decode cX3_twin 195 = .ok (.aload_n 0, 1) := by decide +kernel
theorem dX3_twin_196 : decode cX3_twin 196 = .ok (.getfield 14, 3) := by decide +kernel
theorem dX3_twin_199 : decode cX3_twin 199 = .ok (.getfield 84, 3) := by decide +kernel
theorem dX3_twin_202 : decode cX3_twin 202 = .ok (.iload_n 1, 1) := by decide +kernel
theorem dX3_twin_203 : decode cX3_twin 203 = .ok (.iaload, 1) := by decide +kernel
theorem dX3_twin_204 : decode cX3_twin 204 = .ok (.invokestatic 98, 3) := by decide +kernel
theorem dX3_twin_207 : decode cX3_twin 207 = .ok (.istore_n 3, 1) := by decide +kernel
theorem dX3_twin_208 : decode cX3_twin 208 = .ok (.aload_n 0, 1) := by decide +kernel
theorem dX3_twin_209 : decode cX3_twin 209 = .ok (.getfield 34, 3) := by decide +kernel
theorem dX3_twin_212 : decode cX3_twin 212 = .ok (.aload_n 0, 1) := by decide +kernel
theorem dX3_twin_213 : decode cX3_twin 213 = .ok (.getfield 14, 3) := by decide +kernel
theorem dX3_twin_216 : decode cX3_twin 216 = .ok (.getfield 81, 3) := by decide +kernel
theorem dX3_twin_219 : decode cX3_twin 219 = .ok (.iload_n 1, 1) := by decide +kernel
theorem dX3_twin_220 : decode cX3_twin 220 = .ok (.iaload, 1) := by decide +kernel
theorem dX3_twin_221 : decode cX3_twin 221 = .ok (.iconst 2, 1) := by decide +kernel
theorem dX3_twin_222 : decode cX3_twin 222 = .ok (.idiv, 1) := by decide +kernel
theorem dX3_twin_223 : decode cX3_twin 223 = .ok (.iaload, 1) := by decide +kernel
theorem dX3_twin_224 : decode cX3_twin 224 = .ok (.istore 4, 2) := by decide +kernel
theorem dX3_twin_226 : decode cX3_twin 226 = .ok (.aload_n 0, 1) := by decide +kernel
theorem dX3_twin_227 : decode cX3_twin 227 = .ok (.getfield 34, 3) := by decide +kernel
theorem dX3_twin_230 : decode cX3_twin 230 = .ok (.aload_n 0, 1) := by decide +kernel
theorem dX3_twin_231 : decode cX3_twin 231 = .ok (.getfield 14, 3) := by decide +kernel
theorem dX3_twin_234 : decode cX3_twin 234 = .ok (.getfield 84, 3) := by decide +kernel
theorem dX3_twin_237 : decode cX3_twin 237 = .ok (.iload_n 1, 1) := by decide +kernel
theorem dX3_twin_238 : decode cX3_twin 238 = .ok (.iaload, 1) := by decide +kernel
theorem dX3_twin_239 : decode cX3_twin 239 = .ok (.iconst 2, 1) := by decide +kernel
theorem dX3_twin_240 : decode cX3_twin 240 = .ok (.idiv, 1) := by decide +kernel
theorem dX3_twin_241 : decode cX3_twin 241 = .ok (.iaload, 1) := by decide +kernel
theorem dX3_twin_242 : decode cX3_twin 242 = .ok (.istore 5, 2) := by decide +kernel
theorem dX3_twin_244 : decode cX3_twin 244 = .ok (.aload_n 0, 1) := by decide +kernel
theorem dX3_twin_245 : decode cX3_twin 245 = .ok (.getfield 31, 3) := by decide +kernel
theorem dX3_twin_248 : decode cX3_twin 248 = .ok (.iload_n 1, 1) := by decide +kernel
theorem dX3_twin_249 : decode cX3_twin 249 = .ok (.aload_n 0, 1) := by decide +kernel
theorem dX3_twin_250 : decode cX3_twin 250 = .ok (.getfield 18, 3) := by decide +kernel
theorem dX3_twin_253 : decode cX3_twin 253 = .ok (.iload_n 2, 1) := by decide +kernel
theorem dX3_twin_254 : decode cX3_twin 254 = .ok (.iload_n 3, 1) := by decide +kernel
theorem dX3_twin_255 : decode cX3_twin 255 = .ok (.invokevirtual 62, 3) := by decide +kernel
theorem dX3_twin_258 : decode cX3_twin 258 = .ok (.iastore, 1) := by decide +kernel
theorem dX3_twin_259 : decode cX3_twin 259 = .ok (.aload_n 0, 1) := by decide +kernel
theorem dX3_twin_260 : decode cX3_twin 260 = .ok (.getfield 31, 3) := by decide +kernel
theorem dX3_twin_263 : decode cX3_twin 263 = .ok (.iload_n 1, 1) := by decide +kernel
theorem dX3_twin_264 : decode cX3_twin 264 = .ok (.iaload, 1) := by decide +kernel
theorem dX3_twin_265 : decode cX3_twin 265 = .ok (.ifCond .ge 7, 3) := by decide +kernel
theorem dX3_twin_268 : decode cX3_twin 268 = .ok (.iconst (-1), 1) := by decide +kernel
theorem dX3_twin_269 : decode cX3_twin 269 = .ok (.goto 13, 3) := by decide +kernel
theorem dX3_twin_272 : decode cX3_twin 272 = .ok (.aload_n 0, 1) := by decide +kernel
theorem dX3_twin_273 : decode cX3_twin 273 = .ok (.getfield 18, 3) := by decide +kernel
theorem dX3_twin_276 : decode cX3_twin 276 = .ok (.iload 4, 2) := by decide +kernel
theorem dX3_twin_278 : decode cX3_twin 278 = .ok (.iload_n 3, 1) := by decide +kernel
theorem dX3_twin_279 : decode cX3_twin 279 = .ok (.invokevirtual 62, 3) := by decide +kernel
theorem dX3_twin_282 : decode cX3_twin 282 = .ok (.istore 6, 2) := by decide +kernel
theorem dX3_twin_284 : decode cX3_twin 284 = .ok (.iload 6, 2) := by decide +kernel
theorem dX3_twin_286 : decode cX3_twin 286 = .ok (.ifCond .ge 7, 3) := by decide +kernel
theorem dX3_twin_289 : decode cX3_twin 289 = .ok (.iconst (-1), 1) := by decide +kernel
theorem dX3_twin_290 : decode cX3_twin 290 = .ok (.goto 13, 3) := by decide +kernel
theorem dX3_twin_293 : decode cX3_twin 293 = .ok (.aload_n 0, 1) := by decide +kernel
theorem dX3_twin_294 : decode cX3_twin 294 = .ok (.getfield 18, 3) := by decide +kernel
theorem dX3_twin_297 : decode cX3_twin 297 = .ok (.iload 5, 2) := by decide +kernel
theorem dX3_twin_299 : decode cX3_twin 299 = .ok (.iload_n 2, 1) := by decide +kernel
theorem dX3_twin_300 : decode cX3_twin 300 = .ok (.invokevirtual 62, 3) := by decide +kernel
theorem dX3_twin_303 : decode cX3_twin 303 = .ok (.istore 7, 2) := by decide +kernel
theorem dX3_twin_305 : decode cX3_twin 305 = .ok (.aload_n 0, 1) := by decide +kernel
theorem dX3_twin_306 : decode cX3_twin 306 = .ok (.getfield 18, 3) := by decide +kernel
theorem dX3_twin_309 : decode cX3_twin 309 = .ok (.iload 6, 2) := by decide +kernel
theorem dX3_twin_311 : decode cX3_twin 311 = .ok (.iload 7, 2) := by decide +kernel
theorem dX3_twin_313 : decode cX3_twin 313 = .ok (.invokevirtual 68, 3) := by decide +kernel
theorem dX3_twin_316 : decode cX3_twin 316 = .ok (.istore 8, 2) := by decide +kernel
theorem dX3_twin_318 : decode cX3_twin 318 = .ok (.iload 8, 2) := by decide +kernel
theorem dX3_twin_320 : decode cX3_twin 320 = .ok (.ifCond .ge 7, 3) := by decide +kernel
theorem dX3_twin_323 : decode cX3_twin 323 = .ok (.iconst (-1), 1) := by decide +kernel
theorem dX3_twin_324 : decode cX3_twin 324 = .ok (.goto 14, 3) := by decide +kernel
theorem dX3_twin_327 : decode cX3_twin 327 = .ok (.aload_n 0, 1) := by decide +kernel
theorem dX3_twin_328 : decode cX3_twin 328 = .ok (.getfield 18, 3) := by decide +kernel
theorem dX3_twin_331 : decode cX3_twin 331 = .ok (.iload 4, 2) := by decide +kernel
theorem dX3_twin_333 : decode cX3_twin 333 = .ok (.iload 5, 2) := by decide +kernel
theorem dX3_twin_335 : decode cX3_twin 335 = .ok (.invokevirtual 62, 3) := by decide +kernel
theorem dX3_twin_338 : decode cX3_twin 338 = .ok (.istore 9, 2) := by decide +kernel
theorem dX3_twin_340 : decode cX3_twin 340 = .ok (.aload_n 0, 1) := by decide +kernel
theorem dX3_twin_341 : decode cX3_twin 341 = .ok (.getfield 34, 3) := by decide +kernel
theorem dX3_twin_344 : decode cX3_twin 344 = .ok (.iload_n 1, 1) := by decide +kernel
theorem dX3_twin_345 : decode cX3_twin 345 = .ok (.aload_n 0, 1) := by decide +kernel
theorem dX3_twin_346 : decode cX3_twin 346 = .ok (.getfield 18, 3) := by decide +kernel
theorem dX3_twin_349 : decode cX3_twin 349 = .ok (.iload 8, 2) := by decide +kernel
theorem dX3_twin_351 : decode cX3_twin 351 = .ok (.iload 9, 2) := by decide +kernel
theorem dX3_twin_353 : decode cX3_twin 353 = .ok (.invokevirtual 68, 3) := by decide +kernel
theorem dX3_twin_356 : decode cX3_twin 356 = .ok (.iastore, 1) := by decide +kernel
theorem dX3_twin_357 : decode cX3_twin 357 = .ok (.aload_n 0, 1) := by decide +kernel
theorem dX3_twin_358 : decode cX3_twin 358 = .ok (.aload_n 0, 1) := by decide +kernel
theorem dX3_twin_359 : decode cX3_twin 359 = .ok (.getfield 34, 3) := by decide +kernel
theorem dX3_twin_362 : decode cX3_twin 362 = .ok (.iload_n 1, 1) := by decide +kernel
theorem dX3_twin_363 : decode cX3_twin 363 = .ok (.iaload, 1) := by decide +kernel
theorem dX3_twin_364 : decode cX3_twin 364 = .ok (.ifCond .lt 7, 3) := by decide +kernel
theorem dX3_twin_367 : decode cX3_twin 367 = .ok (.iconst 1, 1) := by decide +kernel
theorem dX3_twin_368 : decode cX3_twin 368 = .ok (.goto 4, 3) := by decide +kernel
theorem dX3_twin_371 : decode cX3_twin 371 = .ok (.iconst 0, 1) := by decide +kernel
theorem dX3_twin_372 : decode cX3_twin 372 = .ok (.putfield 51, 3) := by decide +kernel
theorem dX3_twin_375 : decode cX3_twin 375 = .ok (.iinc 1 1, 3) := by decide +kernel
theorem dX3_twin_378 : decode cX3_twin 378 = .ok (.goto (-234), 3) := by decide +kernel
theorem dX3_twin_381 : decode cX3_twin 381 = .ok (.aload_n 0, 1) := by decide +kernel
theorem dX3_twin_382 : decode cX3_twin 382 = .ok (.getfield 51, 3) := by decide +kernel
theorem dX3_twin_385 : decode cX3_twin 385 = .ok (.ifCond .eq 13, 3) := by decide +kernel
theorem dX3_twin_388 : decode cX3_twin 388 = .ok (.aload_n 0, 1) := by decide +kernel
theorem dX3_twin_389 : decode cX3_twin 389 = .ok (.getfield 18, 3) := by decide +kernel
theorem dX3_twin_392 : decode cX3_twin 392 = .ok (.getfield 78, 3) := by decide +kernel
theorem dX3_twin_395 : decode cX3_twin 395 = .ok (.goto 4, 3) := by decide +kernel
theorem dX3_twin_398 : decode cX3_twin 398 = .ok (.iconst (-1), 1) := by decide +kernel
theorem dX3_twin_399 : decode cX3_twin 399 = .ok (.ireturn, 1) := by decide +kernel
set_option maxRecDepth 20000 in
theorem ggX3_twinOf_X2_has : GoodIn wsX3_twinOf wsX2_has := goodIn_r _ [9, 10, 29, 30, 31, 32, 33] (by decide +kernel) (by decide +kernel)
set_option maxRecDepth 20000 in
theorem gX3_twinOf_X2_has : GoodIn wsX3_twinOf (wsV RX3 58 RX2 yX2_has wsX2_has) := goodIn_app (goodIn_of _ (by decide +kernel)) ggX3_twinOf_X2_has
set_option maxRecDepth 20000 in
theorem ggX3_twinOf_X3_with : GoodIn wsX3_twinOf wsX3_with := goodIn_r _ [14, 15, 16, 8, 17] (by decide +kernel) (by decide +kernel)
set_option maxRecDepth 20000 in
theorem gX3_twinOf_X3_with : GoodIn wsX3_twinOf (va_wsS RX3 98 yX3_with wsX3_with) := goodIn_app (goodIn_of _ (by decide +kernel)) ggX3_twinOf_X3_with
theorem dX3_twinOf_0 : decode cX3_twinOf 0 = .ok (.aload_n 0, 1) := by decide +kernel
theorem dX3_twinOf_1 : decode cX3_twinOf 1 = .ok (.getfield 51, 3) := by decide +kernel
theorem dX3_twinOf_4 : decode cX3_twinOf 4 = .ok (.ifCond .eq 14, 3) := by decide +kernel
theorem dX3_twinOf_7 : decode cX3_twinOf 7 = .ok (.aload_n 0, 1) := by decide +kernel
theorem dX3_twinOf_8 : decode cX3_twinOf 8 = .ok (.getfield 14, 3) := by decide +kernel
theorem dX3_twinOf_11 : decode cX3_twinOf 11 = .ok (.iload_n 1, 1) := by decide +kernel
theorem dX3_twinOf_12 : decode cX3_twinOf 12 = .ok (.invokevirtual 58, 3) := by decide +kernel
theorem dX3_twinOf_15 : decode cX3_twinOf 15 = .ok (.ifCond .ne 7, 3) := by decide +kernel
theorem dX3_twinOf_18 : decode cX3_twinOf 18 = .ok (.iconst (-1), 1) := by decide +kernel
theorem dX3_twinOf_19 : decode cX3_twinOf 19 = .ok (.goto 26, 3) := by decide +kernel
theorem dX3_twinOf_22 : decode cX3_twinOf 22 = .ok (.iload_n 2, 1) := by decide +kernel
theorem dX3_twinOf_23 : decode cX3_twinOf 23 = .ok (.ifCond .eq 14, 3) := by decide +kernel
theorem dX3_twinOf_26 : decode cX3_twinOf 26 = .ok (.aload_n 0, 1) := by decide +kernel
theorem dX3_twinOf_27 : decode cX3_twinOf 27 = .ok (.getfield 34, 3) := by decide +kernel
theorem dX3_twinOf_30 : decode cX3_twinOf 30 = .ok (.iload_n 1, 1) := by decide +kernel
theorem dX3_twinOf_31 : decode cX3_twinOf 31 = .ok (.iconst 2, 1) := by decide +kernel
theorem dX3_twinOf_32 : decode cX3_twinOf 32 = .ok (.idiv, 1) := by decide +kernel
theorem dX3_twinOf_33 : decode cX3_twinOf 33 = .ok (.iaload, 1) := by decide +kernel
theorem dX3_twinOf_34 : decode cX3_twinOf 34 = .ok (.goto 11, 3) := by decide +kernel
theorem dX3_twinOf_37 : decode cX3_twinOf 37 = .ok (.aload_n 0, 1) := by decide +kernel
theorem dX3_twinOf_38 : decode cX3_twinOf 38 = .ok (.getfield 31, 3) := by decide +kernel
theorem dX3_twinOf_41 : decode cX3_twinOf 41 = .ok (.iload_n 1, 1) := by decide +kernel
theorem dX3_twinOf_42 : decode cX3_twinOf 42 = .ok (.invokestatic 98, 3) := by decide +kernel
theorem dX3_twinOf_45 : decode cX3_twinOf 45 = .ok (.ireturn, 1) := by decide +kernel
theorem dX3_set_0 : decode cX3_set 0 = .ok (.iload_n 1, 1) := by decide +kernel
theorem dX3_set_1 : decode cX3_set 1 = .ok (.ifCond .lt 11, 3) := by decide +kernel
theorem dX3_set_4 : decode cX3_set 4 = .ok (.iload_n 1, 1) := by decide +kernel
theorem dX3_set_5 : decode cX3_set 5 = .ok (.aload_n 0, 1) := by decide +kernel
theorem dX3_set_6 : decode cX3_set 6 = .ok (.getfield 43, 3) := by decide +kernel
theorem dX3_set_9 : decode cX3_set 9 = .ok (.if_icmp .lt 5, 3) := by decide +kernel
theorem dX3_set_12 : decode cX3_set 12 = .ok (.iconst (-1), 1) := by decide +kernel
theorem dX3_set_13 : decode cX3_set 13 = .ok (.ireturn, 1) := by decide +kernel
theorem dX3_set_14 : decode cX3_set 14 = .ok (.iload_n 2, 1) := by decide +kernel
theorem dX3_set_15 : decode cX3_set 15 = .ok (.ifCond .eq 10, 3) := by decide +kernel
theorem dX3_set_18 : decode cX3_set 18 = .ok (.aload_n 0, 1) := by decide +kernel
theorem dX3_set_19 : decode cX3_set 19 = .ok (.getfield 28, 3) := by decide +kernel
theorem dX3_set_22 : decode cX3_set 22 = .ok (.goto 7, 3) := by decide +kernel
theorem dX3_set_25 : decode cX3_set 25 = .ok (.aload_n 0, 1) := by decide +kernel
theorem dX3_set_26 : decode cX3_set 26 = .ok (.getfield 25, 3) := by decide +kernel
theorem dX3_set_29 : decode cX3_set 29 = .ok (.astore 4, 2) := by decide +kernel
theorem dX3_set_31 : decode cX3_set 31 = .ok (.aload 4, 2) := by decide +kernel
theorem dX3_set_33 : decode cX3_set 33 = .ok (.iload_n 1, 1) := by decide +kernel
theorem dX3_set_34 : decode cX3_set 34 = .ok (.iaload, 1) := by decide +kernel
theorem dX3_set_35 : decode cX3_set 35 = .ok (.istore 5, 2) := by decide +kernel
theorem dX3_set_37 : decode cX3_set 37 = .ok (.aload 4, 2) := by decide +kernel
theorem dX3_set_39 : decode cX3_set 39 = .ok (.iload_n 1, 1) := by decide +kernel
theorem dX3_set_40 : decode cX3_set 40 = .ok (.iload_n 3, 1) := by decide +kernel
theorem dX3_set_41 : decode cX3_set 41 = .ok (.ifCond .ne 7, 3) := by decide +kernel
theorem dX3_set_44 : decode cX3_set 44 = .ok (.iconst 0, 1) := by decide +kernel
theorem dX3_set_45 : decode cX3_set 45 = .ok (.goto 4, 3) := by decide +kernel
theorem dX3_set_48 : decode cX3_set 48 = .ok (.iconst 1, 1) := by decide +kernel
theorem dX3_set_49 : decode cX3_set 49 = .ok (.iastore, 1) := by decide +kernel
theorem dX3_set_50 : decode cX3_set 50 = .ok (.iload 5, 2) := by decide +kernel
theorem dX3_set_52 : decode cX3_set 52 = .ok (.ireturn, 1) := by decide +kernel
theorem dX3_of_0 : decode cX3_of 0 = .ok (.iload_n 1, 1) := by decide +kernel
theorem dX3_of_1 : decode cX3_of 1 = .ok (.iconst 2, 1) := by decide +kernel
theorem dX3_of_2 : decode cX3_of 2 = .ok (.irem, 1) := by decide +kernel
theorem dX3_of_3 : decode cX3_of 3 = .ok (.ifCond .ne 11, 3) := by decide +kernel
theorem dX3_of_6 : decode cX3_of 6 = .ok (.aload_n 0, 1) := by decide +kernel
theorem dX3_of_7 : decode cX3_of 7 = .ok (.iload_n 1, 1) := by decide +kernel
theorem dX3_of_8 : decode cX3_of 8 = .ok (.iconst 2, 1) := by decide +kernel
theorem dX3_of_9 : decode cX3_of 9 = .ok (.idiv, 1) := by decide +kernel
theorem dX3_of_10 : decode cX3_of 10 = .ok (.iaload, 1) := by decide +kernel
theorem dX3_of_11 : decode cX3_of 11 = .ok (.goto 10, 3) := by decide +kernel
theorem dX3_of_14 : decode cX3_of 14 = .ok (.iconst 1, 1) := by decide +kernel
theorem dX3_of_15 : decode cX3_of 15 = .ok (.aload_n 0, 1) := by decide +kernel
theorem dX3_of_16 : decode cX3_of 16 = .ok (.iload_n 1, 1) := by decide +kernel
theorem dX3_of_17 : decode cX3_of 17 = .ok (.iconst 2, 1) := by decide +kernel
theorem dX3_of_18 : decode cX3_of 18 = .ok (.idiv, 1) := by decide +kernel
theorem dX3_of_19 : decode cX3_of 19 = .ok (.iaload, 1) := by decide +kernel
theorem dX3_of_20 : decode cX3_of 20 = .ok (.isub, 1) := by decide +kernel
theorem dX3_of_21 : decode cX3_of 21 = .ok (.ireturn, 1) := by decide +kernel
set_option maxRecDepth 20000 in
theorem ggX3_reckon_X3_of : GoodIn wsX3_reckon wsX3_of := goodIn_r _ [8] (by decide +kernel) (by decide +kernel)
set_option maxRecDepth 20000 in
theorem gX3_reckon_X3_of : GoodIn wsX3_reckon (va_wsS RX3 102 yX3_of wsX3_of) := goodIn_app (goodIn_of _ (by decide +kernel)) ggX3_reckon_X3_of
theorem dX3_reckon_0 : decode cX3_reckon 0 = .ok (.iconst 1, 1) := by decide +kernel
theorem dX3_reckon_1 : decode cX3_reckon 1 = .ok (.istore_n 2, 1) := by decide +kernel
theorem dX3_reckon_2 : decode cX3_reckon 2 = .ok (.iload_n 2, 1) := by decide +kernel
theorem dX3_reckon_3 : decode cX3_reckon 3 = .ok (.aload_n 1, 1) := by decide +kernel
theorem dX3_reckon_4 : decode cX3_reckon 4 = .ok (.getfield 78, 3) := by decide +kernel
theorem dX3_reckon_7 : decode cX3_reckon 7 = .ok (.if_icmp .ge 60, 3) := by decide +kernel
theorem dX3_reckon_10 : decode cX3_reckon 10 = .ok (.aload_n 0, 1) := by decide +kernel
theorem dX3_reckon_11 : decode cX3_reckon 11 = .ok (.getfield 37, 3) := by decide +kernel
theorem dX3_reckon_14 : decode cX3_reckon 14 = .ok (.iload_n 2, 1) := by decide +kernel
theorem dX3_reckon_15 : decode cX3_reckon 15 = .ok (.aload_n 1, 1) := by decide +kernel
theorem dX3_reckon_16 : decode cX3_reckon 16 = .ok (.getfield 81, 3) := by decide +kernel
theorem dX3_reckon_19 : decode cX3_reckon 19 = .ok (.iload_n 2, 1) := by decide +kernel
theorem dX3_reckon_20 : decode cX3_reckon 20 = .ok (.iaload, 1) := by decide +kernel
theorem dX3_reckon_21 : decode cX3_reckon 21 = .ok (.ifCond .ge 12, 3) := by decide +kernel
theorem dX3_reckon_24 : decode cX3_reckon 24 = .ok (.aload_n 0, 1) := by decide +kernel
theorem dX3_reckon_25 : decode cX3_reckon 25 = .ok (.getfield 37, 3) := by decide +kernel
theorem dX3_reckon_28 : decode cX3_reckon 28 = .ok (.iload_n 2, 1) := by decide +kernel
theorem dX3_reckon_29 : decode cX3_reckon 29 = .ok (.iaload, 1) := by decide +kernel
theorem dX3_reckon_30 : decode cX3_reckon 30 = .ok (.goto 30, 3) := by decide +kernel
theorem dX3_reckon_33 : decode cX3_reckon 33 = .ok (.aload_n 0, 1) := by decide +kernel
theorem dX3_reckon_34 : decode cX3_reckon 34 = .ok (.getfield 37, 3) := by decide +kernel
theorem dX3_reckon_37 : decode cX3_reckon 37 = .ok (.aload_n 1, 1) := by decide +kernel
theorem dX3_reckon_38 : decode cX3_reckon 38 = .ok (.getfield 81, 3) := by decide +kernel
theorem dX3_reckon_41 : decode cX3_reckon 41 = .ok (.iload_n 2, 1) := by decide +kernel
theorem dX3_reckon_42 : decode cX3_reckon 42 = .ok (.iaload, 1) := by decide +kernel
theorem dX3_reckon_43 : decode cX3_reckon 43 = .ok (.invokestatic 102, 3) := by decide +kernel
theorem dX3_reckon_46 : decode cX3_reckon 46 = .ok (.aload_n 0, 1) := by decide +kernel
theorem dX3_reckon_47 : decode cX3_reckon 47 = .ok (.getfield 37, 3) := by decide +kernel
theorem dX3_reckon_50 : decode cX3_reckon 50 = .ok (.aload_n 1, 1) := by decide +kernel
theorem dX3_reckon_51 : decode cX3_reckon 51 = .ok (.getfield 84, 3) := by decide +kernel
theorem dX3_reckon_54 : decode cX3_reckon 54 = .ok (.iload_n 2, 1) := by decide +kernel
theorem dX3_reckon_55 : decode cX3_reckon 55 = .ok (.iaload, 1) := by decide +kernel
theorem dX3_reckon_56 : decode cX3_reckon 56 = .ok (.invokestatic 102, 3) := by decide +kernel
theorem dX3_reckon_59 : decode cX3_reckon 59 = .ok (.imul, 1) := by decide +kernel
theorem dX3_reckon_60 : decode cX3_reckon 60 = .ok (.iastore, 1) := by decide +kernel
theorem dX3_reckon_61 : decode cX3_reckon 61 = .ok (.iinc 2 1, 3) := by decide +kernel
theorem dX3_reckon_64 : decode cX3_reckon 64 = .ok (.goto (-62), 3) := by decide +kernel
theorem dX3_reckon_67 : decode cX3_reckon 67 = .ok (.return_, 1) := by decide +kernel
set_option maxRecDepth 20000 in
theorem ggX3_room_X2_more : GoodIn wsX3_room wsX2_more := goodIn_r _ [5, 6, 7, 8, 9, 10] (by decide +kernel) (by decide +kernel)
set_option maxRecDepth 20000 in
theorem gX3_room_X2_more_n94 : GoodIn wsX3_room (wsX2_more) := ggX3_room_X2_more
theorem dX3_room_0 : decode cX3_room 0 = .ok (.aload_n 0, 1) := by decide +kernel
theorem dX3_room_1 : decode cX3_room 1 = .ok (.getfield 37, 3) := by decide +kernel
theorem dX3_room_4 : decode cX3_room 4 = .ok (.arraylength, 1) := by decide +kernel
theorem dX3_room_5 : decode cX3_room 5 = .ok (.iload_n 1, 1) := by decide +kernel
theorem dX3_room_6 : decode cX3_room 6 = .ok (.if_icmp .ge 28, 3) := by decide +kernel
theorem dX3_room_9 : decode cX3_room 9 = .ok (.aload_n 0, 1) := by decide +kernel
theorem dX3_room_10 : decode cX3_room 10 = .ok (.aload_n 0, 1) := by decide +kernel
theorem dX3_room_11 : decode cX3_room 11 = .ok (.getfield 37, 3) := by decide +kernel
theorem dX3_room_14 : decode cX3_room 14 = .ok (.invokestatic 94, 3) := by decide +kernel
theorem dX3_room_17 : decode cX3_room 17 = .ok (.putfield 37, 3) := by decide +kernel
theorem dX3_room_20 : decode cX3_room 20 = .ok (.aload_n 0, 1) := by decide +kernel
theorem dX3_room_21 : decode cX3_room 21 = .ok (.aload_n 0, 1) := by decide +kernel
theorem dX3_room_22 : decode cX3_room 22 = .ok (.getfield 40, 3) := by decide +kernel
theorem dX3_room_25 : decode cX3_room 25 = .ok (.invokestatic 94, 3) := by decide +kernel
theorem dX3_room_28 : decode cX3_room 28 = .ok (.putfield 40, 3) := by decide +kernel
theorem dX3_room_31 : decode cX3_room 31 = .ok (.goto (-31), 3) := by decide +kernel
theorem dX3_room_34 : decode cX3_room 34 = .ok (.aload_n 0, 1) := by decide +kernel
theorem dX3_room_35 : decode cX3_room 35 = .ok (.getfield 37, 3) := by decide +kernel
theorem dX3_room_38 : decode cX3_room 38 = .ok (.iconst 0, 1) := by decide +kernel
theorem dX3_room_39 : decode cX3_room 39 = .ok (.iconst 0, 1) := by decide +kernel
theorem dX3_room_40 : decode cX3_room 40 = .ok (.iastore, 1) := by decide +kernel
theorem dX3_room_41 : decode cX3_room 41 = .ok (.aload_n 0, 1) := by decide +kernel
theorem dX3_room_42 : decode cX3_room 42 = .ok (.getfield 40, 3) := by decide +kernel
theorem dX3_room_45 : decode cX3_room 45 = .ok (.iconst 0, 1) := by decide +kernel
theorem dX3_room_46 : decode cX3_room 46 = .ok (.iconst 0, 1) := by decide +kernel
theorem dX3_room_47 : decode cX3_room 47 = .ok (.iastore, 1) := by decide +kernel
theorem dX3_room_48 : decode cX3_room 48 = .ok (.return_, 1) := by decide +kernel
set_option maxRecDepth 20000 in
theorem ggX3_reckonNet_X3_room : GoodIn wsX3_reckonNet wsX3_room := goodIn_r _ [11, 4, 12, 13, 14, 15, 16, 17, 18, 19, 20, 30, 31, 32, 33, 34, 35, 36, 37, 38, 39, 40] (by decide +kernel) (by decide +kernel)
set_option maxRecDepth 20000 in
theorem gX3_reckonNet_X3_room : GoodIn wsX3_reckonNet (wsV RX3 105 RX3 yX3_room wsX3_room) := goodIn_app (goodIn_of _ (by decide +kernel)) ggX3_reckonNet_X3_room
set_option maxRecDepth 20000 in
theorem ggX3_reckonNet_X3_reckon : GoodIn wsX3_reckonNet wsX3_reckon := goodIn_r _ [24, 2, 4, 25, 26, 27, 28, 10, 29, 41, 42, 43, 44, 45, 30, 31, 32, 33, 34, 35, 36, 37, 38, 39, 40] (by decide +kernel) (by decide +kernel)
set_option maxRecDepth 20000 in
theorem gX3_reckonNet_X3_reckon : GoodIn wsX3_reckonNet (wsV RX3 108 RX3 yX3_reckon wsX3_reckon) := goodIn_app (goodIn_of _ (by decide +kernel)) ggX3_reckonNet_X3_reckon
theorem dX3_reckonNet_0 : decode cX3_reckonNet 0 = .ok (.aload_n 0, 1) := by decide +kernel
theorem dX3_reckonNet_1 : decode cX3_reckonNet 1 = .ok (.aload_n 0, 1) := by decide +kernel
theorem dX3_reckonNet_2 : decode cX3_reckonNet 2 = .ok (.getfield 14, 3) := by decide +kernel
theorem dX3_reckonNet_5 : decode cX3_reckonNet 5 = .ok (.getfield 78, 3) := by decide +kernel
theorem dX3_reckonNet_8 : decode cX3_reckonNet 8 = .ok (.invokevirtual 105, 3) := by decide +kernel
theorem dX3_reckonNet_11 : decode cX3_reckonNet 11 = .ok (.iconst 0, 1) := by decide +kernel
theorem dX3_reckonNet_12 : decode cX3_reckonNet 12 = .ok (.istore_n 1, 1) := by decide +kernel
theorem dX3_reckonNet_13 : decode cX3_reckonNet 13 = .ok (.iload_n 1, 1) := by decide +kernel
theorem dX3_reckonNet_14 : decode cX3_reckonNet 14 = .ok (.aload_n 0, 1) := by decide +kernel
theorem dX3_reckonNet_15 : decode cX3_reckonNet 15 = .ok (.getfield 43, 3) := by decide +kernel
theorem dX3_reckonNet_18 : decode cX3_reckonNet 18 = .ok (.if_icmp .ge 26, 3) := by decide +kernel
theorem dX3_reckonNet_21 : decode cX3_reckonNet 21 = .ok (.aload_n 0, 1) := by decide +kernel
theorem dX3_reckonNet_22 : decode cX3_reckonNet 22 = .ok (.getfield 37, 3) := by decide +kernel
theorem dX3_reckonNet_25 : decode cX3_reckonNet 25 = .ok (.aload_n 0, 1) := by decide +kernel
theorem dX3_reckonNet_26 : decode cX3_reckonNet 26 = .ok (.getfield 21, 3) := by decide +kernel
theorem dX3_reckonNet_29 : decode cX3_reckonNet 29 = .ok (.iload_n 1, 1) := by decide +kernel
theorem dX3_reckonNet_30 : decode cX3_reckonNet 30 = .ok (.iaload, 1) := by decide +kernel
theorem dX3_reckonNet_31 : decode cX3_reckonNet 31 = .ok (.aload_n 0, 1) := by decide +kernel
theorem dX3_reckonNet_32 : decode cX3_reckonNet 32 = .ok (.getfield 25, 3) := by decide +kernel
theorem dX3_reckonNet_35 : decode cX3_reckonNet 35 = .ok (.iload_n 1, 1) := by decide +kernel
theorem dX3_reckonNet_36 : decode cX3_reckonNet 36 = .ok (.iaload, 1) := by decide +kernel
theorem dX3_reckonNet_37 : decode cX3_reckonNet 37 = .ok (.iastore, 1) := by decide +kernel
theorem dX3_reckonNet_38 : decode cX3_reckonNet 38 = .ok (.iinc 1 1, 3) := by decide +kernel
theorem dX3_reckonNet_41 : decode cX3_reckonNet 41 = .ok (.goto (-28), 3) := by decide +kernel
theorem dX3_reckonNet_44 : decode cX3_reckonNet 44 = .ok (.aload_n 0, 1) := by decide +kernel
theorem dX3_reckonNet_45 : decode cX3_reckonNet 45 = .ok (.aload_n 0, 1) := by decide +kernel
theorem dX3_reckonNet_46 : decode cX3_reckonNet 46 = .ok (.getfield 14, 3) := by decide +kernel
theorem dX3_reckonNet_49 : decode cX3_reckonNet 49 = .ok (.invokevirtual 108, 3) := by decide +kernel
theorem dX3_reckonNet_52 : decode cX3_reckonNet 52 = .ok (.return_, 1) := by decide +kernel
set_option maxRecDepth 20000 in
theorem ggX3_bit_X2_has : GoodIn wsX3_bit wsX2_has := goodIn_r _ [13, 14, 53, 54, 55, 56, 57] (by decide +kernel) (by decide +kernel)
set_option maxRecDepth 20000 in
theorem gX3_bit_X2_has : GoodIn wsX3_bit (wsV RX3 58 RX2 yX2_has wsX2_has) := goodIn_app (goodIn_of _ (by decide +kernel)) ggX3_bit_X2_has
set_option maxRecDepth 20000 in
theorem ggX3_bit_X3_reckonNet : GoodIn wsX3_bit wsX3_reckonNet := goodIn_r _ [19, 3, 5, 6, 4, 20, 7, 21, 22, 23, 18, 24, 25, 26, 12, 27, 28, 29, 30, 31, 32, 33, 34, 35, 36, 37, 38, 39, 40, 41, 42, 43, 44, 45, 46, 47, 48, 49, 50, 51, 52, 53, 54, 55, 56, 57] (by decide +kernel) (by decide +kernel)
set_option maxRecDepth 20000 in
theorem gX3_bit_X3_reckonNet : GoodIn wsX3_bit (wsV RX3 112 RX3 yX3_reckonNet wsX3_reckonNet) := goodIn_app (goodIn_of _ (by decide +kernel)) ggX3_bit_X3_reckonNet
set_option maxRecDepth 20000 in
theorem ggX3_bit_X3_of : GoodIn wsX3_bit wsX3_of := goodIn_r _ [41] (by decide +kernel) (by decide +kernel)
set_option maxRecDepth 20000 in
theorem gX3_bit_X3_of : GoodIn wsX3_bit (va_wsS RX3 102 yX3_of wsX3_of) := goodIn_app (goodIn_of _ (by decide +kernel)) ggX3_bit_X3_of
set_option maxRecDepth 20000 in
theorem ggX3_bit_X3_room : GoodIn wsX3_bit wsX3_room := goodIn_r _ [24, 4, 25, 26, 12, 27, 28, 29, 30, 31, 32, 42, 43, 44, 45, 46, 47, 48, 49, 50, 51, 52] (by decide +kernel) (by decide +kernel)
set_option maxRecDepth 20000 in
theorem gX3_bit_X3_room : GoodIn wsX3_bit (wsV RX3 105 RX3 yX3_room wsX3_room) := goodIn_app (goodIn_of _ (by decide +kernel)) ggX3_bit_X3_room
set_option maxRecDepth 20000 in
theorem ggX3_bit_X3_reckon : GoodIn wsX3_bit wsX3_reckon := goodIn_r _ [36, 5, 4, 37, 38, 39, 40, 18, 41, 53, 54, 55, 56, 57, 42, 43, 44, 45, 46, 47, 48, 49, 50, 51, 52] (by decide +kernel) (by decide +kernel)
set_option maxRecDepth 20000 in
theorem gX3_bit_X3_reckon : GoodIn wsX3_bit (wsV RX3 108 RX3 yX3_reckon wsX3_reckon) := goodIn_app (goodIn_of _ (by decide +kernel)) ggX3_bit_X3_reckon
theorem dX3_bit_0 : decode cX3_bit 0 = .ok (.iload_n 1, 1) := by decide +kernel
theorem dX3_bit_1 : decode cX3_bit 1 = .ok (.ifCond .eq 24, 3) := by decide +kernel
theorem dX3_bit_4 : decode cX3_bit 4 = .ok (.aload_n 0, 1) := by decide +kernel
theorem dX3_bit_5 : decode cX3_bit 5 = .ok (.getfield 51, 3) := by decide +kernel
theorem dX3_bit_8 : decode cX3_bit 8 = .ok (.ifCond .eq 28, 3) := by decide +kernel
theorem dX3_bit_11 : decode cX3_bit 11 = .ok (.aload_n 0, 1) := by decide +kernel
theorem dX3_bit_12 : decode cX3_bit 12 = .ok (.getfield 18, 3) := by decide +kernel
theorem dX3_bit_15 : decode cX3_bit 15 = .ok (.iload_n 2, 1) := by decide +kernel
theorem dX3_bit_16 : decode cX3_bit 16 = .ok (.invokevirtual 58, 3) := by decide +kernel
theorem dX3_bit_19 : decode cX3_bit 19 = .ok (.ifCond .ne 19, 3) := by decide +kernel
theorem dX3_bit_22 : decode cX3_bit 22 = .ok (.goto 14, 3) := by decide +kernel
theorem dX3_bit_25 : decode cX3_bit 25 = .ok (.aload_n 0, 1) := by decide +kernel
theorem dX3_bit_26 : decode cX3_bit 26 = .ok (.getfield 14, 3) := by decide +kernel
theorem dX3_bit_29 : decode cX3_bit 29 = .ok (.iload_n 2, 1) := by decide +kernel
theorem dX3_bit_30 : decode cX3_bit 30 = .ok (.invokevirtual 58, 3) := by decide +kernel
theorem dX3_bit_33 : decode cX3_bit 33 = .ok (.ifCond .ne 5, 3) := by decide +kernel
theorem dX3_bit_36 : decode cX3_bit 36 = .ok (.iconst (-1), 1) := by decide +kernel
theorem dX3_bit_37 : decode cX3_bit 37 = .ok (.ireturn, 1) := by decide +kernel
theorem dX3_bit_38 : decode cX3_bit 38 = .ok (.iload_n 1, 1) := by decide +kernel
theorem dX3_bit_39 : decode cX3_bit 39 = .ok (.ifCond .ne 16, 3) := by decide +kernel
theorem dX3_bit_42 : decode cX3_bit 42 = .ok (.aload_n 0, 1) := by decide +kernel
theorem dX3_bit_43 : decode cX3_bit 43 = .ok (.invokevirtual 112, 3) := by decide +kernel
theorem dX3_bit_46 : decode cX3_bit 46 = .ok (.aload_n 0, 1) := by decide +kernel
theorem dX3_bit_47 : decode cX3_bit 47 = .ok (.getfield 37, 3) := by decide +kernel
theorem dX3_bit_50 : decode cX3_bit 50 = .ok (.iload_n 2, 1) := by decide +kernel
theorem dX3_bit_51 : decode cX3_bit 51 = .ok (.invokestatic 102, 3) := by decide +kernel
theorem dX3_bit_54 : decode cX3_bit 54 = .ok (.ireturn, 1) := by decide +kernel
theorem dX3_bit_55 : decode cX3_bit 55 = .ok (.aload_n 0, 1) := by decide +kernel
theorem dX3_bit_56 : decode cX3_bit 56 = .ok (.aload_n 0, 1) := by decide +kernel
theorem dX3_bit_57 : decode cX3_bit 57 = .ok (.getfield 18, 3) := by decide +kernel
theorem dX3_bit_60 : decode cX3_bit 60 = .ok (.getfield 78, 3) := by decide +kernel
theorem dX3_bit_63 : decode cX3_bit 63 = .ok (.invokevirtual 105, 3) := by decide +kernel
theorem dX3_bit_66 : decode cX3_bit 66 = .ok (.iconst 0, 1) := by decide +kernel
theorem dX3_bit_67 : decode cX3_bit 67 = .ok (.istore_n 3, 1) := by decide +kernel
theorem dX3_bit_68 : decode cX3_bit 68 = .ok (.iload_n 3, 1) := by decide +kernel
theorem dX3_bit_69 : decode cX3_bit 69 = .ok (.aload_n 0, 1) := by decide +kernel
theorem dX3_bit_70 : decode cX3_bit 70 = .ok (.getfield 43, 3) := by decide +kernel
theorem dX3_bit_73 : decode cX3_bit 73 = .ok (.if_icmp .ge 42, 3) := by decide +kernel
theorem dX3_bit_76 : decode cX3_bit 76 = .ok (.aload_n 0, 1) := by decide +kernel
theorem dX3_bit_77 : decode cX3_bit 77 = .ok (.getfield 37, 3) := by decide +kernel
theorem dX3_bit_80 : decode cX3_bit 80 = .ok (.iconst 1, 1) := by decide +kernel
theorem dX3_bit_81 : decode cX3_bit 81 = .ok (.iload_n 3, 1) := by decide +kernel
theorem dX3_bit_82 : decode cX3_bit 82 = .ok (.iadd, 1) := by decide +kernel
theorem dX3_bit_83 : decode cX3_bit 83 = .ok (.aload_n 0, 1) := by decide +kernel
theorem dX3_bit_84 : decode cX3_bit 84 = .ok (.getfield 25, 3) := by decide +kernel
theorem dX3_bit_87 : decode cX3_bit 87 = .ok (.iload_n 3, 1) := by decide +kernel
theorem dX3_bit_88 : decode cX3_bit 88 = .ok (.iaload, 1) := by decide +kernel
theorem dX3_bit_89 : decode cX3_bit 89 = .ok (.iastore, 1) := by decide +kernel
theorem dX3_bit_90 : decode cX3_bit 90 = .ok (.aload_n 0, 1) := by decide +kernel
theorem dX3_bit_91 : decode cX3_bit 91 = .ok (.getfield 37, 3) := by decide +kernel
theorem dX3_bit_94 : decode cX3_bit 94 = .ok (.iconst 1, 1) := by decide +kernel
theorem dX3_bit_95 : decode cX3_bit 95 = .ok (.aload_n 0, 1) := by decide +kernel
theorem dX3_bit_96 : decode cX3_bit 96 = .ok (.getfield 43, 3) := by decide +kernel
theorem dX3_bit_99 : decode cX3_bit 99 = .ok (.iadd, 1) := by decide +kernel
theorem dX3_bit_100 : decode cX3_bit 100 = .ok (.iload_n 3, 1) := by decide +kernel
theorem dX3_bit_101 : decode cX3_bit 101 = .ok (.iadd, 1) := by decide +kernel
theorem dX3_bit_102 : decode cX3_bit 102 = .ok (.aload_n 0, 1) := by decide +kernel
theorem dX3_bit_103 : decode cX3_bit 103 = .ok (.getfield 28, 3) := by decide +kernel
theorem dX3_bit_106 : decode cX3_bit 106 = .ok (.iload_n 3, 1) := by decide +kernel
theorem dX3_bit_107 : decode cX3_bit 107 = .ok (.iaload, 1) := by decide +kernel
theorem dX3_bit_108 : decode cX3_bit 108 = .ok (.iastore, 1) := by decide +kernel
theorem dX3_bit_109 : decode cX3_bit 109 = .ok (.iinc 3 1, 3) := by decide +kernel
theorem dX3_bit_112 : decode cX3_bit 112 = .ok (.goto (-44), 3) := by decide +kernel
theorem dX3_bit_115 : decode cX3_bit 115 = .ok (.aload_n 0, 1) := by decide +kernel
theorem dX3_bit_116 : decode cX3_bit 116 = .ok (.aload_n 0, 1) := by decide +kernel
theorem dX3_bit_117 : decode cX3_bit 117 = .ok (.getfield 18, 3) := by decide +kernel
theorem dX3_bit_120 : decode cX3_bit 120 = .ok (.invokevirtual 108, 3) := by decide +kernel
theorem dX3_bit_123 : decode cX3_bit 123 = .ok (.aload_n 0, 1) := by decide +kernel
theorem dX3_bit_124 : decode cX3_bit 124 = .ok (.getfield 37, 3) := by decide +kernel
theorem dX3_bit_127 : decode cX3_bit 127 = .ok (.iload_n 2, 1) := by decide +kernel
theorem dX3_bit_128 : decode cX3_bit 128 = .ok (.invokestatic 102, 3) := by decide +kernel
theorem dX3_bit_131 : decode cX3_bit 131 = .ok (.ireturn, 1) := by decide +kernel
set_option maxRecDepth 20000 in
theorem ggX3_taint_X2_has : GoodIn wsX3_taint wsX2_has := goodIn_r _ [14, 15, 51, 52, 53, 54, 55] (by decide +kernel) (by decide +kernel)
set_option maxRecDepth 20000 in
theorem gX3_taint_X2_has : GoodIn wsX3_taint (wsV RX3 58 RX2 yX2_has wsX2_has) := goodIn_app (goodIn_of _ (by decide +kernel)) ggX3_taint_X2_has
set_option maxRecDepth 20000 in
theorem ggX3_taint_X3_reckonNet : GoodIn wsX3_taint wsX3_reckonNet := goodIn_r _ [20, 1, 6, 2, 8, 4, 21, 22, 23, 24, 19, 25, 3, 26, 13, 27, 28, 29, 30, 31, 32, 33, 34, 35, 36, 7, 9, 37, 38, 39, 40, 41, 42, 43, 44, 45, 46, 47, 48, 49, 50, 51, 52, 53, 54, 55] (by decide +kernel) (by decide +kernel)
set_option maxRecDepth 20000 in
theorem gX3_taint_X3_reckonNet : GoodIn wsX3_taint (wsV RX3 112 RX3 yX3_reckonNet wsX3_reckonNet) := goodIn_app (goodIn_of _ (by decide +kernel)) ggX3_taint_X3_reckonNet
set_option maxRecDepth 20000 in
theorem ggX3_taint_X3_of : GoodIn wsX3_taint wsX3_of := goodIn_r _ [39] (by decide +kernel) (by decide +kernel)
set_option maxRecDepth 20000 in
theorem gX3_taint_X3_of : GoodIn wsX3_taint (va_wsS RX3 102 yX3_of wsX3_of) := goodIn_app (goodIn_of _ (by decide +kernel)) ggX3_taint_X3_of
theorem dX3_taint_0 : decode cX3_taint 0 = .ok (.aload_n 0, 1) := by decide +kernel
theorem dX3_taint_1 : decode cX3_taint 1 = .ok (.getfield 14, 3) := by decide +kernel
theorem dX3_taint_4 : decode cX3_taint 4 = .ok (.iload_n 1, 1) := by decide +kernel
theorem dX3_taint_5 : decode cX3_taint 5 = .ok (.invokevirtual 58, 3) := by decide +kernel
theorem dX3_taint_8 : decode cX3_taint 8 = .ok (.ifCond .ne 5, 3) := by decide +kernel
theorem dX3_taint_11 : decode cX3_taint 11 = .ok (.iconst (-1), 1) := by decide +kernel
theorem dX3_taint_12 : decode cX3_taint 12 = .ok (.ireturn, 1) := by decide +kernel
theorem dX3_taint_13 : decode cX3_taint 13 = .ok (.aload_n 0, 1) := by decide +kernel
theorem dX3_taint_14 : decode cX3_taint 14 = .ok (.invokevirtual 112, 3) := by decide +kernel
theorem dX3_taint_17 : decode cX3_taint 17 = .ok (.iconst 0, 1) := by decide +kernel
theorem dX3_taint_18 : decode cX3_taint 18 = .ok (.istore_n 2, 1) := by decide +kernel
theorem dX3_taint_19 : decode cX3_taint 19 = .ok (.iload_n 2, 1) := by decide +kernel
theorem dX3_taint_20 : decode cX3_taint 20 = .ok (.aload_n 0, 1) := by decide +kernel
theorem dX3_taint_21 : decode cX3_taint 21 = .ok (.getfield 43, 3) := by decide +kernel
theorem dX3_taint_24 : decode cX3_taint 24 = .ok (.if_icmp .ge 26, 3) := by decide +kernel
theorem dX3_taint_27 : decode cX3_taint 27 = .ok (.aload_n 0, 1) := by decide +kernel
theorem dX3_taint_28 : decode cX3_taint 28 = .ok (.getfield 40, 3) := by decide +kernel
theorem dX3_taint_31 : decode cX3_taint 31 = .ok (.aload_n 0, 1) := by decide +kernel
theorem dX3_taint_32 : decode cX3_taint 32 = .ok (.getfield 21, 3) := by decide +kernel
theorem dX3_taint_35 : decode cX3_taint 35 = .ok (.iload_n 2, 1) := by decide +kernel
theorem dX3_taint_36 : decode cX3_taint 36 = .ok (.iaload, 1) := by decide +kernel
theorem dX3_taint_37 : decode cX3_taint 37 = .ok (.aload_n 0, 1) := by decide +kernel
theorem dX3_taint_38 : decode cX3_taint 38 = .ok (.getfield 28, 3) := by decide +kernel
theorem dX3_taint_41 : decode cX3_taint 41 = .ok (.iload_n 2, 1) := by decide +kernel
theorem dX3_taint_42 : decode cX3_taint 42 = .ok (.iaload, 1) := by decide +kernel
theorem dX3_taint_43 : decode cX3_taint 43 = .ok (.iastore, 1) := by decide +kernel
theorem dX3_taint_44 : decode cX3_taint 44 = .ok (.iinc 2 1, 3) := by decide +kernel
theorem dX3_taint_47 : decode cX3_taint 47 = .ok (.goto (-28), 3) := by decide +kernel
theorem dX3_taint_50 : decode cX3_taint 50 = .ok (.iconst 1, 1) := by decide +kernel
theorem dX3_taint_51 : decode cX3_taint 51 = .ok (.istore_n 2, 1) := by decide +kernel
theorem dX3_taint_52 : decode cX3_taint 52 = .ok (.iload_n 2, 1) := by decide +kernel
theorem dX3_taint_53 : decode cX3_taint 53 = .ok (.aload_n 0, 1) := by decide +kernel
theorem dX3_taint_54 : decode cX3_taint 54 = .ok (.getfield 14, 3) := by decide +kernel
theorem dX3_taint_57 : decode cX3_taint 57 = .ok (.getfield 78, 3) := by decide +kernel
theorem dX3_taint_60 : decode cX3_taint 60 = .ok (.if_icmp .ge 138, 3) := by decide +kernel
theorem dX3_taint_63 : decode cX3_taint 63 = .ok (.aload_n 0, 1) := by decide +kernel
theorem dX3_taint_64 : decode cX3_taint 64 = .ok (.getfield 14, 3) := by decide +kernel
theorem dX3_taint_67 : decode cX3_taint 67 = .ok (.getfield 81, 3) := by decide +kernel
theorem dX3_taint_70 : decode cX3_taint 70 = .ok (.iload_n 2, 1) := by decide +kernel
theorem dX3_taint_71 : decode cX3_taint 71 = .ok (.iaload, 1) := by decide +kernel
theorem dX3_taint_72 : decode cX3_taint 72 = .ok (.ifCond .lt 120, 3) := by decide +kernel
theorem dX3_taint_75 : decode cX3_taint 75 = .ok (.aload_n 0, 1) := by decide +kernel
theorem dX3_taint_76 : decode cX3_taint 76 = .ok (.getfield 37, 3) := by decide +kernel
theorem dX3_taint_79 : decode cX3_taint 79 = .ok (.aload_n 0, 1) := by decide +kernel
theorem dX3_taint_80 : decode cX3_taint 80 = .ok (.getfield 14, 3) := by decide +kernel
theorem dX3_taint_83 : decode cX3_taint 83 = .ok (.getfield 81, 3) := by decide +kernel
theorem dX3_taint_86 : decode cX3_taint 86 = .ok (.iload_n 2, 1) := by decide +kernel
theorem dX3_taint_87 : decode cX3_taint 87 = .ok (.iaload, 1) := by decide +kernel
theorem dX3_taint_88 : decode cX3_taint 88 = .ok (.invokestatic 102, 3) := by decide +kernel
theorem dX3_taint_91 : decode cX3_taint 91 = .ok (.istore_n 3, 1) := by decide +kernel
theorem dX3_taint_92 : decode cX3_taint 92 = .ok (.aload_n 0, 1) := by decide +kernel
theorem dX3_taint_93 : decode cX3_taint 93 = .ok (.getfield 37, 3) := by decide +kernel
theorem dX3_taint_96 : decode cX3_taint 96 = .ok (.aload_n 0, 1) := by decide +kernel
theorem dX3_taint_97 : decode cX3_taint 97 = .ok (.getfield 14, 3) := by decide +kernel
theorem dX3_taint_100 : decode cX3_taint 100 = .ok (.getfield 84, 3) := by decide +kernel
theorem dX3_taint_103 : decode cX3_taint 103 = .ok (.iload_n 2, 1) := by decide +kernel
theorem dX3_taint_104 : decode cX3_taint 104 = .ok (.iaload, 1) := by decide +kernel
theorem dX3_taint_105 : decode cX3_taint 105 = .ok (.invokestatic 102, 3) := by decide +kernel
theorem dX3_taint_108 : decode cX3_taint 108 = .ok (.istore 4, 2) := by decide +kernel
theorem dX3_taint_110 : decode cX3_taint 110 = .ok (.aload_n 0, 1) := by decide +kernel
theorem dX3_taint_111 : decode cX3_taint 111 = .ok (.getfield 40, 3) := by decide +kernel
theorem dX3_taint_114 : decode cX3_taint 114 = .ok (.aload_n 0, 1) := by decide +kernel
theorem dX3_taint_115 : decode cX3_taint 115 = .ok (.getfield 14, 3) := by decide +kernel
theorem dX3_taint_118 : decode cX3_taint 118 = .ok (.getfield 81, 3) := by decide +kernel
theorem dX3_taint_121 : decode cX3_taint 121 = .ok (.iload_n 2, 1) := by decide +kernel
theorem dX3_taint_122 : decode cX3_taint 122 = .ok (.iaload, 1) := by decide +kernel
theorem dX3_taint_123 : decode cX3_taint 123 = .ok (.iconst 2, 1) := by decide +kernel
theorem dX3_taint_124 : decode cX3_taint 124 = .ok (.idiv, 1) := by decide +kernel
theorem dX3_taint_125 : decode cX3_taint 125 = .ok (.iaload, 1) := by decide +kernel
theorem dX3_taint_126 : decode cX3_taint 126 = .ok (.istore 5, 2) := by decide +kernel
theorem dX3_taint_128 : decode cX3_taint 128 = .ok (.aload_n 0, 1) := by decide +kernel
theorem dX3_taint_129 : decode cX3_taint 129 = .ok (.getfield 40, 3) := by decide +kernel
theorem dX3_taint_132 : decode cX3_taint 132 = .ok (.aload_n 0, 1) := by decide +kernel
theorem dX3_taint_133 : decode cX3_taint 133 = .ok (.getfield 14, 3) := by decide +kernel
theorem dX3_taint_136 : decode cX3_taint 136 = .ok (.getfield 84, 3) := by decide +kernel
theorem dX3_taint_139 : decode cX3_taint 139 = .ok (.iload_n 2, 1) := by decide +kernel
theorem dX3_taint_140 : decode cX3_taint 140 = .ok (.iaload, 1) := by decide +kernel
theorem dX3_taint_141 : decode cX3_taint 141 = .ok (.iconst 2, 1) := by decide +kernel
theorem dX3_taint_142 : decode cX3_taint 142 = .ok (.idiv, 1) := by decide +kernel
theorem dX3_taint_143 : decode cX3_taint 143 = .ok (.iaload, 1) := by decide +kernel
theorem dX3_taint_144 : decode cX3_taint 144 = .ok (.istore 6, 2) := by decide +kernel
theorem dX3_taint_146 : decode cX3_taint 146 = .ok (.aload_n 0, 1) := by decide +kernel
theorem dX3_taint_147 : decode cX3_taint 147 = .ok (.getfield 40, 3) := by decide +kernel
theorem dX3_taint_150 : decode cX3_taint 150 = .ok (.iload_n 2, 1) := by decide +kernel
theorem dX3_taint_151 : decode cX3_taint 151 = .ok (.iload 5, 2) := by decide +kernel
theorem dX3_taint_153 : decode cX3_taint 153 = .ok (.iconst 1, 1) := by decide +kernel
theorem dX3_taint_154 : decode cX3_taint 154 = .ok (.if_icmp .ne 9, 3) := by decide +kernel
theorem dX3_taint_157 : decode cX3_taint 157 = .ok (.iload 6, 2) := by decide +kernel
theorem dX3_taint_159 : decode cX3_taint 159 = .ok (.iconst 1, 1) := by decide +kernel
theorem dX3_taint_160 : decode cX3_taint 160 = .ok (.if_icmp .eq 26, 3) := by decide +kernel
theorem dX3_taint_163 : decode cX3_taint 163 = .ok (.iload 5, 2) := by decide +kernel
theorem dX3_taint_165 : decode cX3_taint 165 = .ok (.iconst 1, 1) := by decide +kernel
theorem dX3_taint_166 : decode cX3_taint 166 = .ok (.if_icmp .ne 9, 3) := by decide +kernel
theorem dX3_taint_169 : decode cX3_taint 169 = .ok (.iload 4, 2) := by decide +kernel
theorem dX3_taint_171 : decode cX3_taint 171 = .ok (.iconst 1, 1) := by decide +kernel
theorem dX3_taint_172 : decode cX3_taint 172 = .ok (.if_icmp .eq 14, 3) := by decide +kernel
theorem dX3_taint_175 : decode cX3_taint 175 = .ok (.iload 6, 2) := by decide +kernel
theorem dX3_taint_177 : decode cX3_taint 177 = .ok (.iconst 1, 1) := by decide +kernel
theorem dX3_taint_178 : decode cX3_taint 178 = .ok (.if_icmp .ne 12, 3) := by decide +kernel
theorem dX3_taint_181 : decode cX3_taint 181 = .ok (.iload_n 3, 1) := by decide +kernel
theorem dX3_taint_182 : decode cX3_taint 182 = .ok (.iconst 1, 1) := by decide +kernel
theorem dX3_taint_183 : decode cX3_taint 183 = .ok (.if_icmp .ne 7, 3) := by decide +kernel
theorem dX3_taint_186 : decode cX3_taint 186 = .ok (.iconst 1, 1) := by decide +kernel
theorem dX3_taint_187 : decode cX3_taint 187 = .ok (.goto 4, 3) := by decide +kernel
theorem dX3_taint_190 : decode cX3_taint 190 = .ok (.iconst 0, 1) := by decide +kernel
theorem dX3_taint_191 : decode cX3_taint 191 = .ok (.iastore, 1) := by decide +kernel
theorem dX3_taint_192 : decode cX3_taint 192 = .ok (.iinc 2 1, 3) := by decide +kernel
theorem dX3_taint_195 : decode cX3_taint 195 = .ok (.goto (-143), 3) := by decide +kernel
theorem dX3_taint_198 : decode cX3_taint 198 = .ok (.aload_n 0, 1) := by decide +kernel
theorem dX3_taint_199 : decode cX3_taint 199 = .ok (.getfield 40, 3) := by decide +kernel
theorem dX3_taint_202 : decode cX3_taint 202 = .ok (.iload_n 1, 1) := by decide +kernel
theorem dX3_taint_203 : decode cX3_taint 203 = .ok (.iconst 2, 1) := by decide +kernel
theorem dX3_taint_204 : decode cX3_taint 204 = .ok (.idiv, 1) := by decide +kernel
theorem dX3_taint_205 : decode cX3_taint 205 = .ok (.iaload, 1) := by decide +kernel
theorem dX3_taint_206 : decode cX3_taint 206 = .ok (.ireturn, 1) := by decide +kernel
set_option maxRecDepth 20000 in
theorem ggX3_hangs_X2_has : GoodIn wsX3_hangs wsX2_has := goodIn_r _ [11, 12, 51, 52, 53, 54, 55] (by decide +kernel) (by decide +kernel)
set_option maxRecDepth 20000 in
theorem gX3_hangs_X2_has : GoodIn wsX3_hangs (wsV RX3 58 RX2 yX2_has wsX2_has) := goodIn_app (goodIn_of _ (by decide +kernel)) ggX3_hangs_X2_has
set_option maxRecDepth 20000 in
theorem ggX3_hangs_X3_reckonNet : GoodIn wsX3_hangs wsX3_reckonNet := goodIn_r _ [17, 3, 18, 1, 4, 5, 6, 19, 20, 21, 16, 22, 23, 24, 10, 25, 26, 27, 28, 29, 30, 31, 32, 33, 34, 35, 36, 37, 38, 39, 40, 41, 42, 43, 44, 45, 46, 47, 48, 49, 50, 51, 52, 53, 54, 55] (by decide +kernel) (by decide +kernel)
set_option maxRecDepth 20000 in
theorem gX3_hangs_X3_reckonNet : GoodIn wsX3_hangs (wsV RX3 112 RX3 yX3_reckonNet wsX3_reckonNet) := goodIn_app (goodIn_of _ (by decide +kernel)) ggX3_hangs_X3_reckonNet
set_option maxRecDepth 20000 in
theorem ggX3_hangs_X3_of : GoodIn wsX3_hangs wsX3_of := goodIn_r _ [39] (by decide +kernel) (by decide +kernel)
set_option maxRecDepth 20000 in
theorem gX3_hangs_X3_of : GoodIn wsX3_hangs (va_wsS RX3 102 yX3_of wsX3_of) := goodIn_app (goodIn_of _ (by decide +kernel)) ggX3_hangs_X3_of
set_option maxRecDepth 20000 in
theorem ggX3_hangs_X3_reckon : GoodIn wsX3_hangs wsX3_reckon := goodIn_r _ [34, 18, 4, 35, 36, 37, 38, 16, 39, 51, 52, 53, 54, 55, 40, 41, 42, 43, 44, 45, 46, 47, 48, 49, 50] (by decide +kernel) (by decide +kernel)
set_option maxRecDepth 20000 in
theorem gX3_hangs_X3_reckon : GoodIn wsX3_hangs (wsV RX3 108 RX3 yX3_reckon wsX3_reckon) := goodIn_app (goodIn_of _ (by decide +kernel)) ggX3_hangs_X3_reckon
theorem dX3_hangs_0 : decode cX3_hangs 0 = .ok (.iconst 0, 1) := by decide +kernel
theorem dX3_hangs_1 : decode cX3_hangs 1 = .ok (.istore_n 2, 1) := by decide +kernel
theorem dX3_hangs_2 : decode cX3_hangs 2 = .ok (.iconst 0, 1) := by decide +kernel
theorem dX3_hangs_3 : decode cX3_hangs 3 = .ok (.istore_n 3, 1) := by decide +kernel
theorem dX3_hangs_4 : decode cX3_hangs 4 = .ok (.iload_n 3, 1) := by decide +kernel
theorem dX3_hangs_5 : decode cX3_hangs 5 = .ok (.aload_n 0, 1) := by decide +kernel
theorem dX3_hangs_6 : decode cX3_hangs 6 = .ok (.getfield 43, 3) := by decide +kernel
theorem dX3_hangs_9 : decode cX3_hangs 9 = .ok (.if_icmp .ge 18, 3) := by decide +kernel
theorem dX3_hangs_12 : decode cX3_hangs 12 = .ok (.iload_n 2, 1) := by decide +kernel
theorem dX3_hangs_13 : decode cX3_hangs 13 = .ok (.aload_n 0, 1) := by decide +kernel
theorem dX3_hangs_14 : decode cX3_hangs 14 = .ok (.getfield 28, 3) := by decide +kernel
theorem dX3_hangs_17 : decode cX3_hangs 17 = .ok (.iload_n 3, 1) := by decide +kernel
theorem dX3_hangs_18 : decode cX3_hangs 18 = .ok (.iaload, 1) := by decide +kernel
theorem dX3_hangs_19 : decode cX3_hangs 19 = .ok (.iadd, 1) := by decide +kernel
theorem dX3_hangs_20 : decode cX3_hangs 20 = .ok (.istore_n 2, 1) := by decide +kernel
theorem dX3_hangs_21 : decode cX3_hangs 21 = .ok (.iinc 3 1, 3) := by decide +kernel
theorem dX3_hangs_24 : decode cX3_hangs 24 = .ok (.goto (-20), 3) := by decide +kernel
theorem dX3_hangs_27 : decode cX3_hangs 27 = .ok (.aload_n 0, 1) := by decide +kernel
theorem dX3_hangs_28 : decode cX3_hangs 28 = .ok (.getfield 14, 3) := by decide +kernel
theorem dX3_hangs_31 : decode cX3_hangs 31 = .ok (.iload_n 1, 1) := by decide +kernel
theorem dX3_hangs_32 : decode cX3_hangs 32 = .ok (.invokevirtual 58, 3) := by decide +kernel
theorem dX3_hangs_35 : decode cX3_hangs 35 = .ok (.ifCond .eq 9, 3) := by decide +kernel
theorem dX3_hangs_38 : decode cX3_hangs 38 = .ok (.iload_n 2, 1) := by decide +kernel
theorem dX3_hangs_39 : decode cX3_hangs 39 = .ok (.bipush 8, 2) := by decide +kernel
theorem dX3_hangs_41 : decode cX3_hangs 41 = .ok (.if_icmp .le 5, 3) := by decide +kernel
theorem dX3_hangs_44 : decode cX3_hangs 44 = .ok (.iconst (-1), 1) := by decide +kernel
theorem dX3_hangs_45 : decode cX3_hangs 45 = .ok (.ireturn, 1) := by decide +kernel
theorem dX3_hangs_46 : decode cX3_hangs 46 = .ok (.aload_n 0, 1) := by decide +kernel
theorem dX3_hangs_47 : decode cX3_hangs 47 = .ok (.invokevirtual 112, 3) := by decide +kernel
theorem dX3_hangs_50 : decode cX3_hangs 50 = .ok (.aload_n 0, 1) := by decide +kernel
theorem dX3_hangs_51 : decode cX3_hangs 51 = .ok (.getfield 37, 3) := by decide +kernel
theorem dX3_hangs_54 : decode cX3_hangs 54 = .ok (.iload_n 1, 1) := by decide +kernel
theorem dX3_hangs_55 : decode cX3_hangs 55 = .ok (.invokestatic 102, 3) := by decide +kernel
theorem dX3_hangs_58 : decode cX3_hangs 58 = .ok (.istore_n 3, 1) := by decide +kernel
theorem dX3_hangs_59 : decode cX3_hangs 59 = .ok (.iconst 0, 1) := by decide +kernel
theorem dX3_hangs_60 : decode cX3_hangs 60 = .ok (.istore 4, 2) := by decide +kernel
theorem dX3_hangs_62 : decode cX3_hangs 62 = .ok (.iload 4, 2) := by decide +kernel
theorem dX3_hangs_64 : decode cX3_hangs 64 = .ok (.iconst 1, 1) := by decide +kernel
theorem dX3_hangs_65 : decode cX3_hangs 65 = .ok (.iload_n 2, 1) := by decide +kernel
theorem dX3_hangs_66 : decode cX3_hangs 66 = .ok (.ishl, 1) := by decide +kernel
theorem dX3_hangs_67 : decode cX3_hangs 67 = .ok (.if_icmp .ge 110, 3) := by decide +kernel
theorem dX3_hangs_70 : decode cX3_hangs 70 = .ok (.iload 4, 2) := by decide +kernel
theorem dX3_hangs_72 : decode cX3_hangs 72 = .ok (.istore 5, 2) := by decide +kernel
theorem dX3_hangs_74 : decode cX3_hangs 74 = .ok (.iconst 0, 1) := by decide +kernel
theorem dX3_hangs_75 : decode cX3_hangs 75 = .ok (.istore 6, 2) := by decide +kernel
theorem dX3_hangs_77 : decode cX3_hangs 77 = .ok (.iload 6, 2) := by decide +kernel
theorem dX3_hangs_79 : decode cX3_hangs 79 = .ok (.aload_n 0, 1) := by decide +kernel
theorem dX3_hangs_80 : decode cX3_hangs 80 = .ok (.getfield 43, 3) := by decide +kernel
theorem dX3_hangs_83 : decode cX3_hangs 83 = .ok (.if_icmp .ge 66, 3) := by decide +kernel
theorem dX3_hangs_86 : decode cX3_hangs 86 = .ok (.aload_n 0, 1) := by decide +kernel
theorem dX3_hangs_87 : decode cX3_hangs 87 = .ok (.getfield 37, 3) := by decide +kernel
theorem dX3_hangs_90 : decode cX3_hangs 90 = .ok (.aload_n 0, 1) := by decide +kernel
theorem dX3_hangs_91 : decode cX3_hangs 91 = .ok (.getfield 21, 3) := by decide +kernel
theorem dX3_hangs_94 : decode cX3_hangs 94 = .ok (.iload 6, 2) := by decide +kernel
theorem dX3_hangs_96 : decode cX3_hangs 96 = .ok (.iaload, 1) := by decide +kernel
theorem dX3_hangs_97 : decode cX3_hangs 97 = .ok (.aload_n 0, 1) := by decide +kernel
theorem dX3_hangs_98 : decode cX3_hangs 98 = .ok (.getfield 28, 3) := by decide +kernel
theorem dX3_hangs_101 : decode cX3_hangs 101 = .ok (.iload 6, 2) := by decide +kernel
theorem dX3_hangs_103 : decode cX3_hangs 103 = .ok (.iaload, 1) := by decide +kernel
theorem dX3_hangs_104 : decode cX3_hangs 104 = .ok (.ifCond .ne 13, 3) := by decide +kernel
theorem dX3_hangs_107 : decode cX3_hangs 107 = .ok (.aload_n 0, 1) := by decide +kernel
theorem dX3_hangs_108 : decode cX3_hangs 108 = .ok (.getfield 25, 3) := by decide +kernel
theorem dX3_hangs_111 : decode cX3_hangs 111 = .ok (.iload 6, 2) := by decide +kernel
theorem dX3_hangs_113 : decode cX3_hangs 113 = .ok (.iaload, 1) := by decide +kernel
theorem dX3_hangs_114 : decode cX3_hangs 114 = .ok (.goto 7, 3) := by decide +kernel
theorem dX3_hangs_117 : decode cX3_hangs 117 = .ok (.iload 5, 2) := by decide +kernel
theorem dX3_hangs_119 : decode cX3_hangs 119 = .ok (.iconst 1, 1) := by decide +kernel
theorem dX3_hangs_120 : decode cX3_hangs 120 = .ok (.iand, 1) := by decide +kernel
theorem dX3_hangs_121 : decode cX3_hangs 121 = .ok (.iastore, 1) := by decide +kernel
theorem dX3_hangs_122 : decode cX3_hangs 122 = .ok (.aload_n 0, 1) := by decide +kernel
theorem dX3_hangs_123 : decode cX3_hangs 123 = .ok (.getfield 28, 3) := by decide +kernel
theorem dX3_hangs_126 : decode cX3_hangs 126 = .ok (.iload 6, 2) := by decide +kernel
theorem dX3_hangs_128 : decode cX3_hangs 128 = .ok (.iaload, 1) := by decide +kernel
theorem dX3_hangs_129 : decode cX3_hangs 129 = .ok (.ifCond .ne 8, 3) := by decide +kernel
theorem dX3_hangs_132 : decode cX3_hangs 132 = .ok (.iload 5, 2) := by decide +kernel
theorem dX3_hangs_134 : decode cX3_hangs 134 = .ok (.goto 7, 3) := by decide +kernel
theorem dX3_hangs_137 : decode cX3_hangs 137 = .ok (.iload 5, 2) := by decide +kernel
theorem dX3_hangs_139 : decode cX3_hangs 139 = .ok (.iconst 1, 1) := by decide +kernel
theorem dX3_hangs_140 : decode cX3_hangs 140 = .ok (.ishr, 1) := by decide +kernel
theorem dX3_hangs_141 : decode cX3_hangs 141 = .ok (.istore 5, 2) := by decide +kernel
theorem dX3_hangs_143 : decode cX3_hangs 143 = .ok (.iinc 6 1, 3) := by decide +kernel
theorem dX3_hangs_146 : decode cX3_hangs 146 = .ok (.goto (-69), 3) := by decide +kernel
theorem dX3_hangs_149 : decode cX3_hangs 149 = .ok (.aload_n 0, 1) := by decide +kernel
theorem dX3_hangs_150 : decode cX3_hangs 150 = .ok (.aload_n 0, 1) := by decide +kernel
theorem dX3_hangs_151 : decode cX3_hangs 151 = .ok (.getfield 14, 3) := by decide +kernel
theorem dX3_hangs_154 : decode cX3_hangs 154 = .ok (.invokevirtual 108, 3) := by decide +kernel
theorem dX3_hangs_157 : decode cX3_hangs 157 = .ok (.aload_n 0, 1) := by decide +kernel
theorem dX3_hangs_158 : decode cX3_hangs 158 = .ok (.getfield 37, 3) := by decide +kernel
theorem dX3_hangs_161 : decode cX3_hangs 161 = .ok (.iload_n 1, 1) := by decide +kernel
theorem dX3_hangs_162 : decode cX3_hangs 162 = .ok (.invokestatic 102, 3) := by decide +kernel
theorem dX3_hangs_165 : decode cX3_hangs 165 = .ok (.iload_n 3, 1) := by decide +kernel
theorem dX3_hangs_166 : decode cX3_hangs 166 = .ok (.if_icmp .eq 5, 3) := by decide +kernel
theorem dX3_hangs_169 : decode cX3_hangs 169 = .ok (.iconst 1, 1) := by decide +kernel
theorem dX3_hangs_170 : decode cX3_hangs 170 = .ok (.ireturn, 1) := by decide +kernel
theorem dX3_hangs_171 : decode cX3_hangs 171 = .ok (.iinc 4 1, 3) := by decide +kernel
theorem dX3_hangs_174 : decode cX3_hangs 174 = .ok (.goto (-112), 3) := by decide +kernel
theorem dX3_hangs_177 : decode cX3_hangs 177 = .ok (.iconst 0, 1) := by decide +kernel
theorem dX3_hangs_178 : decode cX3_hangs 178 = .ok (.ireturn, 1) := by decide +kernel
set_option maxRecDepth 20000 in
theorem ggL_law_X1_init : GoodIn wsL_law wsX1_init := goodIn_r _ [8, 9, 10, 11, 12, 13, 14, 15, 16, 17, 18, 19, 20, 21, 22, 23, 24, 25, 26, 27, 28, 29, 30, 31, 32, 33, 34, 347, 348, 349, 350, 351, 352, 353, 354, 328, 329, 330, 331, 332, 333, 334, 335] (by decide +kernel) (by decide +kernel)
set_option maxRecDepth 20000 in
theorem gL_law_X1_init : GoodIn wsL_law (wsX1_init) := ggL_law_X1_init
set_option maxRecDepth 20000 in
theorem ggL_law_X3_init : GoodIn wsL_law wsX3_init := goodIn_r _ [37, 38, 10, 11, 39, 40, 41, 42, 43, 18, 44, 45, 46, 47, 48, 49, 50, 51, 52, 53, 54, 55, 56, 57, 58, 59, 60, 61, 62, 63, 64, 65, 66, 67, 68, 69, 70, 71, 72, 73, 74, 355, 356, 357, 358, 359, 336, 337, 338, 339, 340, 341, 342, 343, 344, 345, 346] (by decide +kernel) (by decide +kernel)
set_option maxRecDepth 20000 in
theorem gL_law_X3_init : GoodIn wsL_law (wsX3_init) := ggL_law_X3_init
set_option maxRecDepth 20000 in
theorem ggL_law_X1_input : GoodIn wsL_law wsX1_input := goodIn_r _ [78, 15, 79, 14, 80, 81, 82, 28, 32, 34, 83, 84, 85, 86, 30, 31, 328, 329, 330, 331, 332, 333, 334, 335, 347, 348, 349, 350, 351, 352, 353, 354] (by decide +kernel) (by decide +kernel)
set_option maxRecDepth 20000 in
theorem gL_law_X1_input : GoodIn wsL_law (wsV RL 13 RX1 yX1_input wsX1_input) := goodIn_app (goodIn_of _ (by decide +kernel)) ggL_law_X1_input
set_option maxRecDepth 20000 in
theorem ggL_law_X3_input : GoodIn wsL_law wsX3_input := goodIn_r _ [90, 91, 44, 42, 92, 93, 65, 66, 41, 67, 62, 55, 56, 68, 69, 70, 18, 71, 72, 73, 74, 336, 337, 338, 339, 340, 341, 342, 343, 344, 345, 346, 355, 356, 357, 358, 359] (by decide +kernel) (by decide +kernel)
set_option maxRecDepth 20000 in
theorem gL_law_X3_input : GoodIn wsL_law (wsV RL 17 RX3 yX3_input wsX3_input) := goodIn_app (goodIn_of _ (by decide +kernel)) ggL_law_X3_input
set_option maxRecDepth 20000 in
theorem ggL_law_X1_and : GoodIn wsL_law wsX1_and := goodIn_r _ [97, 15, 98, 14, 99, 100, 101, 102, 103, 104, 34, 105, 2, 106, 107, 108, 109, 110, 30, 31, 82, 29, 83, 84, 85, 86, 328, 329, 330, 331, 332, 333, 334, 335, 347, 348, 349, 350, 351, 352, 353, 354] (by decide +kernel) (by decide +kernel)
set_option maxRecDepth 20000 in
theorem gL_law_X1_and : GoodIn wsL_law (wsV RL 18 RX1 yX1_and wsX1_and) := goodIn_app (goodIn_of _ (by decide +kernel)) ggL_law_X1_and
set_option maxRecDepth 20000 in
theorem ggL_law_X3_and : GoodIn wsL_law wsX3_and := goodIn_r _ [114, 42, 115, 116, 117, 118, 41, 119, 62, 120, 121, 122, 123, 55, 56, 63, 57, 64, 65, 66, 67, 68, 69, 70, 18, 71, 72, 73, 74, 124, 125, 126, 5, 127, 92, 336, 337, 338, 339, 340, 341, 342, 343, 344, 345, 346, 355, 356, 357, 358, 359] (by decide +kernel) (by decide +kernel)
set_option maxRecDepth 20000 in
theorem gL_law_X3_and : GoodIn wsL_law (wsV RL 22 RX3 yX3_and wsX3_and) := goodIn_app (goodIn_of _ (by decide +kernel)) ggL_law_X3_and
set_option maxRecDepth 20000 in
theorem ggL_law_X1_or : GoodIn wsL_law wsX1_or := goodIn_r _ [131, 15, 132, 14, 133, 134, 105, 2, 106, 135, 98, 99, 100, 101, 102, 103, 104, 34, 107, 108, 109, 110, 30, 31, 82, 29, 83, 84, 85, 86, 328, 329, 330, 331, 332, 333, 334, 335, 347, 348, 349, 350, 351, 352, 353, 354] (by decide +kernel) (by decide +kernel)
set_option maxRecDepth 20000 in
theorem gL_law_X1_or : GoodIn wsL_law (wsV RL 23 RX1 yX1_or wsX1_or) := goodIn_app (goodIn_of _ (by decide +kernel)) ggL_law_X1_or
set_option maxRecDepth 20000 in
theorem ggL_law_X3_or : GoodIn wsL_law wsX3_or := goodIn_r _ [139, 42, 115, 116, 117, 118, 41, 119, 62, 140, 141, 142, 143, 144, 145, 146, 147, 121, 122, 123, 55, 56, 63, 57, 64, 65, 66, 67, 68, 69, 70, 18, 71, 72, 73, 74, 124, 125, 126, 5, 127, 92, 336, 337, 338, 339, 340, 341, 342, 343, 344, 345, 346, 355, 356, 357, 358, 359] (by decide +kernel) (by decide +kernel)
set_option maxRecDepth 20000 in
theorem gL_law_X3_or : GoodIn wsL_law (wsV RL 26 RX3 yX3_or wsX3_or) := goodIn_app (goodIn_of _ (by decide +kernel)) ggL_law_X3_or
set_option maxRecDepth 20000 in
theorem ggL_law_X1_xor : GoodIn wsL_law wsX1_xor := goodIn_r _ [151, 15, 152, 105, 2, 106, 98, 14, 99, 100, 101, 102, 103, 104, 34, 107, 108, 109, 110, 30, 31, 82, 29, 83, 84, 85, 86, 132, 133, 134, 135, 328, 329, 330, 331, 332, 333, 334, 335, 347, 348, 349, 350, 351, 352, 353, 354] (by decide +kernel) (by decide +kernel)
set_option maxRecDepth 20000 in
theorem gL_law_X1_xor : GoodIn wsL_law (wsV RL 27 RX1 yX1_xor wsX1_xor) := goodIn_app (goodIn_of _ (by decide +kernel)) ggL_law_X1_xor
set_option maxRecDepth 20000 in
theorem ggL_law_X3_xor : GoodIn wsL_law wsX3_xor := goodIn_r _ [156, 42, 115, 116, 117, 118, 41, 119, 62, 157, 158, 159, 160, 144, 145, 146, 147, 121, 122, 123, 55, 56, 63, 57, 64, 65, 66, 67, 68, 69, 70, 18, 71, 72, 73, 74, 161, 141, 142, 143, 124, 125, 126, 5, 127, 92, 336, 337, 338, 339, 340, 341, 342, 343, 344, 345, 346, 355, 356, 357, 358, 359] (by decide +kernel) (by decide +kernel)
set_option maxRecDepth 20000 in
theorem gL_law_X3_xor : GoodIn wsL_law (wsV RL 30 RX3 yX3_xor wsX3_xor) := goodIn_app (goodIn_of _ (by decide +kernel)) ggL_law_X3_xor
set_option maxRecDepth 20000 in
theorem ggL_law_X1_choose : GoodIn wsL_law wsX1_choose := goodIn_r _ [165, 15, 102, 14, 103, 104, 34, 98, 99, 100, 101, 105, 2, 106, 107, 108, 109, 110, 30, 31, 82, 29, 83, 84, 85, 86, 152, 132, 133, 134, 135, 328, 329, 330, 331, 332, 333, 334, 335, 347, 348, 349, 350, 351, 352, 353, 354] (by decide +kernel) (by decide +kernel)
set_option maxRecDepth 20000 in
theorem gL_law_X1_choose : GoodIn wsL_law (wsV RL 31 RX1 yX1_choose wsX1_choose) := goodIn_app (goodIn_of _ (by decide +kernel)) ggL_law_X1_choose
set_option maxRecDepth 20000 in
theorem ggL_law_X3_choose : GoodIn wsL_law wsX3_choose := goodIn_r _ [169, 42, 115, 116, 117, 118, 41, 119, 62, 170, 171, 172, 173, 147, 121, 122, 123, 55, 56, 63, 57, 64, 65, 66, 67, 68, 69, 70, 18, 71, 72, 73, 74, 144, 145, 146, 161, 141, 142, 143, 124, 125, 126, 5, 127, 92, 336, 337, 338, 339, 340, 341, 342, 343, 344, 345, 346, 355, 356, 357, 358, 359] (by decide +kernel) (by decide +kernel)
set_option maxRecDepth 20000 in
theorem gL_law_X3_choose : GoodIn wsL_law (wsV RL 35 RX3 yX3_choose wsX3_choose) := goodIn_app (goodIn_of _ (by decide +kernel)) ggL_law_X3_choose
set_option maxRecDepth 20000 in
theorem ggL_law_X1_nodes : GoodIn wsL_law wsX1_nodes := goodIn_r _ [177, 15, 16, 178, 179, 180, 2, 181, 17, 328, 329, 330, 331, 332, 333, 334, 335, 347, 348, 349, 350, 351, 352, 353, 354] (by decide +kernel) (by decide +kernel)
set_option maxRecDepth 20000 in
theorem gL_law_X1_nodes : GoodIn wsL_law (wsV RL 36 RX1 yX1_nodes wsX1_nodes) := goodIn_app (goodIn_of _ (by decide +kernel)) ggL_law_X1_nodes
set_option maxRecDepth 20000 in
theorem ggL_law_X3_nodes : GoodIn wsL_law wsX3_nodes := goodIn_r _ [185, 42, 186, 92, 43, 336, 337, 338, 339, 340, 341, 342, 343, 344, 345, 346, 355, 356, 357, 358, 359] (by decide +kernel) (by decide +kernel)
set_option maxRecDepth 20000 in
theorem gL_law_X3_nodes : GoodIn wsL_law (wsV RL 40 RX3 yX3_nodes wsX3_nodes) := goodIn_app (goodIn_of _ (by decide +kernel)) ggL_law_X3_nodes
set_option maxRecDepth 20000 in
theorem ggL_law_X1_gate : GoodIn wsL_law wsX1_gate := goodIn_r _ [190, 16, 15, 191, 175, 176, 2, 177, 178, 179, 180, 181, 17, 328, 329, 330, 331, 332, 333, 334, 335, 347, 348, 349, 350, 351, 352, 353, 354] (by decide +kernel) (by decide +kernel)
set_option maxRecDepth 20000 in
theorem gL_law_X1_gate : GoodIn wsL_law (wsV RL 41 RX1 yX1_gate wsX1_gate) := goodIn_app (goodIn_of _ (by decide +kernel)) ggL_law_X1_gate
set_option maxRecDepth 20000 in
theorem ggL_law_X3_gate : GoodIn wsL_law wsX3_gate := goodIn_r _ [195, 43, 42, 92, 186, 196, 197, 336, 337, 338, 339, 340, 341, 342, 343, 344, 345, 346, 355, 356, 357, 358, 359] (by decide +kernel) (by decide +kernel)
set_option maxRecDepth 20000 in
theorem gL_law_X3_gate : GoodIn wsL_law (wsV RL 45 RX3 yX3_gate wsX3_gate) := goodIn_app (goodIn_of _ (by decide +kernel)) ggL_law_X3_gate
set_option maxRecDepth 20000 in
theorem ggL_law_X1_twin : GoodIn wsL_law wsX1_twin := goodIn_r _ [201, 15, 17, 16, 178, 179, 180, 2, 181, 202, 203, 204, 205, 206, 14, 207, 208, 34, 82, 209, 210, 211, 212, 19, 20, 79, 80, 81, 28, 32, 83, 84, 85, 86, 30, 31, 213, 214, 215, 216, 217, 218, 219, 220, 221, 222, 223, 152, 105, 106, 98, 99, 100, 101, 102, 103, 104, 107, 108, 109, 110, 29, 132, 133, 134, 135, 328, 329, 330, 331, 332, 333, 334, 335, 347, 348, 349, 350, 351, 352, 353, 354] (by decide +kernel) (by decide +kernel)
set_option maxRecDepth 20000 in
theorem gL_law_X1_twin : GoodIn wsL_law (wsV RL 46 RX1 yX1_twin wsX1_twin) := goodIn_app (goodIn_of _ (by decide +kernel)) ggL_law_X1_twin
set_option maxRecDepth 20000 in
theorem ggL_law_X3_twin : GoodIn wsL_law wsX3_twin := goodIn_r _ [227, 43, 47, 42, 186, 48, 91, 44, 92, 196, 197, 228, 59, 60, 41, 61, 62, 63, 64, 65, 66, 67, 55, 56, 68, 69, 70, 18, 71, 72, 73, 74, 93, 229, 230, 5, 231, 232, 145, 146, 120, 121, 122, 123, 57, 140, 141, 142, 143, 144, 147, 336, 337, 338, 339, 340, 341, 342, 343, 344, 345, 346, 355, 356, 357, 358, 359] (by decide +kernel) (by decide +kernel)
set_option maxRecDepth 20000 in
theorem gL_law_X3_twin : GoodIn wsL_law (wsV RL 49 RX3 yX3_twin wsX3_twin) := goodIn_app (goodIn_of _ (by decide +kernel)) ggL_law_X3_twin
set_option maxRecDepth 20000 in
theorem ggL_law_X1_twinOf : GoodIn wsL_law wsX1_twinOf := goodIn_r _ [236, 15, 20, 178, 179, 180, 2, 181, 17, 102, 14, 103, 104, 34, 220, 221, 222, 223, 19, 152, 105, 106, 328, 329, 330, 331, 332, 333, 334, 335, 347, 348, 349, 350, 351, 352, 353, 354] (by decide +kernel) (by decide +kernel)
set_option maxRecDepth 20000 in
theorem gL_law_X1_twinOf : GoodIn wsL_law (wsV RL 50 RX1 yX1_twinOf wsX1_twinOf) := goodIn_app (goodIn_of _ (by decide +kernel)) ggL_law_X1_twinOf
set_option maxRecDepth 20000 in
theorem ggL_law_X3_twinOf : GoodIn wsL_law wsX3_twinOf := goodIn_r _ [240, 92, 42, 48, 47, 116, 117, 118, 41, 119, 62, 229, 230, 5, 231, 232, 145, 146, 336, 337, 338, 339, 340, 341, 342, 343, 344, 345, 346, 355, 356, 357, 358, 359] (by decide +kernel) (by decide +kernel)
set_option maxRecDepth 20000 in
theorem gL_law_X3_twinOf : GoodIn wsL_law (wsV RL 54 RX3 yX3_twinOf wsX3_twinOf) := goodIn_app (goodIn_of _ (by decide +kernel)) ggL_law_X3_twinOf
set_option maxRecDepth 20000 in
theorem ggL_law_X1_set : GoodIn wsL_law wsX1_set := goodIn_r _ [244, 15, 22, 21, 328, 329, 330, 331, 332, 333, 334, 335, 347, 348, 349, 350, 351, 352, 353, 354] (by decide +kernel) (by decide +kernel)
set_option maxRecDepth 20000 in
theorem gL_law_X1_set : GoodIn wsL_law (wsV RL 55 RX1 yX1_set wsX1_set) := goodIn_app (goodIn_of _ (by decide +kernel)) ggL_law_X1_set
set_option maxRecDepth 20000 in
theorem ggL_law_X3_set : GoodIn wsL_law wsX3_set := goodIn_r _ [248, 91, 46, 45, 336, 337, 338, 339, 340, 341, 342, 343, 344, 345, 346] (by decide +kernel) (by decide +kernel)
set_option maxRecDepth 20000 in
theorem gL_law_X3_set : GoodIn wsL_law (wsV RL 59 RX3 yX3_set wsX3_set) := goodIn_app (goodIn_of _ (by decide +kernel)) ggL_law_X3_set
set_option maxRecDepth 20000 in
theorem ggL_law_X1_bit : GoodIn wsL_law wsX1_bit := goodIn_r _ [252, 16, 15, 178, 179, 180, 2, 181, 17, 102, 14, 103, 104, 34, 253, 254, 255, 256, 21, 22, 257, 258, 259, 260, 261, 262, 263, 33, 30, 31, 264, 213, 214, 215, 265, 266, 267, 268, 269, 270, 271, 272, 273, 274, 275, 276, 328, 329, 330, 331, 332, 333, 334, 335, 347, 348, 349, 350, 351, 352, 353, 354] (by decide +kernel) (by decide +kernel)
set_option maxRecDepth 20000 in
theorem gL_law_X1_bit : GoodIn wsL_law (wsV RL 60 RX1 yX1_bit wsX1_bit) := goodIn_app (goodIn_of _ (by decide +kernel)) ggL_law_X1_bit
set_option maxRecDepth 20000 in
theorem ggL_law_X3_bit : GoodIn wsL_law wsX3_bit := goodIn_r _ [280, 92, 43, 42, 49, 186, 91, 45, 46, 116, 117, 118, 41, 119, 62, 281, 282, 283, 5, 284, 44, 285, 286, 287, 288, 50, 69, 70, 18, 71, 72, 73, 74, 289, 290, 291, 292, 196, 197, 293, 294, 295, 336, 337, 338, 339, 340, 341, 342, 343, 344, 345, 346, 355, 356, 357, 358, 359] (by decide +kernel) (by decide +kernel)
set_option maxRecDepth 20000 in
theorem gL_law_X3_bit : GoodIn wsL_law (wsV RL 64 RX3 yX3_bit wsX3_bit) := goodIn_app (goodIn_of _ (by decide +kernel)) ggL_law_X3_bit
set_option maxRecDepth 20000 in
theorem ggL_law_X1_taint : GoodIn wsL_law wsX1_taint := goodIn_r _ [299, 15, 24, 102, 14, 103, 104, 34, 273, 274, 275, 2, 276, 21, 257, 258, 259, 260, 261, 262, 263, 33, 30, 31, 264, 213, 214, 215, 265, 266, 267, 268, 269, 300, 301, 302, 303, 22, 270, 271, 272, 328, 329, 330, 331, 332, 333, 334, 335, 347, 348, 349, 350, 351, 352, 353, 354] (by decide +kernel) (by decide +kernel)
set_option maxRecDepth 20000 in
theorem gL_law_X1_taint : GoodIn wsL_law (wsV RL 65 RX1 yX1_taint wsX1_taint) := goodIn_app (goodIn_of _ (by decide +kernel)) ggL_law_X1_taint
set_option maxRecDepth 20000 in
theorem ggL_law_X3_taint : GoodIn wsL_law wsX3_taint := goodIn_r _ [307, 42, 91, 50, 44, 46, 186, 196, 49, 197, 116, 117, 118, 41, 119, 62, 281, 282, 283, 5, 284, 45, 285, 286, 287, 288, 69, 70, 18, 71, 72, 73, 74, 289, 290, 291, 292, 293, 294, 295, 336, 337, 338, 339, 340, 341, 342, 343, 344, 345, 346, 355, 356, 357, 358, 359] (by decide +kernel) (by decide +kernel)
set_option maxRecDepth 20000 in
theorem gL_law_X3_taint : GoodIn wsL_law (wsV RL 69 RX3 yX3_taint wsX3_taint) := goodIn_app (goodIn_of _ (by decide +kernel)) ggL_law_X3_taint
set_option maxRecDepth 20000 in
theorem ggL_law_X1_hangs : GoodIn wsL_law wsX1_hangs := goodIn_r _ [311, 15, 102, 14, 103, 104, 34, 312, 313, 314, 2, 315, 22, 273, 274, 275, 276, 21, 257, 258, 259, 260, 261, 262, 263, 33, 30, 31, 264, 213, 214, 215, 265, 266, 267, 268, 269, 316, 317, 318, 319, 320, 321, 322, 323, 328, 329, 330, 331, 332, 333, 334, 335, 347, 348, 349, 350, 351, 352, 353, 354] (by decide +kernel) (by decide +kernel)
set_option maxRecDepth 20000 in
theorem gL_law_X1_hangs : GoodIn wsL_law (wsV RL 70 RX1 yX1_hangs wsX1_hangs) := goodIn_app (goodIn_of _ (by decide +kernel)) ggL_law_X1_hangs
set_option maxRecDepth 20000 in
theorem ggL_law_X3_hangs : GoodIn wsL_law wsX3_hangs := goodIn_r _ [327, 91, 46, 42, 49, 44, 45, 116, 117, 118, 41, 119, 62, 281, 282, 283, 5, 284, 186, 285, 286, 287, 288, 50, 69, 70, 18, 71, 72, 73, 74, 289, 290, 291, 292, 196, 197, 293, 294, 295, 336, 337, 338, 339, 340, 341, 342, 343, 344, 345, 346, 355, 356, 357, 358, 359] (by decide +kernel) (by decide +kernel)
set_option maxRecDepth 20000 in
theorem gL_law_X3_hangs : GoodIn wsL_law (wsV RL 73 RX3 yX3_hangs wsX3_hangs) := goodIn_app (goodIn_of _ (by decide +kernel)) ggL_law_X3_hangs
end
section
theorem dL_law_0 : decode cL_law 0 = .ok (.new 7, 3) := by decide +kernel
theorem dL_law_3 : decode cL_law 3 = .ok (.dup, 1) := by decide +kernel
theorem dL_law_4 : decode cL_law 4 = .ok (.invokespecial 9, 3) := by decide +kernel
theorem dL_law_7 : decode cL_law 7 = .ok (.astore_n 1, 1) := by decide +kernel
theorem dL_law_8 : decode cL_law 8 = .ok (.new 10, 3) := by decide +kernel
theorem dL_law_11 : decode cL_law 11 = .ok (.dup, 1) := by decide +kernel
theorem dL_law_12 : decode cL_law 12 = .ok (.invokespecial 12, 3) := by decide +kernel
theorem dL_law_15 : decode cL_law 15 = .ok (.astore_n 2, 1) := by decide +kernel
theorem dL_law_16 : decode cL_law 16 = .ok (.iconst 0, 1) := by decide +kernel
theorem dL_law_17 : decode cL_law 17 = .ok (.istore_n 3, 1) := by decide +kernel
theorem dL_law_18 : decode cL_law 18 = .ok (.iload_n 3, 1) := by decide +kernel
theorem dL_law_19 : decode cL_law 19 = .ok (.aload_n 0, 1) := by decide +kernel
theorem dL_law_20 : decode cL_law 20 = .ok (.arraylength, 1) := by decide +kernel
theorem dL_law_21 : decode cL_law 21 = .ok (.iconst 4, 1) := by decide +kernel
theorem dL_law_22 : decode cL_law 22 = .ok (.isub, 1) := by decide +kernel
theorem dL_law_23 : decode cL_law 23 = .ok (.if_icmp .gt 552, 3) := by decide +kernel
theorem dL_law_26 : decode cL_law 26 = .ok (.aload_n 0, 1) := by decide +kernel
theorem dL_law_27 : decode cL_law 27 = .ok (.iload_n 3, 1) := by decide +kernel
theorem dL_law_28 : decode cL_law 28 = .ok (.iaload, 1) := by decide +kernel
theorem dL_law_29 : decode cL_law 29 = .ok (.bipush 15, 2) := by decide +kernel
theorem dL_law_31 : decode cL_law 31 = .ok (.iand, 1) := by decide +kernel
theorem dL_law_32 : decode cL_law 32 = .ok (.tableswitch 537 0 12 #[68, 81, 114, 147, 180, 223, 262, 321, 334, 383, 442, 491, 514], 68) := by decide +kernel
theorem dL_law_100 : decode cL_law 100 = .ok (.aload_n 1, 1) := by decide +kernel
theorem dL_law_101 : decode cL_law 101 = .ok (.invokevirtual 13, 3) := by decide +kernel
theorem dL_law_104 : decode cL_law 104 = .ok (.aload_n 2, 1) := by decide +kernel
theorem dL_law_105 : decode cL_law 105 = .ok (.invokevirtual 17, 3) := by decide +kernel
theorem dL_law_108 : decode cL_law 108 = .ok (.if_icmp .eq 461, 3) := by decide +kernel
theorem dL_law_111 : decode cL_law 111 = .ok (.iconst 0, 1) := by decide +kernel
theorem dL_law_112 : decode cL_law 112 = .ok (.ireturn, 1) := by decide +kernel
theorem dL_law_113 : decode cL_law 113 = .ok (.aload_n 1, 1) := by decide +kernel
theorem dL_law_114 : decode cL_law 114 = .ok (.aload_n 0, 1) := by decide +kernel
theorem dL_law_115 : decode cL_law 115 = .ok (.iload_n 3, 1) := by decide +kernel
theorem dL_law_116 : decode cL_law 116 = .ok (.iconst 1, 1) := by decide +kernel
theorem dL_law_117 : decode cL_law 117 = .ok (.iadd, 1) := by decide +kernel
theorem dL_law_118 : decode cL_law 118 = .ok (.iaload, 1) := by decide +kernel
theorem dL_law_119 : decode cL_law 119 = .ok (.aload_n 0, 1) := by decide +kernel
theorem dL_law_120 : decode cL_law 120 = .ok (.iload_n 3, 1) := by decide +kernel
theorem dL_law_121 : decode cL_law 121 = .ok (.iconst 2, 1) := by decide +kernel
theorem dL_law_122 : decode cL_law 122 = .ok (.iadd, 1) := by decide +kernel
theorem dL_law_123 : decode cL_law 123 = .ok (.iaload, 1) := by decide +kernel
theorem dL_law_124 : decode cL_law 124 = .ok (.invokevirtual 18, 3) := by decide +kernel
theorem dL_law_127 : decode cL_law 127 = .ok (.aload_n 2, 1) := by decide +kernel
theorem dL_law_128 : decode cL_law 128 = .ok (.aload_n 0, 1) := by decide +kernel
theorem dL_law_129 : decode cL_law 129 = .ok (.iload_n 3, 1) := by decide +kernel
theorem dL_law_130 : decode cL_law 130 = .ok (.iconst 1, 1) := by decide +kernel
theorem dL_law_131 : decode cL_law 131 = .ok (.iadd, 1) := by decide +kernel
theorem dL_law_132 : decode cL_law 132 = .ok (.iaload, 1) := by decide +kernel
theorem dL_law_133 : decode cL_law 133 = .ok (.aload_n 0, 1) := by decide +kernel
theorem dL_law_134 : decode cL_law 134 = .ok (.iload_n 3, 1) := by decide +kernel
theorem dL_law_135 : decode cL_law 135 = .ok (.iconst 2, 1) := by decide +kernel
theorem dL_law_136 : decode cL_law 136 = .ok (.iadd, 1) := by decide +kernel
theorem dL_law_137 : decode cL_law 137 = .ok (.iaload, 1) := by decide +kernel
theorem dL_law_138 : decode cL_law 138 = .ok (.invokevirtual 22, 3) := by decide +kernel
theorem dL_law_141 : decode cL_law 141 = .ok (.if_icmp .eq 428, 3) := by decide +kernel
theorem dL_law_144 : decode cL_law 144 = .ok (.iconst 0, 1) := by decide +kernel
theorem dL_law_145 : decode cL_law 145 = .ok (.ireturn, 1) := by decide +kernel
theorem dL_law_146 : decode cL_law 146 = .ok (.aload_n 1, 1) := by decide +kernel
theorem dL_law_147 : decode cL_law 147 = .ok (.aload_n 0, 1) := by decide +kernel
theorem dL_law_148 : decode cL_law 148 = .ok (.iload_n 3, 1) := by decide +kernel
theorem dL_law_149 : decode cL_law 149 = .ok (.iconst 1, 1) := by decide +kernel
theorem dL_law_150 : decode cL_law 150 = .ok (.iadd, 1) := by decide +kernel
theorem dL_law_151 : decode cL_law 151 = .ok (.iaload, 1) := by decide +kernel
theorem dL_law_152 : decode cL_law 152 = .ok (.aload_n 0, 1) := by decide +kernel
theorem dL_law_153 : decode cL_law 153 = .ok (.iload_n 3, 1) := by decide +kernel
theorem dL_law_154 : decode cL_law 154 = .ok (.iconst 2, 1) := by decide +kernel
theorem dL_law_155 : decode cL_law 155 = .ok (.iadd, 1) := by decide +kernel
theorem dL_law_156 : decode cL_law 156 = .ok (.iaload, 1) := by decide +kernel
theorem dL_law_157 : decode cL_law 157 = .ok (.invokevirtual 23, 3) := by decide +kernel
theorem dL_law_160 : decode cL_law 160 = .ok (.aload_n 2, 1) := by decide +kernel
theorem dL_law_161 : decode cL_law 161 = .ok (.aload_n 0, 1) := by decide +kernel
theorem dL_law_162 : decode cL_law 162 = .ok (.iload_n 3, 1) := by decide +kernel
theorem dL_law_163 : decode cL_law 163 = .ok (.iconst 1, 1) := by decide +kernel
theorem dL_law_164 : decode cL_law 164 = .ok (.iadd, 1) := by decide +kernel
theorem dL_law_165 : decode cL_law 165 = .ok (.iaload, 1) := by decide +kernel
theorem dL_law_166 : decode cL_law 166 = .ok (.aload_n 0, 1) := by decide +kernel
theorem dL_law_167 : decode cL_law 167 = .ok (.iload_n 3, 1) := by decide +kernel
theorem dL_law_168 : decode cL_law 168 = .ok (.iconst 2, 1) := by decide +kernel
theorem dL_law_169 : decode cL_law 169 = .ok (.iadd, 1) := by decide +kernel
theorem dL_law_170 : decode cL_law 170 = .ok (.iaload, 1) := by decide +kernel
theorem dL_law_171 : decode cL_law 171 = .ok (.invokevirtual 26, 3) := by decide +kernel
theorem dL_law_174 : decode cL_law 174 = .ok (.if_icmp .eq 395, 3) := by decide +kernel
theorem dL_law_177 : decode cL_law 177 = .ok (.iconst 0, 1) := by decide +kernel
theorem dL_law_178 : decode cL_law 178 = .ok (.ireturn, 1) := by decide +kernel
theorem dL_law_179 : decode cL_law 179 = .ok (.aload_n 1, 1) := by decide +kernel
theorem dL_law_180 : decode cL_law 180 = .ok (.aload_n 0, 1) := by decide +kernel
theorem dL_law_181 : decode cL_law 181 = .ok (.iload_n 3, 1) := by decide +kernel
theorem dL_law_182 : decode cL_law 182 = .ok (.iconst 1, 1) := by decide +kernel
theorem dL_law_183 : decode cL_law 183 = .ok (.iadd, 1) := by decide +kernel
theorem dL_law_184 : decode cL_law 184 = .ok (.iaload, 1) := by decide +kernel
theorem dL_law_185 : decode cL_law 185 = .ok (.aload_n 0, 1) := by decide +kernel
theorem dL_law_186 : decode cL_law 186 = .ok (.iload_n 3, 1) := by decide +kernel
theorem dL_law_187 : decode cL_law 187 = .ok (.iconst 2, 1) := by decide +kernel
theorem dL_law_188 : decode cL_law 188 = .ok (.iadd, 1) := by decide +kernel
theorem dL_law_189 : decode cL_law 189 = .ok (.iaload, 1) := by decide +kernel
theorem dL_law_190 : decode cL_law 190 = .ok (.invokevirtual 27, 3) := by decide +kernel
theorem dL_law_193 : decode cL_law 193 = .ok (.aload_n 2, 1) := by decide +kernel
theorem dL_law_194 : decode cL_law 194 = .ok (.aload_n 0, 1) := by decide +kernel
theorem dL_law_195 : decode cL_law 195 = .ok (.iload_n 3, 1) := by decide +kernel
theorem dL_law_196 : decode cL_law 196 = .ok (.iconst 1, 1) := by decide +kernel
theorem dL_law_197 : decode cL_law 197 = .ok (.iadd, 1) := by decide +kernel
theorem dL_law_198 : decode cL_law 198 = .ok (.iaload, 1) := by decide +kernel
theorem dL_law_199 : decode cL_law 199 = .ok (.aload_n 0, 1) := by decide +kernel
theorem dL_law_200 : decode cL_law 200 = .ok (.iload_n 3, 1) := by decide +kernel
theorem dL_law_201 : decode cL_law 201 = .ok (.iconst 2, 1) := by decide +kernel
theorem dL_law_202 : decode cL_law 202 = .ok (.iadd, 1) := by decide +kernel
theorem dL_law_203 : decode cL_law 203 = .ok (.iaload, 1) := by decide +kernel
theorem dL_law_204 : decode cL_law 204 = .ok (.invokevirtual 30, 3) := by decide +kernel
theorem dL_law_207 : decode cL_law 207 = .ok (.if_icmp .eq 362, 3) := by decide +kernel
theorem dL_law_210 : decode cL_law 210 = .ok (.iconst 0, 1) := by decide +kernel
theorem dL_law_211 : decode cL_law 211 = .ok (.ireturn, 1) := by decide +kernel
theorem dL_law_212 : decode cL_law 212 = .ok (.aload_n 1, 1) := by decide +kernel
theorem dL_law_213 : decode cL_law 213 = .ok (.aload_n 0, 1) := by decide +kernel
theorem dL_law_214 : decode cL_law 214 = .ok (.iload_n 3, 1) := by decide +kernel
theorem dL_law_215 : decode cL_law 215 = .ok (.iconst 1, 1) := by decide +kernel
theorem dL_law_216 : decode cL_law 216 = .ok (.iadd, 1) := by decide +kernel
theorem dL_law_217 : decode cL_law 217 = .ok (.iaload, 1) := by decide +kernel
theorem dL_law_218 : decode cL_law 218 = .ok (.aload_n 0, 1) := by decide +kernel
theorem dL_law_219 : decode cL_law 219 = .ok (.iload_n 3, 1) := by decide +kernel
theorem dL_law_220 : decode cL_law 220 = .ok (.iconst 2, 1) := by decide +kernel
theorem dL_law_221 : decode cL_law 221 = .ok (.iadd, 1) := by decide +kernel
theorem dL_law_222 : decode cL_law 222 = .ok (.iaload, 1) := by decide +kernel
theorem dL_law_223 : decode cL_law 223 = .ok (.aload_n 0, 1) := by decide +kernel
theorem dL_law_224 : decode cL_law 224 = .ok (.iload_n 3, 1) := by decide +kernel
theorem dL_law_225 : decode cL_law 225 = .ok (.iconst 3, 1) := by decide +kernel
theorem dL_law_226 : decode cL_law 226 = .ok (.iadd, 1) := by decide +kernel
theorem dL_law_227 : decode cL_law 227 = .ok (.iaload, 1) := by decide +kernel
theorem dL_law_228 : decode cL_law 228 = .ok (.invokevirtual 31, 3) := by decide +kernel
theorem dL_law_231 : decode cL_law 231 = .ok (.aload_n 2, 1) := by decide +kernel
theorem dL_law_232 : decode cL_law 232 = .ok (.aload_n 0, 1) := by decide +kernel
theorem dL_law_233 : decode cL_law 233 = .ok (.iload_n 3, 1) := by decide +kernel
theorem dL_law_234 : decode cL_law 234 = .ok (.iconst 1, 1) := by decide +kernel
theorem dL_law_235 : decode cL_law 235 = .ok (.iadd, 1) := by decide +kernel
theorem dL_law_236 : decode cL_law 236 = .ok (.iaload, 1) := by decide +kernel
theorem dL_law_237 : decode cL_law 237 = .ok (.aload_n 0, 1) := by decide +kernel
theorem dL_law_238 : decode cL_law 238 = .ok (.iload_n 3, 1) := by decide +kernel
theorem dL_law_239 : decode cL_law 239 = .ok (.iconst 2, 1) := by decide +kernel
theorem dL_law_240 : decode cL_law 240 = .ok (.iadd, 1) := by decide +kernel
theorem dL_law_241 : decode cL_law 241 = .ok (.iaload, 1) := by decide +kernel
theorem dL_law_242 : decode cL_law 242 = .ok (.aload_n 0, 1) := by decide +kernel
theorem dL_law_243 : decode cL_law 243 = .ok (.iload_n 3, 1) := by decide +kernel
theorem dL_law_244 : decode cL_law 244 = .ok (.iconst 3, 1) := by decide +kernel
theorem dL_law_245 : decode cL_law 245 = .ok (.iadd, 1) := by decide +kernel
theorem dL_law_246 : decode cL_law 246 = .ok (.iaload, 1) := by decide +kernel
theorem dL_law_247 : decode cL_law 247 = .ok (.invokevirtual 35, 3) := by decide +kernel
theorem dL_law_250 : decode cL_law 250 = .ok (.if_icmp .eq 319, 3) := by decide +kernel
theorem dL_law_253 : decode cL_law 253 = .ok (.iconst 0, 1) := by decide +kernel
theorem dL_law_254 : decode cL_law 254 = .ok (.ireturn, 1) := by decide +kernel
theorem dL_law_255 : decode cL_law 255 = .ok (.aload_n 1, 1) := by decide +kernel
theorem dL_law_256 : decode cL_law 256 = .ok (.aload_n 0, 1) := by decide +kernel
theorem dL_law_257 : decode cL_law 257 = .ok (.iload_n 3, 1) := by decide +kernel
theorem dL_law_258 : decode cL_law 258 = .ok (.iconst 1, 1) := by decide +kernel
theorem dL_law_259 : decode cL_law 259 = .ok (.iadd, 1) := by decide +kernel
theorem dL_law_260 : decode cL_law 260 = .ok (.iaload, 1) := by decide +kernel
theorem dL_law_261 : decode cL_law 261 = .ok (.ifCond .eq 7, 3) := by decide +kernel
theorem dL_law_264 : decode cL_law 264 = .ok (.iconst 1, 1) := by decide +kernel
theorem dL_law_265 : decode cL_law 265 = .ok (.goto 4, 3) := by decide +kernel
theorem dL_law_268 : decode cL_law 268 = .ok (.iconst 0, 1) := by decide +kernel
theorem dL_law_269 : decode cL_law 269 = .ok (.invokevirtual 36, 3) := by decide +kernel
theorem dL_law_272 : decode cL_law 272 = .ok (.aload_n 2, 1) := by decide +kernel
theorem dL_law_273 : decode cL_law 273 = .ok (.aload_n 0, 1) := by decide +kernel
theorem dL_law_274 : decode cL_law 274 = .ok (.iload_n 3, 1) := by decide +kernel
theorem dL_law_275 : decode cL_law 275 = .ok (.iconst 1, 1) := by decide +kernel
theorem dL_law_276 : decode cL_law 276 = .ok (.iadd, 1) := by decide +kernel
theorem dL_law_277 : decode cL_law 277 = .ok (.iaload, 1) := by decide +kernel
theorem dL_law_278 : decode cL_law 278 = .ok (.ifCond .eq 7, 3) := by decide +kernel
theorem dL_law_281 : decode cL_law 281 = .ok (.iconst 1, 1) := by decide +kernel
theorem dL_law_282 : decode cL_law 282 = .ok (.goto 4, 3) := by decide +kernel
theorem dL_law_285 : decode cL_law 285 = .ok (.iconst 0, 1) := by decide +kernel
theorem dL_law_286 : decode cL_law 286 = .ok (.invokevirtual 40, 3) := by decide +kernel
theorem dL_law_289 : decode cL_law 289 = .ok (.if_icmp .eq 280, 3) := by decide +kernel
theorem dL_law_292 : decode cL_law 292 = .ok (.iconst 0, 1) := by decide +kernel
theorem dL_law_293 : decode cL_law 293 = .ok (.ireturn, 1) := by decide +kernel
theorem dL_law_294 : decode cL_law 294 = .ok (.aload_n 1, 1) := by decide +kernel
theorem dL_law_295 : decode cL_law 295 = .ok (.aload_n 0, 1) := by decide +kernel
theorem dL_law_296 : decode cL_law 296 = .ok (.iload_n 3, 1) := by decide +kernel
theorem dL_law_297 : decode cL_law 297 = .ok (.iconst 1, 1) := by decide +kernel
theorem dL_law_298 : decode cL_law 298 = .ok (.iadd, 1) := by decide +kernel
theorem dL_law_299 : decode cL_law 299 = .ok (.iaload, 1) := by decide +kernel
theorem dL_law_300 : decode cL_law 300 = .ok (.ifCond .eq 7, 3) := by decide +kernel
theorem dL_law_303 : decode cL_law 303 = .ok (.iconst 1, 1) := by decide +kernel
theorem dL_law_304 : decode cL_law 304 = .ok (.goto 4, 3) := by decide +kernel
theorem dL_law_307 : decode cL_law 307 = .ok (.iconst 0, 1) := by decide +kernel
theorem dL_law_308 : decode cL_law 308 = .ok (.aload_n 0, 1) := by decide +kernel
theorem dL_law_309 : decode cL_law 309 = .ok (.iload_n 3, 1) := by decide +kernel
theorem dL_law_310 : decode cL_law 310 = .ok (.iconst 2, 1) := by decide +kernel
theorem dL_law_311 : decode cL_law 311 = .ok (.iadd, 1) := by decide +kernel
theorem dL_law_312 : decode cL_law 312 = .ok (.iaload, 1) := by decide +kernel
theorem dL_law_313 : decode cL_law 313 = .ok (.aload_n 0, 1) := by decide +kernel
theorem dL_law_314 : decode cL_law 314 = .ok (.iload_n 3, 1) := by decide +kernel
theorem dL_law_315 : decode cL_law 315 = .ok (.iconst 3, 1) := by decide +kernel
theorem dL_law_316 : decode cL_law 316 = .ok (.iadd, 1) := by decide +kernel
theorem dL_law_317 : decode cL_law 317 = .ok (.iaload, 1) := by decide +kernel
theorem dL_law_318 : decode cL_law 318 = .ok (.invokevirtual 41, 3) := by decide +kernel
theorem dL_law_321 : decode cL_law 321 = .ok (.aload_n 2, 1) := by decide +kernel
theorem dL_law_322 : decode cL_law 322 = .ok (.aload_n 0, 1) := by decide +kernel
theorem dL_law_323 : decode cL_law 323 = .ok (.iload_n 3, 1) := by decide +kernel
theorem dL_law_324 : decode cL_law 324 = .ok (.iconst 1, 1) := by decide +kernel
theorem dL_law_325 : decode cL_law 325 = .ok (.iadd, 1) := by decide +kernel
theorem dL_law_326 : decode cL_law 326 = .ok (.iaload, 1) := by decide +kernel
theorem dL_law_327 : decode cL_law 327 = .ok (.ifCond .eq 7, 3) := by decide +kernel
theorem dL_law_330 : decode cL_law 330 = .ok (.iconst 1, 1) := by decide +kernel
theorem dL_law_331 : decode cL_law 331 = .ok (.goto 4, 3) := by decide +kernel
theorem dL_law_334 : decode cL_law 334 = .ok (.iconst 0, 1) := by decide +kernel
theorem dL_law_335 : decode cL_law 335 = .ok (.aload_n 0, 1) := by decide +kernel
theorem dL_law_336 : decode cL_law 336 = .ok (.iload_n 3, 1) := by decide +kernel
theorem dL_law_337 : decode cL_law 337 = .ok (.iconst 2, 1) := by decide +kernel
theorem dL_law_338 : decode cL_law 338 = .ok (.iadd, 1) := by decide +kernel
theorem dL_law_339 : decode cL_law 339 = .ok (.iaload, 1) := by decide +kernel
theorem dL_law_340 : decode cL_law 340 = .ok (.aload_n 0, 1) := by decide +kernel
theorem dL_law_341 : decode cL_law 341 = .ok (.iload_n 3, 1) := by decide +kernel
theorem dL_law_342 : decode cL_law 342 = .ok (.iconst 3, 1) := by decide +kernel
theorem dL_law_343 : decode cL_law 343 = .ok (.iadd, 1) := by decide +kernel
theorem dL_law_344 : decode cL_law 344 = .ok (.iaload, 1) := by decide +kernel
theorem dL_law_345 : decode cL_law 345 = .ok (.invokevirtual 45, 3) := by decide +kernel
theorem dL_law_348 : decode cL_law 348 = .ok (.if_icmp .eq 221, 3) := by decide +kernel
theorem dL_law_351 : decode cL_law 351 = .ok (.iconst 0, 1) := by decide +kernel
theorem dL_law_352 : decode cL_law 352 = .ok (.ireturn, 1) := by decide +kernel
theorem dL_law_353 : decode cL_law 353 = .ok (.aload_n 1, 1) := by decide +kernel
theorem dL_law_354 : decode cL_law 354 = .ok (.invokevirtual 46, 3) := by decide +kernel
theorem dL_law_357 : decode cL_law 357 = .ok (.aload_n 2, 1) := by decide +kernel
theorem dL_law_358 : decode cL_law 358 = .ok (.invokevirtual 49, 3) := by decide +kernel
theorem dL_law_361 : decode cL_law 361 = .ok (.if_icmp .eq 208, 3) := by decide +kernel
theorem dL_law_364 : decode cL_law 364 = .ok (.iconst 0, 1) := by decide +kernel
theorem dL_law_365 : decode cL_law 365 = .ok (.ireturn, 1) := by decide +kernel
theorem dL_law_366 : decode cL_law 366 = .ok (.aload_n 1, 1) := by decide +kernel
theorem dL_law_367 : decode cL_law 367 = .ok (.aload_n 0, 1) := by decide +kernel
theorem dL_law_368 : decode cL_law 368 = .ok (.iload_n 3, 1) := by decide +kernel
theorem dL_law_369 : decode cL_law 369 = .ok (.iconst 1, 1) := by decide +kernel
theorem dL_law_370 : decode cL_law 370 = .ok (.iadd, 1) := by decide +kernel
theorem dL_law_371 : decode cL_law 371 = .ok (.iaload, 1) := by decide +kernel
theorem dL_law_372 : decode cL_law 372 = .ok (.aload_n 0, 1) := by decide +kernel
theorem dL_law_373 : decode cL_law 373 = .ok (.iload_n 3, 1) := by decide +kernel
theorem dL_law_374 : decode cL_law 374 = .ok (.iconst 2, 1) := by decide +kernel
theorem dL_law_375 : decode cL_law 375 = .ok (.iadd, 1) := by decide +kernel
theorem dL_law_376 : decode cL_law 376 = .ok (.iaload, 1) := by decide +kernel
theorem dL_law_377 : decode cL_law 377 = .ok (.ifCond .eq 7, 3) := by decide +kernel
theorem dL_law_380 : decode cL_law 380 = .ok (.iconst 1, 1) := by decide +kernel
theorem dL_law_381 : decode cL_law 381 = .ok (.goto 4, 3) := by decide +kernel
theorem dL_law_384 : decode cL_law 384 = .ok (.iconst 0, 1) := by decide +kernel
theorem dL_law_385 : decode cL_law 385 = .ok (.invokevirtual 50, 3) := by decide +kernel
theorem dL_law_388 : decode cL_law 388 = .ok (.aload_n 2, 1) := by decide +kernel
theorem dL_law_389 : decode cL_law 389 = .ok (.aload_n 0, 1) := by decide +kernel
theorem dL_law_390 : decode cL_law 390 = .ok (.iload_n 3, 1) := by decide +kernel
theorem dL_law_391 : decode cL_law 391 = .ok (.iconst 1, 1) := by decide +kernel
theorem dL_law_392 : decode cL_law 392 = .ok (.iadd, 1) := by decide +kernel
theorem dL_law_393 : decode cL_law 393 = .ok (.iaload, 1) := by decide +kernel
theorem dL_law_394 : decode cL_law 394 = .ok (.aload_n 0, 1) := by decide +kernel
theorem dL_law_395 : decode cL_law 395 = .ok (.iload_n 3, 1) := by decide +kernel
theorem dL_law_396 : decode cL_law 396 = .ok (.iconst 2, 1) := by decide +kernel
theorem dL_law_397 : decode cL_law 397 = .ok (.iadd, 1) := by decide +kernel
theorem dL_law_398 : decode cL_law 398 = .ok (.iaload, 1) := by decide +kernel
theorem dL_law_399 : decode cL_law 399 = .ok (.ifCond .eq 7, 3) := by decide +kernel
theorem dL_law_402 : decode cL_law 402 = .ok (.iconst 1, 1) := by decide +kernel
theorem dL_law_403 : decode cL_law 403 = .ok (.goto 4, 3) := by decide +kernel
theorem dL_law_406 : decode cL_law 406 = .ok (.iconst 0, 1) := by decide +kernel
theorem dL_law_407 : decode cL_law 407 = .ok (.invokevirtual 54, 3) := by decide +kernel
theorem dL_law_410 : decode cL_law 410 = .ok (.if_icmp .eq 159, 3) := by decide +kernel
theorem dL_law_413 : decode cL_law 413 = .ok (.iconst 0, 1) := by decide +kernel
theorem dL_law_414 : decode cL_law 414 = .ok (.ireturn, 1) := by decide +kernel
theorem dL_law_415 : decode cL_law 415 = .ok (.aload_n 1, 1) := by decide +kernel
theorem dL_law_416 : decode cL_law 416 = .ok (.aload_n 0, 1) := by decide +kernel
theorem dL_law_417 : decode cL_law 417 = .ok (.iload_n 3, 1) := by decide +kernel
theorem dL_law_418 : decode cL_law 418 = .ok (.iconst 1, 1) := by decide +kernel
theorem dL_law_419 : decode cL_law 419 = .ok (.iadd, 1) := by decide +kernel
theorem dL_law_420 : decode cL_law 420 = .ok (.iaload, 1) := by decide +kernel
theorem dL_law_421 : decode cL_law 421 = .ok (.aload_n 0, 1) := by decide +kernel
theorem dL_law_422 : decode cL_law 422 = .ok (.iload_n 3, 1) := by decide +kernel
theorem dL_law_423 : decode cL_law 423 = .ok (.iconst 2, 1) := by decide +kernel
theorem dL_law_424 : decode cL_law 424 = .ok (.iadd, 1) := by decide +kernel
theorem dL_law_425 : decode cL_law 425 = .ok (.iaload, 1) := by decide +kernel
theorem dL_law_426 : decode cL_law 426 = .ok (.ifCond .eq 7, 3) := by decide +kernel
theorem dL_law_429 : decode cL_law 429 = .ok (.iconst 1, 1) := by decide +kernel
theorem dL_law_430 : decode cL_law 430 = .ok (.goto 4, 3) := by decide +kernel
theorem dL_law_433 : decode cL_law 433 = .ok (.iconst 0, 1) := by decide +kernel
theorem dL_law_434 : decode cL_law 434 = .ok (.aload_n 0, 1) := by decide +kernel
theorem dL_law_435 : decode cL_law 435 = .ok (.iload_n 3, 1) := by decide +kernel
theorem dL_law_436 : decode cL_law 436 = .ok (.iconst 3, 1) := by decide +kernel
theorem dL_law_437 : decode cL_law 437 = .ok (.iadd, 1) := by decide +kernel
theorem dL_law_438 : decode cL_law 438 = .ok (.iaload, 1) := by decide +kernel
theorem dL_law_439 : decode cL_law 439 = .ok (.invokevirtual 55, 3) := by decide +kernel
theorem dL_law_442 : decode cL_law 442 = .ok (.aload_n 2, 1) := by decide +kernel
theorem dL_law_443 : decode cL_law 443 = .ok (.aload_n 0, 1) := by decide +kernel
theorem dL_law_444 : decode cL_law 444 = .ok (.iload_n 3, 1) := by decide +kernel
theorem dL_law_445 : decode cL_law 445 = .ok (.iconst 1, 1) := by decide +kernel
theorem dL_law_446 : decode cL_law 446 = .ok (.iadd, 1) := by decide +kernel
theorem dL_law_447 : decode cL_law 447 = .ok (.iaload, 1) := by decide +kernel
theorem dL_law_448 : decode cL_law 448 = .ok (.aload_n 0, 1) := by decide +kernel
theorem dL_law_449 : decode cL_law 449 = .ok (.iload_n 3, 1) := by decide +kernel
theorem dL_law_450 : decode cL_law 450 = .ok (.iconst 2, 1) := by decide +kernel
theorem dL_law_451 : decode cL_law 451 = .ok (.iadd, 1) := by decide +kernel
theorem dL_law_452 : decode cL_law 452 = .ok (.iaload, 1) := by decide +kernel
theorem dL_law_453 : decode cL_law 453 = .ok (.ifCond .eq 7, 3) := by decide +kernel
theorem dL_law_456 : decode cL_law 456 = .ok (.iconst 1, 1) := by decide +kernel
theorem dL_law_457 : decode cL_law 457 = .ok (.goto 4, 3) := by decide +kernel
theorem dL_law_460 : decode cL_law 460 = .ok (.iconst 0, 1) := by decide +kernel
theorem dL_law_461 : decode cL_law 461 = .ok (.aload_n 0, 1) := by decide +kernel
theorem dL_law_462 : decode cL_law 462 = .ok (.iload_n 3, 1) := by decide +kernel
theorem dL_law_463 : decode cL_law 463 = .ok (.iconst 3, 1) := by decide +kernel
theorem dL_law_464 : decode cL_law 464 = .ok (.iadd, 1) := by decide +kernel
theorem dL_law_465 : decode cL_law 465 = .ok (.iaload, 1) := by decide +kernel
theorem dL_law_466 : decode cL_law 466 = .ok (.invokevirtual 59, 3) := by decide +kernel
theorem dL_law_469 : decode cL_law 469 = .ok (.if_icmp .eq 100, 3) := by decide +kernel
theorem dL_law_472 : decode cL_law 472 = .ok (.iconst 0, 1) := by decide +kernel
theorem dL_law_473 : decode cL_law 473 = .ok (.ireturn, 1) := by decide +kernel
theorem dL_law_474 : decode cL_law 474 = .ok (.aload_n 1, 1) := by decide +kernel
theorem dL_law_475 : decode cL_law 475 = .ok (.aload_n 0, 1) := by decide +kernel
theorem dL_law_476 : decode cL_law 476 = .ok (.iload_n 3, 1) := by decide +kernel
theorem dL_law_477 : decode cL_law 477 = .ok (.iconst 1, 1) := by decide +kernel
theorem dL_law_478 : decode cL_law 478 = .ok (.iadd, 1) := by decide +kernel
theorem dL_law_479 : decode cL_law 479 = .ok (.iaload, 1) := by decide +kernel
theorem dL_law_480 : decode cL_law 480 = .ok (.ifCond .eq 7, 3) := by decide +kernel
theorem dL_law_483 : decode cL_law 483 = .ok (.iconst 1, 1) := by decide +kernel
theorem dL_law_484 : decode cL_law 484 = .ok (.goto 4, 3) := by decide +kernel
theorem dL_law_487 : decode cL_law 487 = .ok (.iconst 0, 1) := by decide +kernel
theorem dL_law_488 : decode cL_law 488 = .ok (.aload_n 0, 1) := by decide +kernel
theorem dL_law_489 : decode cL_law 489 = .ok (.iload_n 3, 1) := by decide +kernel
theorem dL_law_490 : decode cL_law 490 = .ok (.iconst 2, 1) := by decide +kernel
theorem dL_law_491 : decode cL_law 491 = .ok (.iadd, 1) := by decide +kernel
theorem dL_law_492 : decode cL_law 492 = .ok (.iaload, 1) := by decide +kernel
theorem dL_law_493 : decode cL_law 493 = .ok (.invokevirtual 60, 3) := by decide +kernel
theorem dL_law_496 : decode cL_law 496 = .ok (.aload_n 2, 1) := by decide +kernel
theorem dL_law_497 : decode cL_law 497 = .ok (.aload_n 0, 1) := by decide +kernel
theorem dL_law_498 : decode cL_law 498 = .ok (.iload_n 3, 1) := by decide +kernel
theorem dL_law_499 : decode cL_law 499 = .ok (.iconst 1, 1) := by decide +kernel
theorem dL_law_500 : decode cL_law 500 = .ok (.iadd, 1) := by decide +kernel
theorem dL_law_501 : decode cL_law 501 = .ok (.iaload, 1) := by decide +kernel
theorem dL_law_502 : decode cL_law 502 = .ok (.ifCond .eq 7, 3) := by decide +kernel
theorem dL_law_505 : decode cL_law 505 = .ok (.iconst 1, 1) := by decide +kernel
theorem dL_law_506 : decode cL_law 506 = .ok (.goto 4, 3) := by decide +kernel
theorem dL_law_509 : decode cL_law 509 = .ok (.iconst 0, 1) := by decide +kernel
theorem dL_law_510 : decode cL_law 510 = .ok (.aload_n 0, 1) := by decide +kernel
theorem dL_law_511 : decode cL_law 511 = .ok (.iload_n 3, 1) := by decide +kernel
theorem dL_law_512 : decode cL_law 512 = .ok (.iconst 2, 1) := by decide +kernel
theorem dL_law_513 : decode cL_law 513 = .ok (.iadd, 1) := by decide +kernel
theorem dL_law_514 : decode cL_law 514 = .ok (.iaload, 1) := by decide +kernel
theorem dL_law_515 : decode cL_law 515 = .ok (.invokevirtual 64, 3) := by decide +kernel
theorem dL_law_518 : decode cL_law 518 = .ok (.if_icmp .eq 51, 3) := by decide +kernel
theorem dL_law_521 : decode cL_law 521 = .ok (.iconst 0, 1) := by decide +kernel
theorem dL_law_522 : decode cL_law 522 = .ok (.ireturn, 1) := by decide +kernel
theorem dL_law_523 : decode cL_law 523 = .ok (.aload_n 1, 1) := by decide +kernel
theorem dL_law_524 : decode cL_law 524 = .ok (.aload_n 0, 1) := by decide +kernel
theorem dL_law_525 : decode cL_law 525 = .ok (.iload_n 3, 1) := by decide +kernel
theorem dL_law_526 : decode cL_law 526 = .ok (.iconst 1, 1) := by decide +kernel
theorem dL_law_527 : decode cL_law 527 = .ok (.iadd, 1) := by decide +kernel
theorem dL_law_528 : decode cL_law 528 = .ok (.iaload, 1) := by decide +kernel
theorem dL_law_529 : decode cL_law 529 = .ok (.invokevirtual 65, 3) := by decide +kernel
theorem dL_law_532 : decode cL_law 532 = .ok (.aload_n 2, 1) := by decide +kernel
theorem dL_law_533 : decode cL_law 533 = .ok (.aload_n 0, 1) := by decide +kernel
theorem dL_law_534 : decode cL_law 534 = .ok (.iload_n 3, 1) := by decide +kernel
theorem dL_law_535 : decode cL_law 535 = .ok (.iconst 1, 1) := by decide +kernel
theorem dL_law_536 : decode cL_law 536 = .ok (.iadd, 1) := by decide +kernel
theorem dL_law_537 : decode cL_law 537 = .ok (.iaload, 1) := by decide +kernel
theorem dL_law_538 : decode cL_law 538 = .ok (.invokevirtual 69, 3) := by decide +kernel
theorem dL_law_541 : decode cL_law 541 = .ok (.if_icmp .eq 28, 3) := by decide +kernel
theorem dL_law_544 : decode cL_law 544 = .ok (.iconst 0, 1) := by decide +kernel
theorem dL_law_545 : decode cL_law 545 = .ok (.ireturn, 1) := by decide +kernel
theorem dL_law_546 : decode cL_law 546 = .ok (.aload_n 1, 1) := by decide +kernel
theorem dL_law_547 : decode cL_law 547 = .ok (.aload_n 0, 1) := by decide +kernel
theorem dL_law_548 : decode cL_law 548 = .ok (.iload_n 3, 1) := by decide +kernel
theorem dL_law_549 : decode cL_law 549 = .ok (.iconst 1, 1) := by decide +kernel
theorem dL_law_550 : decode cL_law 550 = .ok (.iadd, 1) := by decide +kernel
theorem dL_law_551 : decode cL_law 551 = .ok (.iaload, 1) := by decide +kernel
theorem dL_law_552 : decode cL_law 552 = .ok (.invokevirtual 70, 3) := by decide +kernel
theorem dL_law_555 : decode cL_law 555 = .ok (.aload_n 2, 1) := by decide +kernel
theorem dL_law_556 : decode cL_law 556 = .ok (.aload_n 0, 1) := by decide +kernel
theorem dL_law_557 : decode cL_law 557 = .ok (.iload_n 3, 1) := by decide +kernel
theorem dL_law_558 : decode cL_law 558 = .ok (.iconst 1, 1) := by decide +kernel
theorem dL_law_559 : decode cL_law 559 = .ok (.iadd, 1) := by decide +kernel
theorem dL_law_560 : decode cL_law 560 = .ok (.iaload, 1) := by decide +kernel
theorem dL_law_561 : decode cL_law 561 = .ok (.invokevirtual 73, 3) := by decide +kernel
theorem dL_law_564 : decode cL_law 564 = .ok (.if_icmp .eq 5, 3) := by decide +kernel
theorem dL_law_567 : decode cL_law 567 = .ok (.iconst 0, 1) := by decide +kernel
theorem dL_law_568 : decode cL_law 568 = .ok (.ireturn, 1) := by decide +kernel
theorem dL_law_569 : decode cL_law 569 = .ok (.iinc 3 4, 3) := by decide +kernel
theorem dL_law_572 : decode cL_law 572 = .ok (.goto (-554), 3) := by decide +kernel
theorem dL_law_575 : decode cL_law 575 = .ok (.iconst 1, 1) := by decide +kernel
theorem dL_law_576 : decode cL_law 576 = .ok (.ireturn, 1) := by decide +kernel
abbrev vwCl : List vw_C := [(RX0, TX0, 8), (RX1, TX1, 8), (RX2, TX2, 5), (RX3, TX3, 11)]
end
section
/-! rows of this claim over the kit's: contracts in one shape, numbers as nI of a natural number -/
abbrev xTy (cyI cyJ : ClassId) : List (ClassId × FieldType) := [(cyI, .int), (cyJ, .long)]
/-- the words of nest mates -/
def nw_all : List Cond := [.methodLinkNest "NetTwin" 11 yX0_init "NetTwin", .methodLinkNest "NetTwin" 42 yX0_addInput "NetTwin", .methodLinkNest "NetTwin" 46 yX0_both "NetTwin", .methodLinkNest "NetTwin$Net" 46 yX1_not "NetTwin", .methodLinkNest "NetTwin" 50 yX0_either "NetTwin", .methodLinkNest "NetTwin" 57 yX0_holds "NetTwin", .methodLinkNest "NetTwin" 114 yX0_clear "NetTwin", .methodLinkNest "NetTwin" 120 yX0_isGate "NetTwin", .methodLinkNest "NetTwin" 111 yX0_spread "NetTwin", .methodLinkNest "NetTwin" 90 yX0_wordOf "NetTwin", .methodLinkNest "NetTwinModel" 94 yX2_more "NetTwinModel", .fieldLinkNest "NetTwin" 72 "NetTwin$Net" "lesser" "[I" "NetTwin", .fieldLinkNest "NetTwin" 75 "NetTwin$Net" "other" "[I" "NetTwin", .fieldLinkNest "NetTwin" 126 "NetTwin$Net" "inputNode" "[I" "NetTwin", .fieldLinkNest "NetTwin" 129 "NetTwin$Net" "word" "[J" "NetTwin", .fieldLinkNest "NetTwin" 61 "NetTwin$Net" "nodeCount" "I" "NetTwin", .fieldLinkNest "NetTwin" 84 "NetTwin$Net" "inputCount" "I" "NetTwin"]
def nw_is : Cond → Bool
  | .methodLinkNest .. => true
  | .fieldLinkNest .. => true
  | _ => false
def NN (U : State) : Prop := ∀ w ∈ nw_all, va_Nw w U
theorem nw_ok : ∀ w ∈ nw_all, nw_is w = true := by decide +kernel
theorem nw_tab {w : Cond} (h : nw_is w = true) : w.onTables = true := by
  cases w <;> first | rfl | (simp [nw_is] at h)
theorem nw_warm {w : Cond} (h : nw_is w = true) {s U : State} (hW : s.WarmedH U.vm) (hZ : va_Nw w s) : va_Nw w U := by
  cases w <;> first | (simp [nw_is] at h; done) | exact va_Nw.warmF hW hZ | exact va_Nw.warmM hW hZ
theorem NN.warm {s U : State} (hW : s.WarmedH U.vm) (h : NN s) : NN U := fun w hw => nw_warm (nw_ok w hw) hW (h w hw)
theorem NN.same {s U : State} (e : s.vm = U.vm) (h : NN s) : NN U := fun w hw => va_Nw.same (nw_tab (nw_ok w hw)) e (h w hw)
theorem NN.get {s : State} {args : Array Value} (h : NN s) (w : Cond) (hw : w ∈ nw_all) : w.before args s = true := va_Nw.use (nw_tab (nw_ok w hw)) (h w hw)
theorem NN.at {s : State} (h : NN s) (w : Cond) (hw : w ∈ nw_all) : va_Nw w s := h w hw
/-- a contract's start: the world ws; its end: the world w1 -/
def xA (D : va_G) (tys : List (ClassId × FieldType)) (sz : Nat) (ws : va_W) (U : State) : Prop := U.heap.size = sz ∧ va_P D vwCl ws U.heap ∧ va_K D vwCl tys U ∧ va_D (fun _ => True) ws ∧ NN U
def xB (D : va_G) (tys : List (ClassId × FieldType)) (sz : Nat) (ws w1 : va_W) (t : State) : Prop := va_P D vwCl w1 t.heap ∧ va_K D vwCl tys t ∧ va_D (va_A ws sz) w1
theorem xA.blind (D : va_G) (tys : List (ClassId × FieldType)) (sz : Nat) (ws : va_W) (av : List Value) : FrameBlind (va_Pc av (xA D tys sz ws)) := fun a U g mk q => by
  obtain ⟨q0, q1, qP, qK, qD, qN⟩ := q
  exact ⟨q0, q1, qP, va_K.moved (u := U) (U := U.calling g mk a) (Vm.Alike.refl U.vm) qK, qD, NN.same (s := U) (U := U.calling g mk a) rfl qN⟩
theorem x_sub {α : Type} {ws ws' : List α} {is : List Nat} (h : is.map (fun i => ws[i]?) = ws'.map some) : is.filterMap (fun i => ws[i]?) = ws' := by
  have e : is.filterMap (fun i => ws[i]?) = (is.map (fun i => ws[i]?)).filterMap id := by
    rw [List.filterMap_map]; rfl
  rw [e, h, List.filterMap_map]
  simp
section XROWS
variable {p : Program} {l : Launch} {e : Env} {R : Room} {s : State} {m : MethodId} {args : Array Value} {below : List Frame} {meth : Method} {c : Code} {H : Heap} {locs : List Loc} {cells slots : Nat} {Q : State → Prop}
variable {cc : ByteArray} {pc : Nat} {ls : Array Slot} {rest st0 : List Value} {D : va_G} {tys : List (ClassId × FieldType)} {A0 : Nat → Prop} {H0 : Heap} {mc ms : Nat} {a : Array Value} {ws wc wr : va_W}
theorem x_pre {av As : List Value} {sA : Nat} (hK : va_K D vwCl tys s) (hN : NN s) (hP : va_P D vwCl wc H) (hD : va_D A0 wc) (hav : av = As) (hs : H.size = sA) : PreS s H (va_Pc av (xA D tys sA wc)) As :=
  ⟨xA.blind D tys sA wc av, fun U hU hW => ⟨by rw [hav], by rw [hU]; exact hs, by rw [hU]; exact hP, va_K.moved hW.alike hK, hD.weaken (fun _ _ _ _ => trivial), hN.warm hW⟩⟩
theorem x_preV {av As : List Value} {sA b ci q0 : Nat} {C : String} {q : vw_C} {fs : List Value} (hK : va_K D vwCl tys s) (hN : NN s) (hP : va_P D vwCl wc H) (hD : va_D A0 wc) (hav : av = .ref b :: As) (hs : H.size = sA) (hc : vwCl[ci]? = some q) (he : wc[q0]? = some (b, .inr (ci, fs))) (hC : q.1 = C) : PreV s H C b (va_Pc av (xA D tys sA wc)) As :=
  ⟨xA.blind D tys sA wc av, by rw [← hC]; exact va_recv hK hP hc he, fun U hU hW => ⟨by rw [hav], by rw [hU]; exact hs, by rw [hU]; exact hP, va_K.moved hW.alike hK, hD.weaken (fun _ _ _ _ => trivial), hN.warm hW⟩⟩
theorem x_back {S : Type} {w1 w2 : S → va_W} (u : S) {H1 : Heap} {t : State} (isC isR isB : List Nat) (hP : va_P D vwCl ws H) (hD : va_D A0 ws) (hS : va_S A0 H0 H locs) (hA : ∀ q, H0.size ≤ q → A0 q) (hC : isC.map (fun i => ws[i]?) = wc.map some) (hR : isR.map (fun i => ws[i]?) = wr.map some) (hn : va_nd isR = true) (hdis : ∀ i ∈ isR, i ∉ isC) (hB2 : isB.map (fun i => (wr ++ w1 u)[i]?) = (w2 u).map some) (hn2 : va_nd isB = true)
    (ht : t.heap = H1) (hk : ∀ q : Nat, q < H.size → ¬ va_A wc H.size q → H1[q]? = H[q]?) (hB : xB D tys H.size wc (w1 u) t) : va_P D vwCl (w2 u) H1 ∧ va_D A0 (w2 u) := by
  obtain ⟨hP1, hK1, hD1⟩ := hB
  rw [ht] at hP1
  obtain ⟨h2, h3⟩ := va_join hP hD isC isR hC hR hn hdis hk (va_free hD hS hA isC hC) hP1 hD1
  exact ⟨h2.sub isB (x_sub hB2), h3.sub isB hn2 hB2⟩
theorem x_calli {S : Type} {post : Int32 → S → Prop} {w1 w2 : S → va_W} {sA : Nat} (isC isR isB : List Nat) (hr : va_Run p l e R s m args below meth c H locs cells slots mc ms (F0 m pc ls st0) rest (va_Qi post (fun u t => xB D tys sA wc (w1 u) t) (va_A wc sA) a) (va_A wc sA)) (hs : H.size = sA)
    (hP : va_P D vwCl ws H) (hD : va_D A0 ws) (hS : va_S A0 H0 H locs) (hA : ∀ q, H0.size ≤ q → A0 q) (hC : isC.map (fun i => ws[i]?) = wc.map some) (hR : isR.map (fun i => ws[i]?) = wr.map some) (hn : va_nd isR = true) (hdis : ∀ i ∈ isR, i ∉ isC) (hB2 : ∀ u : S, isB.map (fun i => (wr ++ w1 u)[i]?) = (w2 u).map some) (hn2 : va_nd isB = true)
    (kk : ∀ (r : Int32) (u : S) (H1 : Heap) (locs1 : List Loc), post r u → va_P D vwCl (w2 u) H1 → va_D A0 (w2 u) → va_S A0 H0 H1 locs1 → H.size ≤ H1.size → W p l e R s m args below meth c H1 locs1 (cells + mc) (slots + ms) Q (F0 m (pc + 3) ls (.int r :: rest))) : W p l e R s m args below meth c H locs cells slots Q (F0 m pc ls st0) := by
  subst hs
  refine va_calli hr hS (fun q _ h => va_free hD hS hA isC hC q h) (fun q h => va_free hD hS hA isC hC q h) (fun r u t H1 locs1 ht _ hw hB hz hk hS1 => ?_)
  obtain ⟨h2, h3⟩ := x_back (w1 := w1) (w2 := w2) u isC isR isB hP hD hS hA hC hR hn hdis (hB2 u) hn2 ht hk hB
  exact kk r u H1 locs1 hw h2 h3 hS1 hz
theorem x_calll {S : Type} {post : Int64 → S → Prop} {w1 w2 : S → va_W} {sA : Nat} (isC isR isB : List Nat) (hr : va_Run p l e R s m args below meth c H locs cells slots mc ms (F0 m pc ls st0) rest (va_Ql post (fun u t => xB D tys sA wc (w1 u) t) (va_A wc sA) a) (va_A wc sA)) (hs : H.size = sA)
    (hP : va_P D vwCl ws H) (hD : va_D A0 ws) (hS : va_S A0 H0 H locs) (hA : ∀ q, H0.size ≤ q → A0 q) (hC : isC.map (fun i => ws[i]?) = wc.map some) (hR : isR.map (fun i => ws[i]?) = wr.map some) (hn : va_nd isR = true) (hdis : ∀ i ∈ isR, i ∉ isC) (hB2 : ∀ u : S, isB.map (fun i => (wr ++ w1 u)[i]?) = (w2 u).map some) (hn2 : va_nd isB = true)
    (kk : ∀ (r : Int64) (u : S) (H1 : Heap) (locs1 : List Loc), post r u → va_P D vwCl (w2 u) H1 → va_D A0 (w2 u) → va_S A0 H0 H1 locs1 → H.size ≤ H1.size → W p l e R s m args below meth c H1 locs1 (cells + mc) (slots + ms) Q (F0 m (pc + 3) ls (.long r :: rest))) : W p l e R s m args below meth c H locs cells slots Q (F0 m pc ls st0) := by
  subst hs
  refine va_calll hr hS (fun q _ h => va_free hD hS hA isC hC q h) (fun q h => va_free hD hS hA isC hC q h) (fun r u t H1 locs1 ht _ hw hB hz hk hS1 => ?_)
  obtain ⟨h2, h3⟩ := x_back (w1 := w1) (w2 := w2) u isC isR isB hP hD hS hA hC hR hn hdis (hB2 u) hn2 ht hk hB
  exact kk r u H1 locs1 hw h2 h3 hS1 hz
theorem x_callv {S : Type} {post : S → Prop} {w1 w2 : S → va_W} {sA : Nat} (isC isR isB : List Nat) (hr : va_Run p l e R s m args below meth c H locs cells slots mc ms (F0 m pc ls st0) rest (va_Qv post (fun u t => xB D tys sA wc (w1 u) t) (va_A wc sA) a) (va_A wc sA)) (hs : H.size = sA)
    (hP : va_P D vwCl ws H) (hD : va_D A0 ws) (hS : va_S A0 H0 H locs) (hA : ∀ q, H0.size ≤ q → A0 q) (hC : isC.map (fun i => ws[i]?) = wc.map some) (hR : isR.map (fun i => ws[i]?) = wr.map some) (hn : va_nd isR = true) (hdis : ∀ i ∈ isR, i ∉ isC) (hB2 : ∀ u : S, isB.map (fun i => (wr ++ w1 u)[i]?) = (w2 u).map some) (hn2 : va_nd isB = true)
    (kk : ∀ (u : S) (H1 : Heap) (locs1 : List Loc), post u → va_P D vwCl (w2 u) H1 → va_D A0 (w2 u) → va_S A0 H0 H1 locs1 → H.size ≤ H1.size → W p l e R s m args below meth c H1 locs1 (cells + mc) (slots + ms) Q (F0 m (pc + 3) ls rest)) : W p l e R s m args below meth c H locs cells slots Q (F0 m pc ls st0) := by
  subst hs
  refine va_callv hr hS (fun q _ h => va_free hD hS hA isC hC q h) (fun q h => va_free hD hS hA isC hC q h) (fun u t H1 locs1 ht _ hw hB hz hk hS1 => ?_)
  obtain ⟨h2, h3⟩ := x_back (w1 := w1) (w2 := w2) u isC isR isB hP hD hS hA hC hR hn hdis (hB2 u) hn2 ht hk hB
  exact kk u H1 locs1 hw h2 h3 hS1 hz
/-- an answer that is a cell: its address is a part of u -/
theorem x_callr {S : Type} {post : S → Prop} {w1 w2 : S → Nat → va_W} {sA : Nat} (isC isR isB : List Nat) (hr : va_Run p l e R s m args below meth c H locs cells slots mc ms (F0 m pc ls st0) rest (va_Qr post (fun u ra t => xB D tys sA wc (w1 u ra) t) (va_A wc sA) a) (va_A wc sA)) (hs : H.size = sA)
    (hP : va_P D vwCl ws H) (hD : va_D A0 ws) (hS : va_S A0 H0 H locs) (hA : ∀ q, H0.size ≤ q → A0 q) (hC : isC.map (fun i => ws[i]?) = wc.map some) (hR : isR.map (fun i => ws[i]?) = wr.map some) (hn : va_nd isR = true) (hdis : ∀ i ∈ isR, i ∉ isC) (hB2 : ∀ (u : S) (ra : Nat), isB.map (fun i => (wr ++ w1 u ra)[i]?) = (w2 u ra).map some) (hn2 : va_nd isB = true)
    (kk : ∀ (u : S) (ra : Nat) (H1 : Heap) (locs1 : List Loc), post u → va_P D vwCl (w2 u ra) H1 → va_D A0 (w2 u ra) → va_S A0 H0 H1 locs1 → H.size ≤ H1.size → W p l e R s m args below meth c H1 locs1 (cells + mc) (slots + ms) Q (F0 m (pc + 3) ls (.ref ra :: rest))) : W p l e R s m args below meth c H locs cells slots Q (F0 m pc ls st0) := by
  subst hs
  refine va_callr hr hS (fun q _ h => va_free hD hS hA isC hC q h) (fun q h => va_free hD hS hA isC hC q h) (fun u ra t H1 locs1 ht _ hw hB hz hk hS1 => ?_)
  obtain ⟨h2, h3⟩ := x_back (S := S × Nat) (w1 := fun v => w1 v.1 v.2) (w2 := fun v => w2 v.1 v.2) (u, ra) isC isR isB hP hD hS hA hC hR hn hdis (hB2 u ra) hn2 ht hk hB
  exact kk u ra H1 locs1 hw h2 h3 hS1 hz
-- ends
theorem x_iret {S : Type} {post : Int32 → S → Prop} {w1 : S → va_W} {sA : Nat} {w0 : va_W} {r : Int32} {ty : FieldType} {A : Nat → Prop} (hQ : Q = MQ below (va_Qi post (fun u t => xB D tys sA w0 (w1 u) t) (va_A w0 sA)) args s mc ms (va_A w0 sA)) (hAe : A = va_A w0 sA) (hexec : p.tables.exec = Jvm.exec) (hb : c.code = cc) (hr : meth.sig.returnType = some ty) (hlocks : meth.locks = false) (hn : narrow ty (.int r) = .int r) (hS : va_S A s.heap H locs) (hK : va_K D vwCl tys s) (hmc : cells ≤ mc) (hms : slots ≤ ms) (hdg : decode cc pc = .ok (.ireturn, 1)) (u : S) (hP : va_P D vwCl (w1 u) H) (hD : va_D A (w1 u)) (hpost : post r u) : W p l e R s m args below meth c H locs cells slots Q (F0 m pc ls [.int r]) := by
  subst hAe hQ
  refine W.widen (k := mc) (n := ms) hmc hms ?_
  exact W.zret hexec hb hr hn (fun t ht hW => ⟨⟨r, u, rfl, hpost, by rw [ht]; exact hP, va_K.moved hW.alike hK, hD⟩, hS.F ht⟩) hS.2.2 hdg hlocks
theorem x_lret {S : Type} {post : Int64 → S → Prop} {w1 : S → va_W} {sA : Nat} {w0 : va_W} {r : Int64} {A : Nat → Prop} (hQ : Q = MQ below (va_Ql post (fun u t => xB D tys sA w0 (w1 u) t) (va_A w0 sA)) args s mc ms (va_A w0 sA)) (hAe : A = va_A w0 sA) (hexec : p.tables.exec = Jvm.exec) (hb : c.code = cc) (hr : meth.sig.returnType = some .long) (hlocks : meth.locks = false) (hS : va_S A s.heap H locs) (hK : va_K D vwCl tys s) (hmc : cells ≤ mc) (hms : slots ≤ ms) (hdg : decode cc pc = .ok (.lreturn, 1)) (u : S) (hP : va_P D vwCl (w1 u) H) (hD : va_D A (w1 u)) (hpost : post r u) : W p l e R s m args below meth c H locs cells slots Q (F0 m pc ls [.long r]) := by
  subst hAe hQ
  refine W.widen (k := mc) (n := ms) hmc hms ?_
  exact W.lret hexec hb hr (fun t ht hW => ⟨⟨r, u, rfl, hpost, by rw [ht]; exact hP, va_K.moved hW.alike hK, hD⟩, hS.F ht⟩) hS.2.2 hdg hlocks
theorem x_vret {S : Type} {post : S → Prop} {w1 : S → va_W} {sA : Nat} {w0 : va_W} {A : Nat → Prop} (hQ : Q = MQ below (va_Qv post (fun u t => xB D tys sA w0 (w1 u) t) (va_A w0 sA)) args s mc ms (va_A w0 sA)) (hAe : A = va_A w0 sA) (hexec : p.tables.exec = Jvm.exec) (hb : c.code = cc) (hr : meth.sig.returnType = none) (hlocks : meth.locks = false) (hS : va_S A s.heap H locs) (hK : va_K D vwCl tys s) (hmc : cells ≤ mc) (hms : slots ≤ ms) (hdg : decode cc pc = .ok (.return_, 1)) (u : S) (hP : va_P D vwCl (w1 u) H) (hD : va_D A (w1 u)) (hpost : post u) : W p l e R s m args below meth c H locs cells slots Q (F0 m pc ls []) := by
  subst hAe hQ
  refine W.widen (k := mc) (n := ms) hmc hms ?_
  exact W.vret hexec hb hr (fun t ht hW => ⟨⟨u, rfl, hpost, by rw [ht]; exact hP, va_K.moved hW.alike hK, hD⟩, hS.F ht⟩) hS.2.2 hdg hlocks
theorem x_aret {S : Type} {post : S → Prop} {w1 : S → Nat → va_W} {sA : Nat} {w0 : va_W} {ra : Nat} {rt : FieldType} {A : Nat → Prop} (hQ : Q = MQ below (va_Qr post (fun u ra t => xB D tys sA w0 (w1 u ra) t) (va_A w0 sA)) args s mc ms (va_A w0 sA)) (hAe : A = va_A w0 sA) (hexec : p.tables.exec = Jvm.exec) (hb : c.code = cc) (hr : meth.sig.returnType = some rt) (hrt : (∃ n, rt = .object n) ∨ ∃ t, rt = .array t) (hlocks : meth.locks = false) (hS : va_S A s.heap H locs) (hK : va_K D vwCl tys s) (hmc : cells ≤ mc) (hms : slots ≤ ms) (hdg : decode cc pc = .ok (.areturn, 1)) (u : S) (hP : va_P D vwCl (w1 u ra) H) (hD : va_D A (w1 u ra)) (hpost : post u) : W p l e R s m args below meth c H locs cells slots Q (F0 m pc ls [.ref ra]) := by
  subst hAe hQ
  refine W.widen (k := mc) (n := ms) hmc hms ?_
  exact W.aret hexec hb hr hrt (Or.inr ⟨ra, rfl⟩) (fun t ht hW => ⟨⟨u, ra, rfl, hpost, by rw [ht]; exact hP, va_K.moved hW.alike hK, hD⟩, hS.F ht⟩) hS.2.2 hdg hlocks
end XROWS
end
section
/-! numbers as nI of a natural number; truth as a number; a method's start -/
def bI (P : Prop) [Decidable P] : Int32 := if P then 1 else 0
theorem bI_0 {P : Prop} [Decidable P] : bI P = 0 ↔ ¬ P := by
  unfold bI; by_cases h : P <;> simp [h]
theorem bI_z {P : Prop} [Decidable P] : narrow .boolean (.int (bI P)) = .int (bI P) := by
  unfold bI; by_cases h : P <;> simp only [h, if_true, if_false] <;> rfl
theorem bI_t {P : Prop} [Decidable P] (h : P) : (1 : Int32) = bI P := by simp [bI, h]
theorem bI_f {P : Prop} [Decidable P] (h : ¬ P) : (0 : Int32) = bI P := by simp [bI, h]
theorem bI_tn {P : Prop} [Decidable P] (h : P) : nI 1 = bI P := by simp only [bI, h, if_true]; rfl
theorem bI_fn {P : Prop} [Decidable P] (h : ¬ P) : nI 0 = bI P := by simp only [bI, h, if_false]; rfl
theorem n0_eq {a : Nat} (ha : a < 2 ^ 31) : nI a = 0 ↔ a = 0 := by
  rw [← nI_0]; exact nI_eq ha (by omega)
theorem n0_le {a : Nat} (ha : a < 2 ^ 31) : nI a ≤ 0 ↔ a = 0 := by
  rw [← nI_0, nI_leI ha (by omega)]; omega
theorem n0_gt {a : Nat} (ha : a < 2 ^ 31) : 0 < nI a ↔ 0 < a := by
  rw [← nI_0, nI_ltI (by omega) ha]
theorem n_m1 {a : Nat} (ha : a < 2 ^ 31) : ¬ nI a = -1 := by
  intro h
  have h1 := congrArg Int32.toInt h
  rw [nI_toInt ha] at h1
  have h2 : (-1 : Int32).toInt = -1 := by decide
  omega
theorem n_div2 {a : Nat} (ha : a < 2 ^ 31) : nI a / nI 2 = nI (a / 2) := pk_div ha (by omega) (by omega)
theorem n_rem2 {a : Nat} (ha : a < 2 ^ 31) : nI a - nI a / nI 2 * nI 2 = nI (a % 2) := pk_rem ha (by omega) (by omega)
theorem n_shr1 {a : Nat} (ha : a < 2 ^ 31) : nI a >>> (nI 1 &&& 31) = nI (a / 2) := by
  have e : (nI 1 &&& 31 : Int32) = 1 := by decide
  rw [e, pk_shrN ha 1 1 (by decide)]
theorem n_and1 {a : Nat} (ha : a < 2 ^ 31) : nI a &&& nI 1 = nI (a % 2) := by
  have := pk_andN (n := a) (m := nI 1) (by omega) 1 (by decide)
  simpa using this
theorem n_sp {n : Int} {v : Int32} (h : Int32.ofInt n = v) : Int32.ofInt n = v := h
section NROWS
variable {p : Program} {l : Launch} {e : Env} {R : Room} {s : State} {m : MethodId} {args : Array Value} {below : List Frame} {meth : Method} {c : Code} {H : Heap} {locs : List Loc} {cells slots : Nat} {Q : State → Prop}
variable {cc : ByteArray} {pc : Nat} {ls : Array Slot} {rest : List Value} {D : va_G} {tys : List (ClassId × FieldType)} {cl : List vw_C} {A : Nat → Prop} {a : Nat} {ws : va_W} {H0 : Heap}
theorem x_top {x y : Int32} (h : x = y) (k : W p l e R s m args below meth c H locs cells slots Q (F0 m pc ls (.int y :: rest))) : W p l e R s m args below meth c H locs cells slots Q (F0 m pc ls (.int x :: rest)) := h ▸ k
theorem x_topl {x y : Int64} (h : x = y) (k : W p l e R s m args below meth c H locs cells slots Q (F0 m pc ls (.long y :: rest))) : W p l e R s m args below meth c H locs cells slots Q (F0 m pc ls (.long x :: rest)) := h ▸ k
theorem x_iald (hexec : p.tables.exec = Jvm.exec) (hb : c.code = cc) (hK : va_K D cl tys s) (hP : va_P D cl ws H) (q0 t0 : Nat) {cA : ClassId} {n : Nat} {f : Nat → Int32} (ha : ws[q0]? = some (a, .inl (cA, n, .inl f))) (ht : tys[t0]? = some (cA, .int)) {k : Nat} (hk : k < n) (hn : n < 2 ^ 31) (hdg : decode cc pc = .ok (.iaload, 1))
    (kk : W p l e R s m args below meth c H locs cells slots Q (F0 m (pc + 1) ls (.int (f k) :: rest))) : W p l e R s m args below meth c H locs cells slots Q (F0 m pc ls (.int (nI k) :: .ref a :: rest)) := by
  refine va_iald hexec hb hK hP q0 t0 ha ht (vp_in_nI hk hn) hdg ?_
  rw [nI_clamp (Nat.lt_trans hk hn)]; exact kk
theorem x_lald (hexec : p.tables.exec = Jvm.exec) (hb : c.code = cc) (hK : va_K D cl tys s) (hP : va_P D cl ws H) (q0 t0 : Nat) {cA : ClassId} {n : Nat} {f : Nat → Int64} (ha : ws[q0]? = some (a, .inl (cA, n, .inr (.inl f)))) (ht : tys[t0]? = some (cA, .long)) {k : Nat} (hk : k < n) (hn : n < 2 ^ 31) (hdg : decode cc pc = .ok (.laload, 1))
    (kk : W p l e R s m args below meth c H locs cells slots Q (F0 m (pc + 1) ls (.long (f k) :: rest))) : W p l e R s m args below meth c H locs cells slots Q (F0 m pc ls (.int (nI k) :: .ref a :: rest)) := by
  refine va_lald hexec hb hK hP q0 t0 ha ht (vp_in_nI hk hn) hdg ?_
  rw [nI_clamp (Nat.lt_trans hk hn)]; exact kk
theorem x_iast (hexec : p.tables.exec = Jvm.exec) (hb : c.code = cc) (hK : va_K D cl tys s) (hP : va_P D cl ws H) (hD : va_D A ws) (hS : va_S A H0 H locs) (q0 t0 : Nat) {cA : ClassId} {n : Nat} {f : Nat → Int32} (ha : ws[q0]? = some (a, .inl (cA, n, .inl f))) (ht : tys[t0]? = some (cA, .int)) {k : Nat} {x : Int32} (hk : k < n) (hn : n < 2 ^ 31) (hdg : decode cc pc = .ok (.iastore, 1))
    (kk : ∀ (H1 : Heap) (locs1 : List Loc), va_P D cl (ws.set q0 (a, .inl (cA, n, .inl (upd f k x)))) H1 → va_D A (ws.set q0 (a, .inl (cA, n, .inl (upd f k x)))) → va_S A H0 H1 locs1 → W p l e R s m args below meth c H1 locs1 cells slots Q (F0 m (pc + 1) ls rest)) : W p l e R s m args below meth c H locs cells slots Q (F0 m pc ls (.int x :: .int (nI k) :: .ref a :: rest)) := by
  refine va_iast hexec hb hK hP hD hS q0 t0 ha ht (vp_in_nI hk hn) hdg (fun H1 locs1 h1 h2 h3 => ?_)
  rw [nI_clamp (Nat.lt_trans hk hn)] at h1 h2
  exact kk H1 locs1 h1 h2 h3
theorem x_last (hexec : p.tables.exec = Jvm.exec) (hb : c.code = cc) (hK : va_K D cl tys s) (hP : va_P D cl ws H) (hD : va_D A ws) (hS : va_S A H0 H locs) (q0 t0 : Nat) {cA : ClassId} {n : Nat} {f : Nat → Int64} (ha : ws[q0]? = some (a, .inl (cA, n, .inr (.inl f)))) (ht : tys[t0]? = some (cA, .long)) {k : Nat} {x : Int64} (hk : k < n) (hn : n < 2 ^ 31) (hdg : decode cc pc = .ok (.lastore, 1))
    (kk : ∀ (H1 : Heap) (locs1 : List Loc), va_P D cl (ws.set q0 (a, .inl (cA, n, .inr (.inl (vp_updL f k x))))) H1 → va_D A (ws.set q0 (a, .inl (cA, n, .inr (.inl (vp_updL f k x))))) → va_S A H0 H1 locs1 → W p l e R s m args below meth c H1 locs1 cells slots Q (F0 m (pc + 1) ls rest)) : W p l e R s m args below meth c H locs cells slots Q (F0 m pc ls (.long x :: .int (nI k) :: .ref a :: rest)) := by
  refine va_last hexec hb hK hP hD hS q0 t0 ha ht (vp_in_nI hk hn) hdg (fun H1 locs1 h1 h2 h3 => ?_)
  rw [nI_clamp (Nat.lt_trans hk hn)] at h1 h2
  exact kk H1 locs1 h1 h2 h3
/-- an int array is made, of the class that the tables know -/
theorem x_newai (hexec : p.tables.exec = Jvm.exec) (hb : c.code = cc) (harr : (Cond.arrayClass .int).before args s = true) {cyI cyJ : ClassId} (hK : va_K D cl (xTy cyI cyJ) s) (hP : va_P D cl ws H) (hD : va_D A ws) (hS : va_S A H0 H locs) (hA : ∀ q, H0.size ≤ q → A q)
    {N : Nat} (hN : N < 100000) (hcells : cells + 1 ≤ R.cells) (hslots : slots + N ≤ R.slots) (hdg : decode cc pc = .ok (.newarray .int, 2))
    (kk : ∀ (q : Nat) (H1 : Heap), va_P D cl (ws ++ [(q, .inl (cyI, N, .inl (fun _ => 0)))]) H1 → va_D A (ws ++ [(q, .inl (cyI, N, .inl (fun _ => 0)))]) → va_S A H0 H1 locs →
      W p l e R s m args below meth c H1 locs (cells + 1) (slots + N) Q (F0 m (pc + 2) ls (.ref q :: rest))) : W p l e R s m args below meth c H locs cells slots Q (F0 m pc ls (.int (nI N) :: rest)) := by
  refine va_newa (atype := .int) (ty := .int) hexec hb harr rfl hK hP hD hS hA (N' := N) (a0 := (N, .inl (fun _ => 0))) (fun cA => rfl) (nI_pos (by omega)) (nI_clamp (by omega)) (by show N * 4 ≤ 536870912; omega) hcells hslots hdg (fun q cA H1 hK1 h1 h2 h3 => ?_)
  have e : cA = cyI := by
    have g1 := (hK1.2 2 (cA, .int) rfl).2
    have g0 := (hK1.2 0 (cyI, .int) rfl).2
    exact Option.some.inj (g1.symm.trans g0)
  subst e
  exact kk q H1 h1 h2 h3
theorem x_newal (hexec : p.tables.exec = Jvm.exec) (hb : c.code = cc) (harr : (Cond.arrayClass .long).before args s = true) {cyI cyJ : ClassId} (hK : va_K D cl (xTy cyI cyJ) s) (hP : va_P D cl ws H) (hD : va_D A ws) (hS : va_S A H0 H locs) (hA : ∀ q, H0.size ≤ q → A q)
    {N : Nat} (hN : N < 100000) (hcells : cells + 1 ≤ R.cells) (hslots : slots + N ≤ R.slots) (hdg : decode cc pc = .ok (.newarray .long, 2))
    (kk : ∀ (q : Nat) (H1 : Heap), va_P D cl (ws ++ [(q, .inl (cyJ, N, .inr (.inl (fun _ => 0))))]) H1 → va_D A (ws ++ [(q, .inl (cyJ, N, .inr (.inl (fun _ => 0))))]) → va_S A H0 H1 locs →
      W p l e R s m args below meth c H1 locs (cells + 1) (slots + N) Q (F0 m (pc + 2) ls (.ref q :: rest))) : W p l e R s m args below meth c H locs cells slots Q (F0 m pc ls (.int (nI N) :: rest)) := by
  refine va_newa (atype := .long) (ty := .long) hexec hb harr rfl hK hP hD hS hA (N' := N) (a0 := (N, .inr (.inl (fun _ => 0)))) (fun cA => rfl) (nI_pos (by omega)) (nI_clamp (by omega)) (by show N * 8 ≤ 536870912; omega) hcells hslots hdg (fun q cA H1 hK1 h1 h2 h3 => ?_)
  have e : cA = cyJ := by
    have g1 := (hK1.2 2 (cA, .long) rfl).2
    have g0 := (hK1.2 1 (cyJ, .long) rfl).2
    exact Option.some.inj (g1.symm.trans g0)
  subst e
  exact kk q H1 h1 h2 h3
end NROWS
theorem n_inc (a : Nat) : nI a + Int32.ofInt 1 = nI (a + 1) := by
  rw [show Int32.ofInt 1 = nI 1 from by decide]; exact nI_add a 1
theorem n_inc4 (a : Nat) : nI a + Int32.ofInt 4 = nI (a + 4) := by
  rw [show Int32.ofInt 4 = nI 4 from by decide]; exact nI_add a 4
/-- a contract's walk, from its first instruction -/
theorem x_met {l : Launch} {y : MethodName} {ws ws' : List Cond} {rm : Room} {cc : ByteArray} {maxL : Nat} {ret : Option FieldType} {av : List Value} {D : va_G} {tys : List (ClassId × FieldType)} {sz : Nat} {w0 : va_W} {Qc : Array Value → State → Outcome → State → Prop} {mc ms : Nat} (own : String)
    (hy : plainName y.cls = true) (hw : ws = Cond.code y cc maxL ret :: ws') (hyo : y.cls = own) (hlen : (lg_sl av).length ≤ maxL)
    (body : ∀ (p : Program) (e : Env) (s : State) (m : MethodId) (below : List Frame) (meth : Method) (c : Code) (A : Nat → Prop) (Q : State → Prop), A = va_A w0 sz → Q = MQ below Qc av.toArray s mc ms (va_A w0 sz) → p.tables.exec = Jvm.exec → c.code = cc → meth.sig.returnType = ret → meth.locks = false → c.maxLocals = maxL → meth.name = y.name → (∀ w ∈ ws, w.before av.toArray s = true) → s.vm.findClass own = some m.cls → NN s → va_K D vwCl tys s → s.heap.size = sz → va_P D vwCl w0 s.heap → va_D A w0 → va_S A s.heap s.heap [] → (∀ q : Nat, s.heap.size ≤ q → A q) → ∀ ls : Array Slot, lv_has ls maxL (lv_args 0 av) →
      W p l e rm s m av.toArray below meth c s.heap [] 0 0 Q (F0 m 0 ls [])) : Met l y ws rm (va_Pc av (xA D tys sz w0)) Qc mc ms (va_A w0 sz) := by
  refine Met.ofW (cc := cc) (maxL := maxL) (ret := ret) hy hw ?_
  intro p e s m args below meth c s₁ B hml hv
  obtain ⟨rfl, hsz, hP, hK, hD0, hN⟩ := hv
  rw [lg_entry_eq]
  exact body p e s m below meth c _ _ rfl rfl B.exec B.bytes B.returns B.notSynchronized hml (name_of_methodNamed B.named B.method).1 (atoms_spec (ws := ws) B.pre) (hyo ▸ findClass_of_methodNamed B.named) hN hK hsz hP hD0.self va_S.rf (fun q h => Or.inr (hsz ▸ h)) _ (lv_entry av hlen)
end
section
/-! nets as lists: none for what is no gate, some (a, b) for a gate of the literals a < b; NONE is none -/
abbrev NT : Type := List (Option (Nat × Nat))
def eO (o : Option Nat) : Int32 := match o with
  | none => -1
  | some k => nI k
def gL (g : Option (Nat × Nat)) : Int32 := match g with
  | none => -1
  | some q => nI q.1
def gR (g : Option (Nat × Nat)) : Int32 := match g with
  | none => -1
  | some q => nI q.2
def nAt (l : NT) (k : Nat) : Option (Nat × Nat) := l.getD k none
def nGates (l : NT) : Nat := l.countP Option.isSome
def nNeg (k : Nat) : Nat := if k % 2 = 0 then k + 1 else k - 1
def nNot (o : Option Nat) : Option Nat := o.map nNeg
def nFind (l : NT) (a b : Nat) : Option Nat := l.findIdx? (fun g => g == some (a, b))
def nGate (M : Nat) (l : NT) (a b : Nat) : Option Nat × NT := match nFind l a b with
  | some k => (some (2 * k), l)
  | none => if nGates l = M then (none, l) else (some (2 * l.length), l ++ [some (a, b)])
def nAnd (M : Nat) (l : NT) (x y : Option Nat) : Option Nat × NT := match x, y with
  | some a, some b => if a = 0 ∨ b = 0 ∨ a = nNeg b then (some 0, l) else if b = 1 ∨ a = b then (some a, l) else if a = 1 then (some b, l) else nGate M l (min a b) (max a b)
  | _, _ => (none, l)
def nOr (M : Nat) (l : NT) (x y : Option Nat) : Option Nat × NT := (nNot (nAnd M l (nNot x) (nNot y)).1, (nAnd M l (nNot x) (nNot y)).2)
/-- gates stand behind the nodes of their literals, the lesser literal first; node 0 is no gate -/
def nOK (l : NT) : Prop := 0 < l.length ∧ nAt l 0 = none ∧ ∀ (k a b : Nat), nAt l k = some (a, b) → 2 ≤ a ∧ a < b ∧ b < 2 * k
/-- two rows hold a net -/
def rpN (l : NT) (lf of : Nat → Int32) : Prop := ∀ k, k < l.length → lf k = gL (nAt l k) ∧ of k = gR (nAt l k)
def dO (n : Nat) (x : Int32) : Option Nat := if 0 ≤ x ∧ x < nI (2 * n) then some x.toNatClampNeg else none
theorem nAt_none {l : NT} {k : Nat} (h : l.length ≤ k) : nAt l k = none := by
  simp [nAt, List.getD_eq_getElem?_getD, List.getElem?_eq_none h]
theorem nAt_app {l r : NT} {k : Nat} (h : k < l.length) : nAt (l ++ r) k = nAt l k := by
  simp [nAt, List.getD_eq_getElem?_getD, List.getElem?_append_left h]
theorem nAt_last {l : NT} {g : Option (Nat × Nat)} : nAt (l ++ [g]) l.length = g := by
  simp [nAt, List.getD_eq_getElem?_getD]
theorem nAt_snoc {l : NT} {g : Option (Nat × Nat)} (k : Nat) : nAt (l ++ [g]) k = if k = l.length then g else nAt l k := by
  by_cases h : k = l.length
  · subst h; rw [if_pos rfl, nAt_last]
  · rw [if_neg h]
    by_cases h2 : k < l.length
    · exact nAt_app h2
    · rw [nAt_none (by simp; omega), nAt_none (by omega)]
theorem nAt_lt {l : NT} {k : Nat} {q : Nat × Nat} (h : nAt l k = some q) : k < l.length := by
  rcases Nat.lt_or_ge k l.length with h1 | h1
  · exact h1
  · rw [nAt_none h1] at h; cases h
theorem nFind_some {l : NT} {a b k : Nat} (hk : nAt l k = some (a, b)) (hno : ∀ j, j < k → ¬ nAt l j = some (a, b)) : nFind l a b = some k := by
  have hl := nAt_lt hk
  rw [nFind, List.findIdx?_eq_some_iff_getElem]
  refine ⟨hl, ?_, fun j hj => ?_⟩
  · have : l[k] = some (a, b) := by simpa [nAt, List.getD_eq_getElem?_getD, hl] using hk
    simp [this]
  · have hj2 : j < l.length := by omega
    have h1 := hno j hj
    have : ¬ l[j] = some (a, b) := by simpa [nAt, List.getD_eq_getElem?_getD, hj2] using h1
    simp [this]
theorem nFind_none {l : NT} {a b : Nat} (hno : ∀ j, j < l.length → ¬ nAt l j = some (a, b)) : nFind l a b = none := by
  rw [nFind, List.findIdx?_eq_none_iff]
  intro x hx
  obtain ⟨j, hj, rfl⟩ := List.mem_iff_getElem.mp hx
  have h1 := hno j hj
  have : ¬ l[j] = some (a, b) := by simpa [nAt, List.getD_eq_getElem?_getD, hj] using h1
  simp [this]
theorem nFind_spec {l : NT} {a b k : Nat} (h : nFind l a b = some k) : nAt l k = some (a, b) ∧ k < l.length := by
  rw [nFind, List.findIdx?_eq_some_iff_getElem] at h
  obtain ⟨hl, h1, -⟩ := h
  refine ⟨?_, hl⟩
  simp [nAt, List.getD_eq_getElem?_getD, hl]
  simpa using h1
theorem nNeg_lt {k n : Nat} (h : k < 2 * n) : nNeg k < 2 * n := by unfold nNeg; split <;> omega
theorem nNeg_neg (k : Nat) : nNeg (nNeg k) = k := by unfold nNeg; split <;> split <;> omega
theorem nNeg_div (k : Nat) : nNeg k / 2 = k / 2 := by unfold nNeg; split <;> omega
theorem nNeg_iff (a b : Nat) : a = nNeg b ↔ (a / 2 = b / 2 ∧ a ≠ b) := by
  unfold nNeg; split <;> omega
theorem nGates_snoc (l : NT) (a b : Nat) : nGates (l ++ [some (a, b)]) = nGates l + 1 := by simp [nGates, List.countP_append]
theorem nGates_none (l : NT) : nGates (l ++ [none]) = nGates l := by simp [nGates, List.countP_append]
theorem nGates_le (l : NT) : nGates l ≤ l.length := List.countP_le_length
/-- the gate's making: nothing is made, or one gate -/
theorem nGate_cases (M : Nat) (l : NT) (a b : Nat) : (∃ k, nGate M l a b = (some (2 * k), l) ∧ nAt l k = some (a, b) ∧ k < l.length) ∨ (nGate M l a b = (none, l) ∧ nGates l = M) ∨ (nGate M l a b = (some (2 * l.length), l ++ [some (a, b)]) ∧ ¬ nGates l = M) := by
  unfold nGate
  cases h : nFind l a b with
  | some k => exact Or.inl ⟨k, rfl, nFind_spec h⟩
  | none =>
    by_cases h2 : nGates l = M
    · exact Or.inr (Or.inl ⟨by simp [h2], h2⟩)
    · exact Or.inr (Or.inr ⟨by simp [h2], h2⟩)
/-- AND: what it answers and what it makes -/
theorem nAnd_cases (M : Nat) (l : NT) (x y : Option Nat) : (∃ k, nAnd M l x y = (some k, l) ∧ (k = 0 ∨ x = some k ∨ y = some k ∨ k < 2 * l.length)) ∨ (nAnd M l x y = (none, l) ∧ (x = none ∨ y = none ∨ nGates l = M)) ∨ (∃ a b, nAnd M l x y = (some (2 * l.length), l ++ [some (a, b)]) ∧ ¬ nGates l = M ∧ 2 ≤ a ∧ a < b ∧ ((x = some a ∧ y = some b) ∨ (x = some b ∧ y = some a))) := by
  cases x with
  | none => exact Or.inr (Or.inl ⟨rfl, Or.inl rfl⟩)
  | some a =>
    cases y with
    | none => exact Or.inr (Or.inl ⟨rfl, Or.inr (Or.inl rfl)⟩)
    | some b =>
      simp only [nAnd]
      split
      · exact Or.inl ⟨0, rfl, Or.inl rfl⟩
      · rename_i h1
        split
        · exact Or.inl ⟨a, rfl, Or.inr (Or.inl rfl)⟩
        · rename_i h2
          split
          · exact Or.inl ⟨b, rfl, Or.inr (Or.inr (Or.inl rfl))⟩
          · rename_i h3
            rcases nGate_cases M l (min a b) (max a b) with ⟨k, e, -, hk⟩ | ⟨e, hM⟩ | ⟨e, hM⟩
            · exact Or.inl ⟨2 * k, e, Or.inr (Or.inr (Or.inr (by omega)))⟩
            · exact Or.inr (Or.inl ⟨e, Or.inr (Or.inr hM)⟩)
            · refine Or.inr (Or.inr ⟨min a b, max a b, e, hM, by omega, by omega, ?_⟩)
              rcases Nat.lt_or_ge a b with q | q
              · exact Or.inl ⟨by rw [Nat.min_eq_left (by omega)], by rw [Nat.max_eq_right (by omega)]⟩
              · exact Or.inr ⟨by rw [Nat.max_eq_left (by omega)], by rw [Nat.min_eq_right (by omega)]⟩
/-- a literal that is there, or none -/
def vO (n : Nat) (o : Option Nat) : Prop := ∀ k, o = some k → k < 2 * n
theorem vO_none {n : Nat} : vO n none := fun _ h => by cases h
theorem vO_mono {n m : Nat} {o : Option Nat} (h : vO n o) (hm : n ≤ m) : vO m o := fun k hk => by have := h k hk; omega
theorem vO_not {n : Nat} {o : Option Nat} (h : vO n o) : vO n (nNot o) := by
  intro k hk
  cases o with
  | none => cases hk
  | some j => cases hk; exact nNeg_lt (h j rfl)
/-- what AND keeps: the net before is a beginning of the one behind; order, number of gates, valid literals -/
theorem nAnd_keeps {M : Nat} {l : NT} {x y : Option Nat} (hok : nOK l) (hx : vO l.length x) (hy : vO l.length y) (hM : nGates l ≤ M) :
    nOK (nAnd M l x y).2 ∧ vO (nAnd M l x y).2.length (nAnd M l x y).1 ∧ nGates (nAnd M l x y).2 ≤ M ∧ (∃ r, (nAnd M l x y).2 = l ++ r ∧ r.length ≤ 1 ∧ nGates (nAnd M l x y).2 = nGates l + r.length) ∧ l.length ≤ (nAnd M l x y).2.length := by
  rcases nAnd_cases M l x y with ⟨k, e, hk⟩ | ⟨e, -⟩ | ⟨a, b, e, hg, h2, hab, hxy⟩
  · rw [e]
    refine ⟨hok, fun j hj => ?_, hM, ⟨[], by simp, by simp, by simp⟩, Nat.le_refl _⟩
    cases hj
    rcases hk with h | h | h | h
    · have := hok.1; show k < 2 * l.length; omega
    · exact hx k h
    · exact hy k h
    · exact h
  · rw [e]
    exact ⟨hok, vO_none, hM, ⟨[], by simp, by simp, by simp⟩, Nat.le_refl _⟩
  · rw [e]
    have hb : b < 2 * l.length := by
      rcases hxy with ⟨-, h⟩ | ⟨h, -⟩
      · exact hy b h
      · exact hx b h
    refine ⟨⟨by simp, ?_, ?_⟩, fun j hj => ?_, ?_, ⟨[some (a, b)], rfl, by simp, by simp [nGates_snoc]⟩, by simp⟩
    · rw [nAt_app hok.1]; exact hok.2.1
    · intro k a' b' hk
      rw [nAt_snoc] at hk
      split at hk
      · rename_i e2; subst e2; cases hk; exact ⟨h2, hab, hb⟩
      · exact hok.2.2 k a' b' hk
    · cases hj; simp
    · simp only [nGates_snoc]; omega
theorem nOr_keeps {M : Nat} {l : NT} {x y : Option Nat} (hok : nOK l) (hx : vO l.length x) (hy : vO l.length y) (hM : nGates l ≤ M) :
    nOK (nOr M l x y).2 ∧ vO (nOr M l x y).2.length (nOr M l x y).1 ∧ nGates (nOr M l x y).2 ≤ M ∧ (∃ r, (nOr M l x y).2 = l ++ r ∧ r.length ≤ 1 ∧ nGates (nOr M l x y).2 = nGates l + r.length) ∧ l.length ≤ (nOr M l x y).2.length := by
  obtain ⟨h1, h2, h3, h4, h5⟩ := nAnd_keeps (M := M) hok (vO_not hx) (vO_not hy) hM
  exact ⟨h1, vO_not h2, h3, h4, h5⟩
theorem eO_some (k : Nat) : eO (some k) = nI k := rfl
theorem eO_none : eO none = -1 := rfl
/-- an int as a literal of n nodes -/
theorem dO_cases {n : Nat} (hn : n < 100000) (x : Int32) : (¬ (0 ≤ x ∧ x < nI (2 * n)) ∧ dO n x = none) ∨ ∃ k, k < 2 * n ∧ x = nI k ∧ dO n x = some k ∧ (0 ≤ x ∧ x < nI (2 * n)) := by
  by_cases h : 0 ≤ x ∧ x < nI (2 * n)
  · right
    obtain ⟨j, hj, rfl⟩ := nI_of (Int32.not_lt.mpr h.1)
    have h2 := (nI_ltI hj (by omega)).mp h.2
    exact ⟨j, h2, rfl, by rw [dO, if_pos h, nI_clamp hj], h⟩
  · exact Or.inl ⟨h, by rw [dO, if_neg h]⟩
theorem dO_nI {n k : Nat} (hn : n < 100000) (hk : k < 2 * n) : dO n (nI k) = some k := by
  rw [dO, if_pos ⟨nI_pos' (by omega), (nI_ltI (by omega) (by omega)).mpr hk⟩, nI_clamp (by omega)]
theorem dO_m1 {n : Nat} : dO n (-1) = none := by
  rw [dO, if_neg]
  rintro ⟨h, -⟩
  exact absurd h (by decide)
theorem dO_eO {n : Nat} {o : Option Nat} (hn : n < 100000) (h : vO n o) : dO n (eO o) = o := by
  cases o with
  | none => exact dO_m1
  | some k => exact dO_nI hn (h k rfl)
theorem dO_v {n : Nat} (hn : n < 100000) (x : Int32) : vO n (dO n x) := by
  intro k hk
  rcases dO_cases hn x with ⟨-, e⟩ | ⟨j, hj, -, e, -⟩
  · rw [e] at hk; cases hk
  · rw [e] at hk; cases hk; exact hj
theorem rpN_snoc {l : NT} {lf of : Nat → Int32} (h : rpN l lf of) (g : Option (Nat × Nat)) : rpN (l ++ [g]) (upd lf l.length (gL g)) (upd of l.length (gR g)) := by
  intro k hk
  rw [nAt_snoc]
  by_cases e : k = l.length
  · subst e; rw [if_pos rfl, pk_us, pk_us]; exact ⟨rfl, rfl⟩
  · rw [if_neg e, pk_un e, pk_un e]
    simp at hk
    exact h k (by omega)
/-- the words of gates out of those of the others -/
def litW (w : Nat → Int64) (k : Nat) : Int64 := if k % 2 = 0 then w (k / 2) else w (k / 2) ^^^ (-1)
def sprd (l : NT) (w : Nat → Int64) : Nat → (Nat → Int64)
  | 0 => w
  | n + 1 => match nAt l n with
    | none => sprd l w n
    | some q => vp_updL (sprd l w n) n (litW (sprd l w n) q.1 &&& litW (sprd l w n) q.2)
end
section
/-! the class's 'not' over ints -/
def notI (x : Int32) : Int32 := if x = (-1) then (-1) else x ^^^ nI 1
theorem nat_xor1 (k : Nat) : k ^^^ 1 = nNeg k := by
  have h1 : (k ^^^ 1) / 2 = k / 2 := by
    have := Nat.xor_div_two_pow (a := k) (b := 1) (n := 1)
    simpa using this
  have h2 : ((k ^^^ 1) % 2 = 1) ↔ ¬ ((k % 2 = 1) ↔ (1 % 2 = 1)) := Nat.xor_mod_two_eq_one
  unfold nNeg
  split <;> omega
theorem nI_xor1 (k : Nat) : nI k ^^^ nI 1 = nI (nNeg k) := by
  rw [← nat_xor1]
  apply Int32.toBitVec_inj.mp
  show BitVec.ofNat 32 k ^^^ BitVec.ofNat 32 1 = BitVec.ofNat 32 (k ^^^ 1)
  apply BitVec.eq_of_getLsbD_eq
  intro i hi
  simp [BitVec.getLsbD_ofNat, Nat.testBit_xor, hi]
theorem neg_xor1 {x : Int32} (h : x < 0) : x ^^^ nI 1 < 0 := by
  rw [Int32.lt_iff_toInt_lt] at h ⊢
  have h1 : x.toBitVec.msb = true := by
    rw [BitVec.msb_eq_toInt]
    exact decide_eq_true h
  have h2 : (x ^^^ nI 1).toBitVec.msb = true := by
    rw [Int32.toBitVec_xor, BitVec.msb_xor, h1]
    decide
  rw [BitVec.msb_eq_toInt] at h2
  exact of_decide_eq_true h2
theorem notI_nI {k : Nat} (hk : k < 2 ^ 31) : notI (nI k) = nI (nNeg k) := by
  rw [notI, if_neg (n_m1 hk), nI_xor1]
theorem notI_m1 : notI (-1) = -1 := rfl
theorem notI_eO {o : Option Nat} {n : Nat} (hn : n < 100000) (h : vO n o) : notI (eO o) = eO (nNot o) := by
  cases o with
  | none => rfl
  | some k => have := h k rfl; exact notI_nI (by omega)
theorem dO_not {n : Nat} (hn : n < 100000) (x : Int32) : dO n (notI x) = nNot (dO n x) := by
  rcases dO_cases hn x with ⟨h, e⟩ | ⟨k, hk, rfl, e, -⟩
  · rw [e]
    show dO n (notI x) = none
    by_cases hx : x = (-1)
    · subst hx; exact dO_m1
    · rw [notI, if_neg hx]
      by_cases h0 : x < 0
      · rw [dO, if_neg]
        rintro ⟨q, -⟩
        exact absurd (neg_xor1 h0) (Int32.not_lt.mpr q)
      · obtain ⟨k, hk, rfl⟩ := nI_of h0
        rw [nI_xor1, dO, if_neg]
        rintro ⟨-, q⟩
        have h3 : ¬ k < 2 * n := fun z => h ⟨nI_pos' hk, (nI_ltI hk (by omega)).mpr z⟩
        have h4 : nNeg k < 2 ^ 31 := by unfold nNeg; split <;> omega
        have h5 := (nI_ltI h4 (by omega)).mp q
        unfold nNeg at h5
        split at h5 <;> omega
  · rw [e, notI_nI (by omega), dO_nI hn (nNeg_lt hk)]
    rfl
end
section
/-! the contracts of NetTwin$Net and NetTwin.not, by program (wip/whole/gen.py, spec_net.py) -/
theorem nAnd_l (M : Nat) (l : NT) (y : Option Nat) : nAnd M l none y = (none, l) := by cases y <;> rfl
theorem nAnd_r (M : Nat) (l : NT) (x : Option Nat) : nAnd M l x none = (none, l) := by cases x <;> rfl
theorem dO_no {n : Nat} {x : Int32} (h : ¬ (0 ≤ x ∧ x < nI (2 * n))) : dO n x = none := if_neg h
theorem nAnd_0 {M : Nat} {l : NT} {a b : Nat} (h : a = 0 ∨ b = 0 ∨ a = nNeg b) : nAnd M l (some a) (some b) = (some 0, l) := if_pos h
theorem nAnd_a {M : Nat} {l : NT} {a b : Nat} (h : ¬ (a = 0 ∨ b = 0 ∨ a = nNeg b)) (h2 : b = 1 ∨ a = b) : nAnd M l (some a) (some b) = (some a, l) := (if_neg h).trans (if_pos h2)
theorem nAnd_b {M : Nat} {l : NT} {a b : Nat} (h : ¬ (a = 0 ∨ b = 0 ∨ a = nNeg b)) (h2 : ¬ (b = 1 ∨ a = b)) (h3 : a = 1) : nAnd M l (some a) (some b) = (some b, l) := (if_neg h).trans ((if_neg h2).trans (if_pos h3))
theorem nAnd_g {M : Nat} {l : NT} {a b : Nat} (h : ¬ (a = 0 ∨ b = 0 ∨ a = nNeg b)) (h2 : ¬ (b = 1 ∨ a = b)) (h3 : ¬ a = 1) (h4 : a < b) : nAnd M l (some a) (some b) = nGate M l a b := by
  refine (if_neg h).trans ((if_neg h2).trans ((if_neg h3).trans ?_))
  rw [Nat.min_eq_left (by omega), Nat.max_eq_right (by omega)]
theorem nAnd_h {M : Nat} {l : NT} {a b : Nat} (h : ¬ (a = 0 ∨ b = 0 ∨ a = nNeg b)) (h2 : ¬ (b = 1 ∨ a = b)) (h3 : ¬ a = 1) (h4 : b < a) : nAnd M l (some a) (some b) = nGate M l b a := by
  refine (if_neg h).trans ((if_neg h2).trans ((if_neg h3).trans ?_))
  rw [Nat.min_eq_right (by omega), Nat.max_eq_left (by omega)]
theorem nGate_f {M : Nat} {l : NT} {a b k : Nat} (h : nFind l a b = some k) : nGate M l a b = (some (2 * k), l) := by simp [nGate, h]
theorem nGate_o {M : Nat} {l : NT} {a b : Nat} (h : nFind l a b = none) (h2 : nGates l = M) : nGate M l a b = (none, l) := by simp [nGate, h, h2]
theorem nGate_n {M : Nat} {l : NT} {a b : Nat} (h : nFind l a b = none) (h2 : ¬ nGates l = M) : nGate M l a b = (some (2 * l.length), l ++ [some (a, b)]) := by simp [nGate, h, h2]
theorem gL_yes {g : Option (Nat × Nat)} (h : ¬ gL g = -1) : ∃ a b, g = some (a, b) := by
  cases g with
  | none => exact absurd rfl h
  | some q => exact ⟨q.1, q.2, rfl⟩
theorem gL_no {l : NT} {k : Nat} (hok : nOK l) (hk : k < 100000) (h : gL (nAt l k) = -1) : nAt l k = none := by
  cases e : nAt l k with
  | none => rfl
  | some q =>
    have h3 := hok.2.2 k q.1 q.2 e
    rw [e] at h
    exact absurd h (n_m1 (a := q.1) (by omega))
theorem g_is {l : NT} {k a b : Nat} (hok : nOK l) (hk : k < 100000) (ha : a < 2 ^ 31) (hb : b < 2 ^ 31) (h1 : gL (nAt l k) = nI a) (h2 : gR (nAt l k) = nI b) : nAt l k = some (a, b) := by
  cases e : nAt l k with
  | none =>
    rw [e] at h1
    exact absurd h1.symm (n_m1 ha)
  | some q =>
    have h3 := hok.2.2 k q.1 q.2 e
    rw [e] at h1 h2
    have e1 := (nI_eq (a := q.1) (by omega) ha).mp h1
    have e2 := (nI_eq (a := q.2) (by omega) hb).mp h2
    rw [← e1, ← e2]
theorem sprd_n {l : NT} {w : Nat → Int64} {k : Nat} (h : nAt l k = none) : sprd l w (k + 1) = sprd l w k := by simp only [sprd, h]
theorem sprd_g {l : NT} {w : Nat → Int64} {k a b : Nat} (h : nAt l k = some (a, b)) : sprd l w (k + 1) = vp_updL (sprd l w k) k (litW (sprd l w k) a &&& litW (sprd l w k) b) := by simp only [sprd, h]
set_option maxHeartbeats 4000000 in
set_option maxRecDepth 100000 in
theorem c_X1_not (lch : Launch) (D : va_G) (cyI cyJ : ClassId) (sz : Nat) (x : Int32)  : Met lch yX1_not wsX1_not ({ frames := 0, cells := 0, slots := 0, locals := 0 } : Room) (va_Pc [.int x] (xA D (xTy cyI cyJ) sz [])) (va_Qi (fun (r : Int32) (u : Unit) => r = notI x) (fun (u : Unit) t => xB D (xTy cyI cyJ) sz [] [] t) (va_A [] sz)) 0 0 (va_A [] sz) := by
  refine x_met RX1 (by decide) rfl rfl (Nat.le_of_ble_eq_true rfl) ?_
  intro p e s m below meth c A Q hAe hQ hx hb hr hlocks hml hnm hts hown hNN hK hsz hP hD hS hA ls hl
  have hP : va_P D vwCl [] s.heap := hP
  have hD : va_D A [] := hD
  have hl : lv_has ls 1 [(0, .int x)] := hl
  refine lv_iload_n hx hb dX1_not_0 rfl (lv_at hl 0 rfl) ?_
  refine lv_iconst (v := (-1)) hx hb dX1_not_1 (by decide) ?_
  refine lv_icmp_ne (tgt := 9) hx hb dX1_not_2 (by decide) (fun c2 => ?_) (fun c2 => ?_)
  · refine lv_iload_n hx hb dX1_not_9 rfl (lv_at hl 0 rfl) ?_
    refine lv_iconst (v := nI 1) hx hb dX1_not_10 (by decide) ?_
    refine lv_ixor hx hb dX1_not_11 ?_
    refine x_top (show x ^^^ nI 1 = notI x from by rw [notI, if_neg c2]) ?_
    exact x_iret hQ hAe hx hb hr hlocks (rfl) hS hK (Nat.le_of_ble_eq_true rfl) (Nat.le_of_ble_eq_true rfl) dX1_not_12 () hP hD (rfl)
  · refine lv_iconst (v := (-1)) hx hb dX1_not_5 (by decide) ?_
    refine lv_goto (tgt := 12) hx hb dX1_not_6 (by decide) ?_
    refine x_top (show (-1) = notI x from by rw [notI, if_pos c2]) ?_
    exact x_iret hQ hAe hx hb hr hlocks (rfl) hS hK (Nat.le_of_ble_eq_true rfl) (Nat.le_of_ble_eq_true rfl) dX1_not_12 () hP hD (rfl)
set_option maxHeartbeats 4000000 in
set_option maxRecDepth 100000 in
theorem c_X0_init (lch : Launch) (D : va_G) (cyI cyJ : ClassId) (sz : Nat) (h : Nat) (M1 : Nat) (M2 : Nat) (hMM : M1 + M2 < 10000) : Met lch yX0_init wsX0_init ({ frames := 1, cells := 4, slots := 1 + M1 + M2 + (1 + M1 + M2) + M1 + (1 + M1 + M2), locals := 12 } : Room) (va_Pc [.ref h, .int (nI M1), .int (nI M2)] (xA D (xTy cyI cyJ) sz [(h, .inr (0, [.int 0, .int 0, .null, .null, .null, .null, .int 0, .int 0]))])) (va_Qv (fun (u : Nat × Nat × Nat × Nat) => True) (fun (u : Nat × Nat × Nat × Nat) t => xB D (xTy cyI cyJ) sz [(h, .inr (0, [.int 0, .int 0, .null, .null, .null, .null, .int 0, .int 0]))] [(h, .inr (0, [.int (nI M1), .int (nI M2), .ref u.1, .ref u.2.1, .ref u.2.2.1, .ref u.2.2.2, .int (nI 1), .int (nI 0)])), (u.1, .inl (cyI, (1 + M1 + M2), .inl (upd (fun _ => 0) 0 (-1)))), (u.2.1, .inl (cyI, (1 + M1 + M2), .inl (upd (fun _ => 0) 0 (-1)))), (u.2.2.1, .inl (cyI, M1, .inl (fun _ => 0))), (u.2.2.2, .inl (cyJ, (1 + M1 + M2), .inr (.inl (fun _ => 0))))] t) (va_A [(h, .inr (0, [.int 0, .int 0, .null, .null, .null, .null, .int 0, .int 0]))] sz)) 4 (1 + M1 + M2 + (1 + M1 + M2) + M1 + (1 + M1 + M2)) (va_A [(h, .inr (0, [.int 0, .int 0, .null, .null, .null, .null, .int 0, .int 0]))] sz) := by
  refine x_met RX0 (by decide) rfl rfl (Nat.le_of_ble_eq_true rfl) ?_
  intro p e s m below meth c A Q hAe hQ hx hb hr hlocks hml hnm hts hown hNN hK hsz hP hD hS hA ls hl
  have wo1 := hts (.methodLink RX0 3 objectInit) (by decide +kernel)
  have wo2 := hts (.instanceMethod objectInit) (by decide +kernel)
  have wo3 := hts (.code objectInit ⟨#[0xb1]⟩ 1 none) (by decide +kernel)
  have wf9 := hts (.fieldLink RX0 9 "NetTwin$Net" "mostInputs" "I") (by decide +kernel)
  have hiX0 : ∀ w ∈ u_ws RX0 TX0 8, w ∈ wsX0_init := by decide +kernel
  have wf15 := hts (.fieldLink RX0 15 "NetTwin$Net" "mostGates" "I") (by decide +kernel)
  have waint := hts (.arrayClass .int) (by decide +kernel)
  have wf18 := hts (.fieldLink RX0 18 "NetTwin$Net" "lesser" "[I") (by decide +kernel)
  have wf22 := hts (.fieldLink RX0 22 "NetTwin$Net" "other" "[I") (by decide +kernel)
  have wf25 := hts (.fieldLink RX0 25 "NetTwin$Net" "inputNode" "[I") (by decide +kernel)
  have walong := hts (.arrayClass .long) (by decide +kernel)
  have wf28 := hts (.fieldLink RX0 28 "NetTwin$Net" "word" "[J") (by decide +kernel)
  have wf32 := hts (.fieldLink RX0 32 "NetTwin$Net" "nodeCount" "I") (by decide +kernel)
  have hP : va_P D vwCl [(h, .inr (0, [.int 0, .int 0, .null, .null, .null, .null, .int 0, .int 0]))] s.heap := hP
  have hD : va_D A [(h, .inr (0, [.int 0, .int 0, .null, .null, .null, .null, .int 0, .int 0]))] := hD
  have hl : lv_has ls 3 [(0, .ref h), (1, .int (nI M1)), (2, .int (nI M2))] := hl
  refine lv_aload_n hx hb dX0_init_0 rfl (lv_at hl 0 rfl) ?_
  refine W.objInit hx hb hown wo1 wo2 wo3 rfl (hl.1.trans hml.symm) rfl dX0_init_1 (Nat.le_of_ble_eq_true rfl) (Nat.le_of_ble_eq_true rfl) ?_
  refine lv_aload_n hx hb dX0_init_4 rfl (lv_at hl 0 rfl) ?_
  refine lv_iload_n hx hb dX0_init_5 rfl (lv_at hl 1 rfl) ?_
  refine va_putF (D := D) (ci := 0) (v := .int (nI M1)) (ty := .int) (C := RX0) (T := TX0) (N := 8) hx hb hts hiX0 tyX0 tyX0_ok nmX0 hown hK hP hD hS 0 rfl rfl 0 (by decide) wf9 (fun _ h9 => h9) rfl hnm rfl (by decide +kernel) rfl rfl (Nat.le_of_ble_eq_true rfl) dX0_init_6 (fun H locs hP hD hS => ?_)
  have hP : va_P D vwCl [(h, .inr (0, [.int (nI M1), .int 0, .null, .null, .null, .null, .int 0, .int 0]))] H := hP
  have hD : va_D A [(h, .inr (0, [.int (nI M1), .int 0, .null, .null, .null, .null, .int 0, .int 0]))] := hD
  refine lv_aload_n hx hb dX0_init_9 rfl (lv_at hl 0 rfl) ?_
  refine lv_iload_n hx hb dX0_init_10 rfl (lv_at hl 2 rfl) ?_
  refine va_putF (D := D) (ci := 0) (v := .int (nI M2)) (ty := .int) (C := RX0) (T := TX0) (N := 8) hx hb hts hiX0 tyX0 tyX0_ok nmX0 hown hK hP hD hS 0 rfl rfl 1 (by decide) wf15 (fun _ h9 => h9) rfl hnm rfl (by decide +kernel) rfl rfl (Nat.le_of_ble_eq_true rfl) dX0_init_11 (fun H locs hP hD hS => ?_)
  have hP : va_P D vwCl [(h, .inr (0, [.int (nI M1), .int (nI M2), .null, .null, .null, .null, .int 0, .int 0]))] H := hP
  have hD : va_D A [(h, .inr (0, [.int (nI M1), .int (nI M2), .null, .null, .null, .null, .int 0, .int 0]))] := hD
  refine lv_aload_n hx hb dX0_init_14 rfl (lv_at hl 0 rfl) ?_
  refine lv_iconst (v := nI 1) hx hb dX0_init_15 (by decide) ?_
  refine lv_iload_n hx hb dX0_init_16 rfl (lv_at hl 1 rfl) ?_
  refine lv_iadd hx hb dX0_init_17 ?_
  refine x_top (nI_add _ _) ?_
  refine lv_iload_n hx hb dX0_init_18 rfl (lv_at hl 2 rfl) ?_
  refine lv_iadd hx hb dX0_init_19 ?_
  refine x_top (nI_add _ _) ?_
  refine x_newai hx hb waint hK hP hD hS hA (by omega) (Nat.le_of_ble_eq_true rfl) (by dsimp only; omega) dX0_init_20 (fun q20 H hP hD hS => ?_)
  have hP : va_P D vwCl [(h, .inr (0, [.int (nI M1), .int (nI M2), .null, .null, .null, .null, .int 0, .int 0])), (q20, .inl (cyI, (1 + M1 + M2), .inl (fun _ => 0)))] H := hP
  have hD : va_D A [(h, .inr (0, [.int (nI M1), .int (nI M2), .null, .null, .null, .null, .int 0, .int 0])), (q20, .inl (cyI, (1 + M1 + M2), .inl (fun _ => 0)))] := hD
  refine va_putF (D := D) (ci := 0) (v := .ref q20) (ty := .array .int) (C := RX0) (T := TX0) (N := 8) hx hb hts hiX0 tyX0 tyX0_ok nmX0 hown hK hP hD hS 0 rfl rfl 2 (by decide) wf18 (fun _ h9 => h9) rfl hnm rfl (by decide +kernel) rfl rfl (Nat.le_of_ble_eq_true rfl) dX0_init_22 (fun H locs hP hD hS => ?_)
  have hP : va_P D vwCl [(h, .inr (0, [.int (nI M1), .int (nI M2), .ref q20, .null, .null, .null, .int 0, .int 0])), (q20, .inl (cyI, (1 + M1 + M2), .inl (fun _ => 0)))] H := hP
  have hD : va_D A [(h, .inr (0, [.int (nI M1), .int (nI M2), .ref q20, .null, .null, .null, .int 0, .int 0])), (q20, .inl (cyI, (1 + M1 + M2), .inl (fun _ => 0)))] := hD
  refine lv_aload_n hx hb dX0_init_25 rfl (lv_at hl 0 rfl) ?_
  refine lv_iconst (v := nI 1) hx hb dX0_init_26 (by decide) ?_
  refine lv_iload_n hx hb dX0_init_27 rfl (lv_at hl 1 rfl) ?_
  refine lv_iadd hx hb dX0_init_28 ?_
  refine x_top (nI_add _ _) ?_
  refine lv_iload_n hx hb dX0_init_29 rfl (lv_at hl 2 rfl) ?_
  refine lv_iadd hx hb dX0_init_30 ?_
  refine x_top (nI_add _ _) ?_
  refine x_newai hx hb waint hK hP hD hS hA (by omega) (Nat.le_of_ble_eq_true rfl) (by dsimp only; omega) dX0_init_31 (fun q31 H hP hD hS => ?_)
  have hP : va_P D vwCl [(h, .inr (0, [.int (nI M1), .int (nI M2), .ref q20, .null, .null, .null, .int 0, .int 0])), (q20, .inl (cyI, (1 + M1 + M2), .inl (fun _ => 0))), (q31, .inl (cyI, (1 + M1 + M2), .inl (fun _ => 0)))] H := hP
  have hD : va_D A [(h, .inr (0, [.int (nI M1), .int (nI M2), .ref q20, .null, .null, .null, .int 0, .int 0])), (q20, .inl (cyI, (1 + M1 + M2), .inl (fun _ => 0))), (q31, .inl (cyI, (1 + M1 + M2), .inl (fun _ => 0)))] := hD
  refine va_putF (D := D) (ci := 0) (v := .ref q31) (ty := .array .int) (C := RX0) (T := TX0) (N := 8) hx hb hts hiX0 tyX0 tyX0_ok nmX0 hown hK hP hD hS 0 rfl rfl 3 (by decide) wf22 (fun _ h9 => h9) rfl hnm rfl (by decide +kernel) rfl rfl (Nat.le_of_ble_eq_true rfl) dX0_init_33 (fun H locs hP hD hS => ?_)
  have hP : va_P D vwCl [(h, .inr (0, [.int (nI M1), .int (nI M2), .ref q20, .ref q31, .null, .null, .int 0, .int 0])), (q20, .inl (cyI, (1 + M1 + M2), .inl (fun _ => 0))), (q31, .inl (cyI, (1 + M1 + M2), .inl (fun _ => 0)))] H := hP
  have hD : va_D A [(h, .inr (0, [.int (nI M1), .int (nI M2), .ref q20, .ref q31, .null, .null, .int 0, .int 0])), (q20, .inl (cyI, (1 + M1 + M2), .inl (fun _ => 0))), (q31, .inl (cyI, (1 + M1 + M2), .inl (fun _ => 0)))] := hD
  refine lv_aload_n hx hb dX0_init_36 rfl (lv_at hl 0 rfl) ?_
  refine lv_iload_n hx hb dX0_init_37 rfl (lv_at hl 1 rfl) ?_
  refine x_newai hx hb waint hK hP hD hS hA (by omega) (Nat.le_of_ble_eq_true rfl) (by dsimp only; omega) dX0_init_38 (fun q38 H hP hD hS => ?_)
  have hP : va_P D vwCl [(h, .inr (0, [.int (nI M1), .int (nI M2), .ref q20, .ref q31, .null, .null, .int 0, .int 0])), (q20, .inl (cyI, (1 + M1 + M2), .inl (fun _ => 0))), (q31, .inl (cyI, (1 + M1 + M2), .inl (fun _ => 0))), (q38, .inl (cyI, M1, .inl (fun _ => 0)))] H := hP
  have hD : va_D A [(h, .inr (0, [.int (nI M1), .int (nI M2), .ref q20, .ref q31, .null, .null, .int 0, .int 0])), (q20, .inl (cyI, (1 + M1 + M2), .inl (fun _ => 0))), (q31, .inl (cyI, (1 + M1 + M2), .inl (fun _ => 0))), (q38, .inl (cyI, M1, .inl (fun _ => 0)))] := hD
  refine va_putF (D := D) (ci := 0) (v := .ref q38) (ty := .array .int) (C := RX0) (T := TX0) (N := 8) hx hb hts hiX0 tyX0 tyX0_ok nmX0 hown hK hP hD hS 0 rfl rfl 4 (by decide) wf25 (fun _ h9 => h9) rfl hnm rfl (by decide +kernel) rfl rfl (Nat.le_of_ble_eq_true rfl) dX0_init_40 (fun H locs hP hD hS => ?_)
  have hP : va_P D vwCl [(h, .inr (0, [.int (nI M1), .int (nI M2), .ref q20, .ref q31, .ref q38, .null, .int 0, .int 0])), (q20, .inl (cyI, (1 + M1 + M2), .inl (fun _ => 0))), (q31, .inl (cyI, (1 + M1 + M2), .inl (fun _ => 0))), (q38, .inl (cyI, M1, .inl (fun _ => 0)))] H := hP
  have hD : va_D A [(h, .inr (0, [.int (nI M1), .int (nI M2), .ref q20, .ref q31, .ref q38, .null, .int 0, .int 0])), (q20, .inl (cyI, (1 + M1 + M2), .inl (fun _ => 0))), (q31, .inl (cyI, (1 + M1 + M2), .inl (fun _ => 0))), (q38, .inl (cyI, M1, .inl (fun _ => 0)))] := hD
  refine lv_aload_n hx hb dX0_init_43 rfl (lv_at hl 0 rfl) ?_
  refine lv_iconst (v := nI 1) hx hb dX0_init_44 (by decide) ?_
  refine lv_iload_n hx hb dX0_init_45 rfl (lv_at hl 1 rfl) ?_
  refine lv_iadd hx hb dX0_init_46 ?_
  refine x_top (nI_add _ _) ?_
  refine lv_iload_n hx hb dX0_init_47 rfl (lv_at hl 2 rfl) ?_
  refine lv_iadd hx hb dX0_init_48 ?_
  refine x_top (nI_add _ _) ?_
  refine x_newal hx hb walong hK hP hD hS hA (by omega) (Nat.le_of_ble_eq_true rfl) (by dsimp only; omega) dX0_init_49 (fun q49 H hP hD hS => ?_)
  have hP : va_P D vwCl [(h, .inr (0, [.int (nI M1), .int (nI M2), .ref q20, .ref q31, .ref q38, .null, .int 0, .int 0])), (q20, .inl (cyI, (1 + M1 + M2), .inl (fun _ => 0))), (q31, .inl (cyI, (1 + M1 + M2), .inl (fun _ => 0))), (q38, .inl (cyI, M1, .inl (fun _ => 0))), (q49, .inl (cyJ, (1 + M1 + M2), .inr (.inl (fun _ => 0))))] H := hP
  have hD : va_D A [(h, .inr (0, [.int (nI M1), .int (nI M2), .ref q20, .ref q31, .ref q38, .null, .int 0, .int 0])), (q20, .inl (cyI, (1 + M1 + M2), .inl (fun _ => 0))), (q31, .inl (cyI, (1 + M1 + M2), .inl (fun _ => 0))), (q38, .inl (cyI, M1, .inl (fun _ => 0))), (q49, .inl (cyJ, (1 + M1 + M2), .inr (.inl (fun _ => 0))))] := hD
  refine va_putF (D := D) (ci := 0) (v := .ref q49) (ty := .array .long) (C := RX0) (T := TX0) (N := 8) hx hb hts hiX0 tyX0 tyX0_ok nmX0 hown hK hP hD hS 0 rfl rfl 5 (by decide) wf28 (fun _ h9 => h9) rfl hnm rfl (by decide +kernel) rfl rfl (Nat.le_of_ble_eq_true rfl) dX0_init_51 (fun H locs hP hD hS => ?_)
  have hP : va_P D vwCl [(h, .inr (0, [.int (nI M1), .int (nI M2), .ref q20, .ref q31, .ref q38, .ref q49, .int 0, .int 0])), (q20, .inl (cyI, (1 + M1 + M2), .inl (fun _ => 0))), (q31, .inl (cyI, (1 + M1 + M2), .inl (fun _ => 0))), (q38, .inl (cyI, M1, .inl (fun _ => 0))), (q49, .inl (cyJ, (1 + M1 + M2), .inr (.inl (fun _ => 0))))] H := hP
  have hD : va_D A [(h, .inr (0, [.int (nI M1), .int (nI M2), .ref q20, .ref q31, .ref q38, .ref q49, .int 0, .int 0])), (q20, .inl (cyI, (1 + M1 + M2), .inl (fun _ => 0))), (q31, .inl (cyI, (1 + M1 + M2), .inl (fun _ => 0))), (q38, .inl (cyI, M1, .inl (fun _ => 0))), (q49, .inl (cyJ, (1 + M1 + M2), .inr (.inl (fun _ => 0))))] := hD
  refine lv_aload_n hx hb dX0_init_54 rfl (lv_at hl 0 rfl) ?_
  refine va_get (D := D) (ci := 0) (v := .ref q20) (C := RX0) (T := TX0) (N := 8) hx hb hts hiX0 hown hK hP 0 rfl rfl 2 (by decide) wf18 (fun _ h9 => h9) rfl dX0_init_55 ?_
  refine lv_iconst (v := nI 0) hx hb dX0_init_58 (by decide) ?_
  refine lv_iconst (v := (-1)) hx hb dX0_init_59 (by decide) ?_
  refine x_iast hx hb hK hP hD hS 1 0 rfl rfl (by omega) (by omega) dX0_init_60 (fun H locs hP hD hS => ?_)
  have hP : va_P D vwCl [(h, .inr (0, [.int (nI M1), .int (nI M2), .ref q20, .ref q31, .ref q38, .ref q49, .int 0, .int 0])), (q20, .inl (cyI, (1 + M1 + M2), .inl (upd (fun _ => 0) 0 (-1)))), (q31, .inl (cyI, (1 + M1 + M2), .inl (fun _ => 0))), (q38, .inl (cyI, M1, .inl (fun _ => 0))), (q49, .inl (cyJ, (1 + M1 + M2), .inr (.inl (fun _ => 0))))] H := hP
  have hD : va_D A [(h, .inr (0, [.int (nI M1), .int (nI M2), .ref q20, .ref q31, .ref q38, .ref q49, .int 0, .int 0])), (q20, .inl (cyI, (1 + M1 + M2), .inl (upd (fun _ => 0) 0 (-1)))), (q31, .inl (cyI, (1 + M1 + M2), .inl (fun _ => 0))), (q38, .inl (cyI, M1, .inl (fun _ => 0))), (q49, .inl (cyJ, (1 + M1 + M2), .inr (.inl (fun _ => 0))))] := hD
  refine lv_aload_n hx hb dX0_init_61 rfl (lv_at hl 0 rfl) ?_
  refine va_get (D := D) (ci := 0) (v := .ref q31) (C := RX0) (T := TX0) (N := 8) hx hb hts hiX0 hown hK hP 0 rfl rfl 3 (by decide) wf22 (fun _ h9 => h9) rfl dX0_init_62 ?_
  refine lv_iconst (v := nI 0) hx hb dX0_init_65 (by decide) ?_
  refine lv_iconst (v := (-1)) hx hb dX0_init_66 (by decide) ?_
  refine x_iast hx hb hK hP hD hS 2 0 rfl rfl (by omega) (by omega) dX0_init_67 (fun H locs hP hD hS => ?_)
  have hP : va_P D vwCl [(h, .inr (0, [.int (nI M1), .int (nI M2), .ref q20, .ref q31, .ref q38, .ref q49, .int 0, .int 0])), (q20, .inl (cyI, (1 + M1 + M2), .inl (upd (fun _ => 0) 0 (-1)))), (q31, .inl (cyI, (1 + M1 + M2), .inl (upd (fun _ => 0) 0 (-1)))), (q38, .inl (cyI, M1, .inl (fun _ => 0))), (q49, .inl (cyJ, (1 + M1 + M2), .inr (.inl (fun _ => 0))))] H := hP
  have hD : va_D A [(h, .inr (0, [.int (nI M1), .int (nI M2), .ref q20, .ref q31, .ref q38, .ref q49, .int 0, .int 0])), (q20, .inl (cyI, (1 + M1 + M2), .inl (upd (fun _ => 0) 0 (-1)))), (q31, .inl (cyI, (1 + M1 + M2), .inl (upd (fun _ => 0) 0 (-1)))), (q38, .inl (cyI, M1, .inl (fun _ => 0))), (q49, .inl (cyJ, (1 + M1 + M2), .inr (.inl (fun _ => 0))))] := hD
  refine lv_aload_n hx hb dX0_init_68 rfl (lv_at hl 0 rfl) ?_
  refine lv_iconst (v := nI 1) hx hb dX0_init_69 (by decide) ?_
  refine va_put (D := D) (ci := 0) (v := .int (nI 1)) (ty := .int) (C := RX0) (T := TX0) (N := 8) hx hb hts hiX0 tyX0 tyX0_ok nmX0 hown hK hP hD hS 0 rfl rfl 6 (by decide) wf32 (fun _ h9 => h9) rfl (by decide +kernel) rfl rfl (Nat.le_of_ble_eq_true rfl) dX0_init_70 (fun H locs hP hD hS => ?_)
  have hP : va_P D vwCl [(h, .inr (0, [.int (nI M1), .int (nI M2), .ref q20, .ref q31, .ref q38, .ref q49, .int (nI 1), .int 0])), (q20, .inl (cyI, (1 + M1 + M2), .inl (upd (fun _ => 0) 0 (-1)))), (q31, .inl (cyI, (1 + M1 + M2), .inl (upd (fun _ => 0) 0 (-1)))), (q38, .inl (cyI, M1, .inl (fun _ => 0))), (q49, .inl (cyJ, (1 + M1 + M2), .inr (.inl (fun _ => 0))))] H := hP
  have hD : va_D A [(h, .inr (0, [.int (nI M1), .int (nI M2), .ref q20, .ref q31, .ref q38, .ref q49, .int (nI 1), .int 0])), (q20, .inl (cyI, (1 + M1 + M2), .inl (upd (fun _ => 0) 0 (-1)))), (q31, .inl (cyI, (1 + M1 + M2), .inl (upd (fun _ => 0) 0 (-1)))), (q38, .inl (cyI, M1, .inl (fun _ => 0))), (q49, .inl (cyJ, (1 + M1 + M2), .inr (.inl (fun _ => 0))))] := hD
  exact x_vret hQ hAe hx hb hr hlocks hS hK (Nat.le_of_ble_eq_true rfl) (by omega) dX0_init_73 (q20, q31, q38, q49) hP hD (trivial)
set_option maxHeartbeats 4000000 in
set_option maxRecDepth 100000 in
theorem c_X0_clear (lch : Launch) (D : va_G) (cyI cyJ : ClassId) (sz : Nat) (h : Nat) (a1 : Nat) (a2 : Nat) (a3 : Nat) (a4 : Nat) (M1 : Nat) (M2 : Nat) (lf : Nat → Int32) (of : Nat → Int32) (nf : Nat → Int32) (wf : Nat → Int64) (nc : Nat) (ic : Nat)  : Met lch yX0_clear wsX0_clear ({ frames := 0, cells := 0, slots := 0, locals := 0 } : Room) (va_Pc [.ref h] (xA D (xTy cyI cyJ) sz [(h, .inr (0, [.int (nI M1), .int (nI M2), .ref a1, .ref a2, .ref a3, .ref a4, .int (nI nc), .int (nI ic)])), (a1, .inl (cyI, (1 + M1 + M2), .inl lf)), (a2, .inl (cyI, (1 + M1 + M2), .inl of)), (a3, .inl (cyI, M1, .inl nf)), (a4, .inl (cyJ, (1 + M1 + M2), .inr (.inl wf)))])) (va_Qv (fun (u : Unit) => True) (fun (u : Unit) t => xB D (xTy cyI cyJ) sz [(h, .inr (0, [.int (nI M1), .int (nI M2), .ref a1, .ref a2, .ref a3, .ref a4, .int (nI nc), .int (nI ic)])), (a1, .inl (cyI, (1 + M1 + M2), .inl lf)), (a2, .inl (cyI, (1 + M1 + M2), .inl of)), (a3, .inl (cyI, M1, .inl nf)), (a4, .inl (cyJ, (1 + M1 + M2), .inr (.inl wf)))] [(h, .inr (0, [.int (nI M1), .int (nI M2), .ref a1, .ref a2, .ref a3, .ref a4, .int (nI 1), .int (nI 0)])), (a1, .inl (cyI, (1 + M1 + M2), .inl lf)), (a2, .inl (cyI, (1 + M1 + M2), .inl of)), (a3, .inl (cyI, M1, .inl nf)), (a4, .inl (cyJ, (1 + M1 + M2), .inr (.inl wf)))] t) (va_A [(h, .inr (0, [.int (nI M1), .int (nI M2), .ref a1, .ref a2, .ref a3, .ref a4, .int (nI nc), .int (nI ic)])), (a1, .inl (cyI, (1 + M1 + M2), .inl lf)), (a2, .inl (cyI, (1 + M1 + M2), .inl of)), (a3, .inl (cyI, M1, .inl nf)), (a4, .inl (cyJ, (1 + M1 + M2), .inr (.inl wf)))] sz)) 0 0 (va_A [(h, .inr (0, [.int (nI M1), .int (nI M2), .ref a1, .ref a2, .ref a3, .ref a4, .int (nI nc), .int (nI ic)])), (a1, .inl (cyI, (1 + M1 + M2), .inl lf)), (a2, .inl (cyI, (1 + M1 + M2), .inl of)), (a3, .inl (cyI, M1, .inl nf)), (a4, .inl (cyJ, (1 + M1 + M2), .inr (.inl wf)))] sz) := by
  refine x_met RX0 (by decide) rfl rfl (Nat.le_of_ble_eq_true rfl) ?_
  intro p e s m below meth c A Q hAe hQ hx hb hr hlocks hml hnm hts hown hNN hK hsz hP hD hS hA ls hl
  have wf32 := hts (.fieldLink RX0 32 "NetTwin$Net" "nodeCount" "I") (by decide +kernel)
  have hiX0 : ∀ w ∈ u_ws RX0 TX0 8, w ∈ wsX0_clear := by decide +kernel
  have wf35 := hts (.fieldLink RX0 35 "NetTwin$Net" "inputCount" "I") (by decide +kernel)
  have hP : va_P D vwCl [(h, .inr (0, [.int (nI M1), .int (nI M2), .ref a1, .ref a2, .ref a3, .ref a4, .int (nI nc), .int (nI ic)])), (a1, .inl (cyI, (1 + M1 + M2), .inl lf)), (a2, .inl (cyI, (1 + M1 + M2), .inl of)), (a3, .inl (cyI, M1, .inl nf)), (a4, .inl (cyJ, (1 + M1 + M2), .inr (.inl wf)))] s.heap := hP
  have hD : va_D A [(h, .inr (0, [.int (nI M1), .int (nI M2), .ref a1, .ref a2, .ref a3, .ref a4, .int (nI nc), .int (nI ic)])), (a1, .inl (cyI, (1 + M1 + M2), .inl lf)), (a2, .inl (cyI, (1 + M1 + M2), .inl of)), (a3, .inl (cyI, M1, .inl nf)), (a4, .inl (cyJ, (1 + M1 + M2), .inr (.inl wf)))] := hD
  have hl : lv_has ls 1 [(0, .ref h)] := hl
  refine lv_aload_n hx hb dX0_clear_0 rfl (lv_at hl 0 rfl) ?_
  refine lv_iconst (v := nI 1) hx hb dX0_clear_1 (by decide) ?_
  refine va_put (D := D) (ci := 0) (v := .int (nI 1)) (ty := .int) (C := RX0) (T := TX0) (N := 8) hx hb hts hiX0 tyX0 tyX0_ok nmX0 hown hK hP hD hS 0 rfl rfl 6 (by decide) wf32 (fun _ h9 => h9) rfl (by decide +kernel) rfl rfl (Nat.le_of_ble_eq_true rfl) dX0_clear_2 (fun H locs hP hD hS => ?_)
  have hP : va_P D vwCl [(h, .inr (0, [.int (nI M1), .int (nI M2), .ref a1, .ref a2, .ref a3, .ref a4, .int (nI 1), .int (nI ic)])), (a1, .inl (cyI, (1 + M1 + M2), .inl lf)), (a2, .inl (cyI, (1 + M1 + M2), .inl of)), (a3, .inl (cyI, M1, .inl nf)), (a4, .inl (cyJ, (1 + M1 + M2), .inr (.inl wf)))] H := hP
  have hD : va_D A [(h, .inr (0, [.int (nI M1), .int (nI M2), .ref a1, .ref a2, .ref a3, .ref a4, .int (nI 1), .int (nI ic)])), (a1, .inl (cyI, (1 + M1 + M2), .inl lf)), (a2, .inl (cyI, (1 + M1 + M2), .inl of)), (a3, .inl (cyI, M1, .inl nf)), (a4, .inl (cyJ, (1 + M1 + M2), .inr (.inl wf)))] := hD
  refine lv_aload_n hx hb dX0_clear_5 rfl (lv_at hl 0 rfl) ?_
  refine lv_iconst (v := nI 0) hx hb dX0_clear_6 (by decide) ?_
  refine va_put (D := D) (ci := 0) (v := .int (nI 0)) (ty := .int) (C := RX0) (T := TX0) (N := 8) hx hb hts hiX0 tyX0 tyX0_ok nmX0 hown hK hP hD hS 0 rfl rfl 7 (by decide) wf35 (fun _ h9 => h9) rfl (by decide +kernel) rfl rfl (Nat.le_of_ble_eq_true rfl) dX0_clear_7 (fun H locs hP hD hS => ?_)
  have hP : va_P D vwCl [(h, .inr (0, [.int (nI M1), .int (nI M2), .ref a1, .ref a2, .ref a3, .ref a4, .int (nI 1), .int (nI 0)])), (a1, .inl (cyI, (1 + M1 + M2), .inl lf)), (a2, .inl (cyI, (1 + M1 + M2), .inl of)), (a3, .inl (cyI, M1, .inl nf)), (a4, .inl (cyJ, (1 + M1 + M2), .inr (.inl wf)))] H := hP
  have hD : va_D A [(h, .inr (0, [.int (nI M1), .int (nI M2), .ref a1, .ref a2, .ref a3, .ref a4, .int (nI 1), .int (nI 0)])), (a1, .inl (cyI, (1 + M1 + M2), .inl lf)), (a2, .inl (cyI, (1 + M1 + M2), .inl of)), (a3, .inl (cyI, M1, .inl nf)), (a4, .inl (cyJ, (1 + M1 + M2), .inr (.inl wf)))] := hD
  exact x_vret hQ hAe hx hb hr hlocks hS hK (Nat.le_of_ble_eq_true rfl) (Nat.le_of_ble_eq_true rfl) dX0_clear_10 () hP hD (trivial)
set_option maxHeartbeats 4000000 in
set_option maxRecDepth 100000 in
theorem c_X0_holds (lch : Launch) (D : va_G) (cyI cyJ : ClassId) (sz : Nat) (h : Nat) (a1 : Nat) (a2 : Nat) (a3 : Nat) (a4 : Nat) (M1 : Nat) (M2 : Nat) (lf : Nat → Int32) (of : Nat → Int32) (nf : Nat → Int32) (wf : Nat → Int64) (nc : Nat) (ic : Nat) (x : Int32) (hnc : nc < 100000) : Met lch yX0_holds wsX0_holds ({ frames := 0, cells := 0, slots := 0, locals := 0 } : Room) (va_Pc [.ref h, .int x] (xA D (xTy cyI cyJ) sz [(h, .inr (0, [.int (nI M1), .int (nI M2), .ref a1, .ref a2, .ref a3, .ref a4, .int (nI nc), .int (nI ic)])), (a1, .inl (cyI, (1 + M1 + M2), .inl lf)), (a2, .inl (cyI, (1 + M1 + M2), .inl of)), (a3, .inl (cyI, M1, .inl nf)), (a4, .inl (cyJ, (1 + M1 + M2), .inr (.inl wf)))])) (va_Qi (fun (r : Int32) (u : Unit) => r = bI (0 ≤ x ∧ x < nI (2 * nc))) (fun (u : Unit) t => xB D (xTy cyI cyJ) sz [(h, .inr (0, [.int (nI M1), .int (nI M2), .ref a1, .ref a2, .ref a3, .ref a4, .int (nI nc), .int (nI ic)])), (a1, .inl (cyI, (1 + M1 + M2), .inl lf)), (a2, .inl (cyI, (1 + M1 + M2), .inl of)), (a3, .inl (cyI, M1, .inl nf)), (a4, .inl (cyJ, (1 + M1 + M2), .inr (.inl wf)))] [(h, .inr (0, [.int (nI M1), .int (nI M2), .ref a1, .ref a2, .ref a3, .ref a4, .int (nI nc), .int (nI ic)])), (a1, .inl (cyI, (1 + M1 + M2), .inl lf)), (a2, .inl (cyI, (1 + M1 + M2), .inl of)), (a3, .inl (cyI, M1, .inl nf)), (a4, .inl (cyJ, (1 + M1 + M2), .inr (.inl wf)))] t) (va_A [(h, .inr (0, [.int (nI M1), .int (nI M2), .ref a1, .ref a2, .ref a3, .ref a4, .int (nI nc), .int (nI ic)])), (a1, .inl (cyI, (1 + M1 + M2), .inl lf)), (a2, .inl (cyI, (1 + M1 + M2), .inl of)), (a3, .inl (cyI, M1, .inl nf)), (a4, .inl (cyJ, (1 + M1 + M2), .inr (.inl wf)))] sz)) 0 0 (va_A [(h, .inr (0, [.int (nI M1), .int (nI M2), .ref a1, .ref a2, .ref a3, .ref a4, .int (nI nc), .int (nI ic)])), (a1, .inl (cyI, (1 + M1 + M2), .inl lf)), (a2, .inl (cyI, (1 + M1 + M2), .inl of)), (a3, .inl (cyI, M1, .inl nf)), (a4, .inl (cyJ, (1 + M1 + M2), .inr (.inl wf)))] sz) := by
  refine x_met RX0 (by decide) rfl rfl (Nat.le_of_ble_eq_true rfl) ?_
  intro p e s m below meth c A Q hAe hQ hx hb hr hlocks hml hnm hts hown hNN hK hsz hP hD hS hA ls hl
  have wf32 := hts (.fieldLink RX0 32 "NetTwin$Net" "nodeCount" "I") (by decide +kernel)
  have hiX0 : ∀ w ∈ u_ws RX0 TX0 8, w ∈ wsX0_holds := by decide +kernel
  have hP : va_P D vwCl [(h, .inr (0, [.int (nI M1), .int (nI M2), .ref a1, .ref a2, .ref a3, .ref a4, .int (nI nc), .int (nI ic)])), (a1, .inl (cyI, (1 + M1 + M2), .inl lf)), (a2, .inl (cyI, (1 + M1 + M2), .inl of)), (a3, .inl (cyI, M1, .inl nf)), (a4, .inl (cyJ, (1 + M1 + M2), .inr (.inl wf)))] s.heap := hP
  have hD : va_D A [(h, .inr (0, [.int (nI M1), .int (nI M2), .ref a1, .ref a2, .ref a3, .ref a4, .int (nI nc), .int (nI ic)])), (a1, .inl (cyI, (1 + M1 + M2), .inl lf)), (a2, .inl (cyI, (1 + M1 + M2), .inl of)), (a3, .inl (cyI, M1, .inl nf)), (a4, .inl (cyJ, (1 + M1 + M2), .inr (.inl wf)))] := hD
  have hl : lv_has ls 2 [(0, .ref h), (1, .int x)] := hl
  refine lv_iload_n hx hb dX0_holds_0 rfl (lv_at hl 1 rfl) ?_
  refine lv_if_lt (tgt := 18) hx hb dX0_holds_1 (by decide) (fun c1 => ?_) (fun c1 => ?_)
  · refine lv_iconst (v := nI 0) hx hb dX0_holds_18 (by decide) ?_
    refine x_top (show nI 0 = bI (0 ≤ x ∧ x < nI (2 * nc)) from bI_fn (by rintro ⟨p1, p2⟩; exact absurd c1 (Int32.not_lt.mpr p1))) ?_
    exact x_iret hQ hAe hx hb hr hlocks (bI_z) hS hK (Nat.le_of_ble_eq_true rfl) (Nat.le_of_ble_eq_true rfl) dX0_holds_19 () hP hD (rfl)
  · have c1 := Int32.not_lt.mp c1
    refine lv_iload_n hx hb dX0_holds_4 rfl (lv_at hl 1 rfl) ?_
    refine lv_iconst (v := nI 2) hx hb dX0_holds_5 (by decide) ?_
    refine lv_aload_n hx hb dX0_holds_6 rfl (lv_at hl 0 rfl) ?_
    refine va_get (D := D) (ci := 0) (v := .int (nI nc)) (C := RX0) (T := TX0) (N := 8) hx hb hts hiX0 hown hK hP 0 rfl rfl 6 (by decide) wf32 (fun _ h9 => h9) rfl dX0_holds_7 ?_
    refine lv_imul hx hb dX0_holds_10 ?_
    refine x_top (pk_mul _ _) ?_
    refine lv_icmp_ge (tgt := 18) hx hb dX0_holds_11 (by decide) (fun c11 => ?_) (fun c11 => ?_)
    · refine lv_iconst (v := nI 0) hx hb dX0_holds_18 (by decide) ?_
      refine x_top (show nI 0 = bI (0 ≤ x ∧ x < nI (2 * nc)) from bI_fn (by rintro ⟨p1, p2⟩; exact absurd p2 (Int32.not_lt.mpr c11))) ?_
      exact x_iret hQ hAe hx hb hr hlocks (bI_z) hS hK (Nat.le_of_ble_eq_true rfl) (Nat.le_of_ble_eq_true rfl) dX0_holds_19 () hP hD (rfl)
    · refine lv_iconst (v := nI 1) hx hb dX0_holds_14 (by decide) ?_
      refine x_top (show nI 1 = bI (0 ≤ x ∧ x < nI (2 * nc)) from bI_tn ⟨c1, Int32.not_le.mp c11⟩) ?_
      refine lv_goto (tgt := 19) hx hb dX0_holds_15 (by decide) ?_
      exact x_iret hQ hAe hx hb hr hlocks (bI_z) hS hK (Nat.le_of_ble_eq_true rfl) (Nat.le_of_ble_eq_true rfl) dX0_holds_19 () hP hD (rfl)
set_option maxHeartbeats 4000000 in
set_option maxRecDepth 100000 in
theorem c_X0_isGate (lch : Launch) (D : va_G) (cyI cyJ : ClassId) (sz : Nat) (h : Nat) (a1 : Nat) (a2 : Nat) (a3 : Nat) (a4 : Nat) (M1 : Nat) (M2 : Nat) (lf : Nat → Int32) (of : Nat → Int32) (nf : Nat → Int32) (wf : Nat → Int64) (nc : Nat) (ic : Nat) (k : Nat) (hk : k < 1 + M1 + M2) (hMM : M1 + M2 < 10000) : Met lch yX0_isGate wsX0_isGate ({ frames := 0, cells := 0, slots := 0, locals := 0 } : Room) (va_Pc [.ref h, .int (nI k)] (xA D (xTy cyI cyJ) sz [(h, .inr (0, [.int (nI M1), .int (nI M2), .ref a1, .ref a2, .ref a3, .ref a4, .int (nI nc), .int (nI ic)])), (a1, .inl (cyI, (1 + M1 + M2), .inl lf)), (a2, .inl (cyI, (1 + M1 + M2), .inl of)), (a3, .inl (cyI, M1, .inl nf)), (a4, .inl (cyJ, (1 + M1 + M2), .inr (.inl wf)))])) (va_Qi (fun (r : Int32) (u : Unit) => r = bI (¬ lf k = -1)) (fun (u : Unit) t => xB D (xTy cyI cyJ) sz [(h, .inr (0, [.int (nI M1), .int (nI M2), .ref a1, .ref a2, .ref a3, .ref a4, .int (nI nc), .int (nI ic)])), (a1, .inl (cyI, (1 + M1 + M2), .inl lf)), (a2, .inl (cyI, (1 + M1 + M2), .inl of)), (a3, .inl (cyI, M1, .inl nf)), (a4, .inl (cyJ, (1 + M1 + M2), .inr (.inl wf)))] [(h, .inr (0, [.int (nI M1), .int (nI M2), .ref a1, .ref a2, .ref a3, .ref a4, .int (nI nc), .int (nI ic)])), (a1, .inl (cyI, (1 + M1 + M2), .inl lf)), (a2, .inl (cyI, (1 + M1 + M2), .inl of)), (a3, .inl (cyI, M1, .inl nf)), (a4, .inl (cyJ, (1 + M1 + M2), .inr (.inl wf)))] t) (va_A [(h, .inr (0, [.int (nI M1), .int (nI M2), .ref a1, .ref a2, .ref a3, .ref a4, .int (nI nc), .int (nI ic)])), (a1, .inl (cyI, (1 + M1 + M2), .inl lf)), (a2, .inl (cyI, (1 + M1 + M2), .inl of)), (a3, .inl (cyI, M1, .inl nf)), (a4, .inl (cyJ, (1 + M1 + M2), .inr (.inl wf)))] sz)) 0 0 (va_A [(h, .inr (0, [.int (nI M1), .int (nI M2), .ref a1, .ref a2, .ref a3, .ref a4, .int (nI nc), .int (nI ic)])), (a1, .inl (cyI, (1 + M1 + M2), .inl lf)), (a2, .inl (cyI, (1 + M1 + M2), .inl of)), (a3, .inl (cyI, M1, .inl nf)), (a4, .inl (cyJ, (1 + M1 + M2), .inr (.inl wf)))] sz) := by
  refine x_met RX0 (by decide) rfl rfl (Nat.le_of_ble_eq_true rfl) ?_
  intro p e s m below meth c A Q hAe hQ hx hb hr hlocks hml hnm hts hown hNN hK hsz hP hD hS hA ls hl
  have wf18 := hts (.fieldLink RX0 18 "NetTwin$Net" "lesser" "[I") (by decide +kernel)
  have hiX0 : ∀ w ∈ u_ws RX0 TX0 8, w ∈ wsX0_isGate := by decide +kernel
  have hP : va_P D vwCl [(h, .inr (0, [.int (nI M1), .int (nI M2), .ref a1, .ref a2, .ref a3, .ref a4, .int (nI nc), .int (nI ic)])), (a1, .inl (cyI, (1 + M1 + M2), .inl lf)), (a2, .inl (cyI, (1 + M1 + M2), .inl of)), (a3, .inl (cyI, M1, .inl nf)), (a4, .inl (cyJ, (1 + M1 + M2), .inr (.inl wf)))] s.heap := hP
  have hD : va_D A [(h, .inr (0, [.int (nI M1), .int (nI M2), .ref a1, .ref a2, .ref a3, .ref a4, .int (nI nc), .int (nI ic)])), (a1, .inl (cyI, (1 + M1 + M2), .inl lf)), (a2, .inl (cyI, (1 + M1 + M2), .inl of)), (a3, .inl (cyI, M1, .inl nf)), (a4, .inl (cyJ, (1 + M1 + M2), .inr (.inl wf)))] := hD
  have hl : lv_has ls 2 [(0, .ref h), (1, .int (nI k))] := hl
  refine lv_aload_n hx hb dX0_isGate_0 rfl (lv_at hl 0 rfl) ?_
  refine va_get (D := D) (ci := 0) (v := .ref a1) (C := RX0) (T := TX0) (N := 8) hx hb hts hiX0 hown hK hP 0 rfl rfl 2 (by decide) wf18 (fun _ h9 => h9) rfl dX0_isGate_1 ?_
  refine lv_iload_n hx hb dX0_isGate_4 rfl (lv_at hl 1 rfl) ?_
  refine x_iald hx hb hK hP 1 0 rfl rfl (by omega) (by omega) dX0_isGate_5 ?_
  refine lv_iconst (v := (-1)) hx hb dX0_isGate_6 (by decide) ?_
  refine lv_icmp_eq (tgt := 14) hx hb dX0_isGate_7 (by decide) (fun c7 => ?_) (fun c7 => ?_)
  · refine lv_iconst (v := nI 0) hx hb dX0_isGate_14 (by decide) ?_
    refine x_top (show nI 0 = bI (¬ lf k = -1) from bI_fn (fun z => z c7)) ?_
    exact x_iret hQ hAe hx hb hr hlocks (bI_z) hS hK (Nat.le_of_ble_eq_true rfl) (Nat.le_of_ble_eq_true rfl) dX0_isGate_15 () hP hD (rfl)
  · refine lv_iconst (v := nI 1) hx hb dX0_isGate_10 (by decide) ?_
    refine x_top (show nI 1 = bI (¬ lf k = -1) from bI_tn c7) ?_
    refine lv_goto (tgt := 15) hx hb dX0_isGate_11 (by decide) ?_
    exact x_iret hQ hAe hx hb hr hlocks (bI_z) hS hK (Nat.le_of_ble_eq_true rfl) (Nat.le_of_ble_eq_true rfl) dX0_isGate_15 () hP hD (rfl)
set_option maxHeartbeats 4000000 in
set_option maxRecDepth 100000 in
theorem c_X0_addNode (lch : Launch) (D : va_G) (cyI cyJ : ClassId) (sz : Nat) (h : Nat) (a1 : Nat) (a2 : Nat) (a3 : Nat) (a4 : Nat) (M1 : Nat) (M2 : Nat) (lf : Nat → Int32) (of : Nat → Int32) (nf : Nat → Int32) (wf : Nat → Int64) (nc : Nat) (ic : Nat) (x : Int32) (y : Int32) (hk : nc < 1 + M1 + M2) (hMM : M1 + M2 < 10000) : Met lch yX0_addNode wsX0_addNode ({ frames := 0, cells := 0, slots := 0, locals := 0 } : Room) (va_Pc [.ref h, .int x, .int y] (xA D (xTy cyI cyJ) sz [(h, .inr (0, [.int (nI M1), .int (nI M2), .ref a1, .ref a2, .ref a3, .ref a4, .int (nI nc), .int (nI ic)])), (a1, .inl (cyI, (1 + M1 + M2), .inl lf)), (a2, .inl (cyI, (1 + M1 + M2), .inl of)), (a3, .inl (cyI, M1, .inl nf)), (a4, .inl (cyJ, (1 + M1 + M2), .inr (.inl wf)))])) (va_Qi (fun (r : Int32) (u : Unit) => r = nI (2 * nc)) (fun (u : Unit) t => xB D (xTy cyI cyJ) sz [(h, .inr (0, [.int (nI M1), .int (nI M2), .ref a1, .ref a2, .ref a3, .ref a4, .int (nI nc), .int (nI ic)])), (a1, .inl (cyI, (1 + M1 + M2), .inl lf)), (a2, .inl (cyI, (1 + M1 + M2), .inl of)), (a3, .inl (cyI, M1, .inl nf)), (a4, .inl (cyJ, (1 + M1 + M2), .inr (.inl wf)))] [(h, .inr (0, [.int (nI M1), .int (nI M2), .ref a1, .ref a2, .ref a3, .ref a4, .int (nI (nc + 1)), .int (nI ic)])), (a1, .inl (cyI, (1 + M1 + M2), .inl (upd lf nc x))), (a2, .inl (cyI, (1 + M1 + M2), .inl (upd of nc y))), (a3, .inl (cyI, M1, .inl nf)), (a4, .inl (cyJ, (1 + M1 + M2), .inr (.inl wf)))] t) (va_A [(h, .inr (0, [.int (nI M1), .int (nI M2), .ref a1, .ref a2, .ref a3, .ref a4, .int (nI nc), .int (nI ic)])), (a1, .inl (cyI, (1 + M1 + M2), .inl lf)), (a2, .inl (cyI, (1 + M1 + M2), .inl of)), (a3, .inl (cyI, M1, .inl nf)), (a4, .inl (cyJ, (1 + M1 + M2), .inr (.inl wf)))] sz)) 0 0 (va_A [(h, .inr (0, [.int (nI M1), .int (nI M2), .ref a1, .ref a2, .ref a3, .ref a4, .int (nI nc), .int (nI ic)])), (a1, .inl (cyI, (1 + M1 + M2), .inl lf)), (a2, .inl (cyI, (1 + M1 + M2), .inl of)), (a3, .inl (cyI, M1, .inl nf)), (a4, .inl (cyJ, (1 + M1 + M2), .inr (.inl wf)))] sz) := by
  refine x_met RX0 (by decide) rfl rfl (Nat.le_of_ble_eq_true rfl) ?_
  intro p e s m below meth c A Q hAe hQ hx hb hr hlocks hml hnm hts hown hNN hK hsz hP hD hS hA ls hl
  have wf32 := hts (.fieldLink RX0 32 "NetTwin$Net" "nodeCount" "I") (by decide +kernel)
  have hiX0 : ∀ w ∈ u_ws RX0 TX0 8, w ∈ wsX0_addNode := by decide +kernel
  have wf18 := hts (.fieldLink RX0 18 "NetTwin$Net" "lesser" "[I") (by decide +kernel)
  have wf22 := hts (.fieldLink RX0 22 "NetTwin$Net" "other" "[I") (by decide +kernel)
  have hP : va_P D vwCl [(h, .inr (0, [.int (nI M1), .int (nI M2), .ref a1, .ref a2, .ref a3, .ref a4, .int (nI nc), .int (nI ic)])), (a1, .inl (cyI, (1 + M1 + M2), .inl lf)), (a2, .inl (cyI, (1 + M1 + M2), .inl of)), (a3, .inl (cyI, M1, .inl nf)), (a4, .inl (cyJ, (1 + M1 + M2), .inr (.inl wf)))] s.heap := hP
  have hD : va_D A [(h, .inr (0, [.int (nI M1), .int (nI M2), .ref a1, .ref a2, .ref a3, .ref a4, .int (nI nc), .int (nI ic)])), (a1, .inl (cyI, (1 + M1 + M2), .inl lf)), (a2, .inl (cyI, (1 + M1 + M2), .inl of)), (a3, .inl (cyI, M1, .inl nf)), (a4, .inl (cyJ, (1 + M1 + M2), .inr (.inl wf)))] := hD
  have hl : lv_has ls 4 [(0, .ref h), (1, .int x), (2, .int y)] := hl
  refine lv_aload_n hx hb dX0_addNode_0 rfl (lv_at hl 0 rfl) ?_
  refine va_get (D := D) (ci := 0) (v := .int (nI nc)) (C := RX0) (T := TX0) (N := 8) hx hb hts hiX0 hown hK hP 0 rfl rfl 6 (by decide) wf32 (fun _ h9 => h9) rfl dX0_addNode_1 ?_
  refine lv_istore_n (lv' := [(3, .int (nI nc)), (0, .ref h), (1, .int x), (2, .int y)]) hx hb dX0_addNode_4 rfl hl (by decide) rfl (fun ls hl => ?_)
  refine lv_aload_n hx hb dX0_addNode_5 rfl (lv_at hl 1 rfl) ?_
  refine va_get (D := D) (ci := 0) (v := .ref a1) (C := RX0) (T := TX0) (N := 8) hx hb hts hiX0 hown hK hP 0 rfl rfl 2 (by decide) wf18 (fun _ h9 => h9) rfl dX0_addNode_6 ?_
  refine lv_iload_n hx hb dX0_addNode_9 rfl (lv_at hl 0 rfl) ?_
  refine lv_iload_n hx hb dX0_addNode_10 rfl (lv_at hl 2 rfl) ?_
  refine x_iast hx hb hK hP hD hS 1 0 rfl rfl (by omega) (by omega) dX0_addNode_11 (fun H locs hP hD hS => ?_)
  have hP : va_P D vwCl [(h, .inr (0, [.int (nI M1), .int (nI M2), .ref a1, .ref a2, .ref a3, .ref a4, .int (nI nc), .int (nI ic)])), (a1, .inl (cyI, (1 + M1 + M2), .inl (upd lf nc x))), (a2, .inl (cyI, (1 + M1 + M2), .inl of)), (a3, .inl (cyI, M1, .inl nf)), (a4, .inl (cyJ, (1 + M1 + M2), .inr (.inl wf)))] H := hP
  have hD : va_D A [(h, .inr (0, [.int (nI M1), .int (nI M2), .ref a1, .ref a2, .ref a3, .ref a4, .int (nI nc), .int (nI ic)])), (a1, .inl (cyI, (1 + M1 + M2), .inl (upd lf nc x))), (a2, .inl (cyI, (1 + M1 + M2), .inl of)), (a3, .inl (cyI, M1, .inl nf)), (a4, .inl (cyJ, (1 + M1 + M2), .inr (.inl wf)))] := hD
  refine lv_aload_n hx hb dX0_addNode_12 rfl (lv_at hl 1 rfl) ?_
  refine va_get (D := D) (ci := 0) (v := .ref a2) (C := RX0) (T := TX0) (N := 8) hx hb hts hiX0 hown hK hP 0 rfl rfl 3 (by decide) wf22 (fun _ h9 => h9) rfl dX0_addNode_13 ?_
  refine lv_iload_n hx hb dX0_addNode_16 rfl (lv_at hl 0 rfl) ?_
  refine lv_iload_n hx hb dX0_addNode_17 rfl (lv_at hl 3 rfl) ?_
  refine x_iast hx hb hK hP hD hS 2 0 rfl rfl (by omega) (by omega) dX0_addNode_18 (fun H locs hP hD hS => ?_)
  have hP : va_P D vwCl [(h, .inr (0, [.int (nI M1), .int (nI M2), .ref a1, .ref a2, .ref a3, .ref a4, .int (nI nc), .int (nI ic)])), (a1, .inl (cyI, (1 + M1 + M2), .inl (upd lf nc x))), (a2, .inl (cyI, (1 + M1 + M2), .inl (upd of nc y))), (a3, .inl (cyI, M1, .inl nf)), (a4, .inl (cyJ, (1 + M1 + M2), .inr (.inl wf)))] H := hP
  have hD : va_D A [(h, .inr (0, [.int (nI M1), .int (nI M2), .ref a1, .ref a2, .ref a3, .ref a4, .int (nI nc), .int (nI ic)])), (a1, .inl (cyI, (1 + M1 + M2), .inl (upd lf nc x))), (a2, .inl (cyI, (1 + M1 + M2), .inl (upd of nc y))), (a3, .inl (cyI, M1, .inl nf)), (a4, .inl (cyJ, (1 + M1 + M2), .inr (.inl wf)))] := hD
  refine lv_aload_n hx hb dX0_addNode_19 rfl (lv_at hl 1 rfl) ?_
  refine lv_dup hx hb dX0_addNode_20 rfl ?_
  refine va_get (D := D) (ci := 0) (v := .int (nI nc)) (C := RX0) (T := TX0) (N := 8) hx hb hts hiX0 hown hK hP 0 rfl rfl 6 (by decide) wf32 (fun _ h9 => h9) rfl dX0_addNode_21 ?_
  refine lv_iconst (v := nI 1) hx hb dX0_addNode_24 (by decide) ?_
  refine lv_iadd hx hb dX0_addNode_25 ?_
  refine x_top (nI_add _ _) ?_
  refine va_put (D := D) (ci := 0) (v := .int (nI (nc + 1))) (ty := .int) (C := RX0) (T := TX0) (N := 8) hx hb hts hiX0 tyX0 tyX0_ok nmX0 hown hK hP hD hS 0 rfl rfl 6 (by decide) wf32 (fun _ h9 => h9) rfl (by decide +kernel) rfl rfl (Nat.le_of_ble_eq_true rfl) dX0_addNode_26 (fun H locs hP hD hS => ?_)
  have hP : va_P D vwCl [(h, .inr (0, [.int (nI M1), .int (nI M2), .ref a1, .ref a2, .ref a3, .ref a4, .int (nI (nc + 1)), .int (nI ic)])), (a1, .inl (cyI, (1 + M1 + M2), .inl (upd lf nc x))), (a2, .inl (cyI, (1 + M1 + M2), .inl (upd of nc y))), (a3, .inl (cyI, M1, .inl nf)), (a4, .inl (cyJ, (1 + M1 + M2), .inr (.inl wf)))] H := hP
  have hD : va_D A [(h, .inr (0, [.int (nI M1), .int (nI M2), .ref a1, .ref a2, .ref a3, .ref a4, .int (nI (nc + 1)), .int (nI ic)])), (a1, .inl (cyI, (1 + M1 + M2), .inl (upd lf nc x))), (a2, .inl (cyI, (1 + M1 + M2), .inl (upd of nc y))), (a3, .inl (cyI, M1, .inl nf)), (a4, .inl (cyJ, (1 + M1 + M2), .inr (.inl wf)))] := hD
  refine lv_iconst (v := nI 2) hx hb dX0_addNode_29 (by decide) ?_
  refine lv_iload_n hx hb dX0_addNode_30 rfl (lv_at hl 0 rfl) ?_
  refine lv_imul hx hb dX0_addNode_31 ?_
  refine x_top (pk_mul _ _) ?_
  exact x_iret hQ hAe hx hb hr hlocks (rfl) hS hK (Nat.le_of_ble_eq_true rfl) (Nat.le_of_ble_eq_true rfl) dX0_addNode_32 () hP hD (rfl)
set_option maxHeartbeats 4000000 in
set_option maxRecDepth 100000 in
theorem c_X0_addInput (lch : Launch) (D : va_G) (cyI cyJ : ClassId) (sz : Nat) (h : Nat) (a1 : Nat) (a2 : Nat) (a3 : Nat) (a4 : Nat) (M1 : Nat) (M2 : Nat) (lf : Nat → Int32) (of : Nat → Int32) (nf : Nat → Int32) (wf : Nat → Int64) (nc : Nat) (ic : Nat) (hi : ic < M1) (hk : nc < 1 + M1 + M2) (hMM : M1 + M2 < 10000) : Met lch yX0_addInput wsX0_addInput ({ frames := 1, cells := 0, slots := 0, locals := 23 } : Room) (va_Pc [.ref h] (xA D (xTy cyI cyJ) sz [(h, .inr (0, [.int (nI M1), .int (nI M2), .ref a1, .ref a2, .ref a3, .ref a4, .int (nI nc), .int (nI ic)])), (a1, .inl (cyI, (1 + M1 + M2), .inl lf)), (a2, .inl (cyI, (1 + M1 + M2), .inl of)), (a3, .inl (cyI, M1, .inl nf)), (a4, .inl (cyJ, (1 + M1 + M2), .inr (.inl wf)))])) (va_Qi (fun (r : Int32) (u : Unit) => r = nI (2 * nc)) (fun (u : Unit) t => xB D (xTy cyI cyJ) sz [(h, .inr (0, [.int (nI M1), .int (nI M2), .ref a1, .ref a2, .ref a3, .ref a4, .int (nI nc), .int (nI ic)])), (a1, .inl (cyI, (1 + M1 + M2), .inl lf)), (a2, .inl (cyI, (1 + M1 + M2), .inl of)), (a3, .inl (cyI, M1, .inl nf)), (a4, .inl (cyJ, (1 + M1 + M2), .inr (.inl wf)))] [(h, .inr (0, [.int (nI M1), .int (nI M2), .ref a1, .ref a2, .ref a3, .ref a4, .int (nI (nc + 1)), .int (nI (ic + 1))])), (a1, .inl (cyI, (1 + M1 + M2), .inl (upd lf nc (-1)))), (a2, .inl (cyI, (1 + M1 + M2), .inl (upd of nc (-1)))), (a3, .inl (cyI, M1, .inl (upd nf ic (nI nc)))), (a4, .inl (cyJ, (1 + M1 + M2), .inr (.inl wf)))] t) (va_A [(h, .inr (0, [.int (nI M1), .int (nI M2), .ref a1, .ref a2, .ref a3, .ref a4, .int (nI nc), .int (nI ic)])), (a1, .inl (cyI, (1 + M1 + M2), .inl lf)), (a2, .inl (cyI, (1 + M1 + M2), .inl of)), (a3, .inl (cyI, M1, .inl nf)), (a4, .inl (cyJ, (1 + M1 + M2), .inr (.inl wf)))] sz)) 0 0 (va_A [(h, .inr (0, [.int (nI M1), .int (nI M2), .ref a1, .ref a2, .ref a3, .ref a4, .int (nI nc), .int (nI ic)])), (a1, .inl (cyI, (1 + M1 + M2), .inl lf)), (a2, .inl (cyI, (1 + M1 + M2), .inl of)), (a3, .inl (cyI, M1, .inl nf)), (a4, .inl (cyJ, (1 + M1 + M2), .inr (.inl wf)))] sz) := by
  refine x_met RX0 (by decide) rfl rfl (Nat.le_of_ble_eq_true rfl) ?_
  intro p e s m below meth c A Q hAe hQ hx hb hr hlocks hml hnm hts hown hNN hK hsz hP hD hS hA ls hl
  have wf35 := hts (.fieldLink RX0 35 "NetTwin$Net" "inputCount" "I") (by decide +kernel)
  have hiX0 : ∀ w ∈ u_ws RX0 TX0 8, w ∈ wsX0_addInput := by decide +kernel
  have wf9 := hts (.fieldLink RX0 9 "NetTwin$Net" "mostInputs" "I") (by decide +kernel)
  have wf25 := hts (.fieldLink RX0 25 "NetTwin$Net" "inputNode" "[I") (by decide +kernel)
  have wf32 := hts (.fieldLink RX0 32 "NetTwin$Net" "nodeCount" "I") (by decide +kernel)
  have hP : va_P D vwCl [(h, .inr (0, [.int (nI M1), .int (nI M2), .ref a1, .ref a2, .ref a3, .ref a4, .int (nI nc), .int (nI ic)])), (a1, .inl (cyI, (1 + M1 + M2), .inl lf)), (a2, .inl (cyI, (1 + M1 + M2), .inl of)), (a3, .inl (cyI, M1, .inl nf)), (a4, .inl (cyJ, (1 + M1 + M2), .inr (.inl wf)))] s.heap := hP
  have hD : va_D A [(h, .inr (0, [.int (nI M1), .int (nI M2), .ref a1, .ref a2, .ref a3, .ref a4, .int (nI nc), .int (nI ic)])), (a1, .inl (cyI, (1 + M1 + M2), .inl lf)), (a2, .inl (cyI, (1 + M1 + M2), .inl of)), (a3, .inl (cyI, M1, .inl nf)), (a4, .inl (cyJ, (1 + M1 + M2), .inr (.inl wf)))] := hD
  have hl : lv_has ls 1 [(0, .ref h)] := hl
  refine lv_aload_n hx hb dX0_addInput_0 rfl (lv_at hl 0 rfl) ?_
  refine va_get (D := D) (ci := 0) (v := .int (nI ic)) (C := RX0) (T := TX0) (N := 8) hx hb hts hiX0 hown hK hP 0 rfl rfl 7 (by decide) wf35 (fun _ h9 => h9) rfl dX0_addInput_1 ?_
  refine lv_aload_n hx hb dX0_addInput_4 rfl (lv_at hl 0 rfl) ?_
  refine va_get (D := D) (ci := 0) (v := .int (nI M1)) (C := RX0) (T := TX0) (N := 8) hx hb hts hiX0 hown hK hP 0 rfl rfl 0 (by decide) wf9 (fun _ h9 => h9) rfl dX0_addInput_5 ?_
  refine lv_icmp_lt (tgt := 13) hx hb dX0_addInput_8 (by decide) (fun c8 => ?_) (fun c8 => absurd ((nI_ltI (by omega) (by omega)).mpr hi) c8)
  refine lv_aload_n hx hb dX0_addInput_13 rfl (lv_at hl 0 rfl) ?_
  refine va_get (D := D) (ci := 0) (v := .ref a3) (C := RX0) (T := TX0) (N := 8) hx hb hts hiX0 hown hK hP 0 rfl rfl 4 (by decide) wf25 (fun _ h9 => h9) rfl dX0_addInput_14 ?_
  refine lv_aload_n hx hb dX0_addInput_17 rfl (lv_at hl 0 rfl) ?_
  refine va_get (D := D) (ci := 0) (v := .int (nI ic)) (C := RX0) (T := TX0) (N := 8) hx hb hts hiX0 hown hK hP 0 rfl rfl 7 (by decide) wf35 (fun _ h9 => h9) rfl dX0_addInput_18 ?_
  refine lv_aload_n hx hb dX0_addInput_21 rfl (lv_at hl 0 rfl) ?_
  refine va_get (D := D) (ci := 0) (v := .int (nI nc)) (C := RX0) (T := TX0) (N := 8) hx hb hts hiX0 hown hK hP 0 rfl rfl 6 (by decide) wf32 (fun _ h9 => h9) rfl dX0_addInput_22 ?_
  refine x_iast hx hb hK hP hD hS 3 0 rfl rfl (by omega) (by omega) dX0_addInput_25 (fun H locs hP hD hS => ?_)
  have hP : va_P D vwCl [(h, .inr (0, [.int (nI M1), .int (nI M2), .ref a1, .ref a2, .ref a3, .ref a4, .int (nI nc), .int (nI ic)])), (a1, .inl (cyI, (1 + M1 + M2), .inl lf)), (a2, .inl (cyI, (1 + M1 + M2), .inl of)), (a3, .inl (cyI, M1, .inl (upd nf ic (nI nc)))), (a4, .inl (cyJ, (1 + M1 + M2), .inr (.inl wf)))] H := hP
  have hD : va_D A [(h, .inr (0, [.int (nI M1), .int (nI M2), .ref a1, .ref a2, .ref a3, .ref a4, .int (nI nc), .int (nI ic)])), (a1, .inl (cyI, (1 + M1 + M2), .inl lf)), (a2, .inl (cyI, (1 + M1 + M2), .inl of)), (a3, .inl (cyI, M1, .inl (upd nf ic (nI nc)))), (a4, .inl (cyJ, (1 + M1 + M2), .inr (.inl wf)))] := hD
  refine lv_aload_n hx hb dX0_addInput_26 rfl (lv_at hl 0 rfl) ?_
  refine lv_dup hx hb dX0_addInput_27 rfl ?_
  refine va_get (D := D) (ci := 0) (v := .int (nI ic)) (C := RX0) (T := TX0) (N := 8) hx hb hts hiX0 hown hK hP 0 rfl rfl 7 (by decide) wf35 (fun _ h9 => h9) rfl dX0_addInput_28 ?_
  refine lv_iconst (v := nI 1) hx hb dX0_addInput_31 (by decide) ?_
  refine lv_iadd hx hb dX0_addInput_32 ?_
  refine x_top (nI_add _ _) ?_
  refine va_put (D := D) (ci := 0) (v := .int (nI (ic + 1))) (ty := .int) (C := RX0) (T := TX0) (N := 8) hx hb hts hiX0 tyX0 tyX0_ok nmX0 hown hK hP hD hS 0 rfl rfl 7 (by decide) wf35 (fun _ h9 => h9) rfl (by decide +kernel) rfl rfl (Nat.le_of_ble_eq_true rfl) dX0_addInput_33 (fun H locs hP hD hS => ?_)
  have hP : va_P D vwCl [(h, .inr (0, [.int (nI M1), .int (nI M2), .ref a1, .ref a2, .ref a3, .ref a4, .int (nI nc), .int (nI (ic + 1))])), (a1, .inl (cyI, (1 + M1 + M2), .inl lf)), (a2, .inl (cyI, (1 + M1 + M2), .inl of)), (a3, .inl (cyI, M1, .inl (upd nf ic (nI nc)))), (a4, .inl (cyJ, (1 + M1 + M2), .inr (.inl wf)))] H := hP
  have hD : va_D A [(h, .inr (0, [.int (nI M1), .int (nI M2), .ref a1, .ref a2, .ref a3, .ref a4, .int (nI nc), .int (nI (ic + 1))])), (a1, .inl (cyI, (1 + M1 + M2), .inl lf)), (a2, .inl (cyI, (1 + M1 + M2), .inl of)), (a3, .inl (cyI, M1, .inl (upd nf ic (nI nc)))), (a4, .inl (cyJ, (1 + M1 + M2), .inr (.inl wf)))] := hD
  refine lv_aload_n hx hb dX0_addInput_36 rfl (lv_at hl 0 rfl) ?_
  refine lv_iconst (v := (-1)) hx hb dX0_addInput_37 (by decide) ?_
  refine lv_iconst (v := (-1)) hx hb dX0_addInput_38 (by decide) ?_
  refine x_calli (wc := [(h, .inr (0, [.int (nI M1), .int (nI M2), .ref a1, .ref a2, .ref a3, .ref a4, .int (nI nc), .int (nI (ic + 1))])), (a1, .inl (cyI, (1 + M1 + M2), .inl lf)), (a2, .inl (cyI, (1 + M1 + M2), .inl of)), (a3, .inl (cyI, M1, .inl (upd nf ic (nI nc)))), (a4, .inl (cyJ, (1 + M1 + M2), .inr (.inl wf)))]) (wr := []) (w2 := fun (u : Unit) => [(h, .inr (0, [.int (nI M1), .int (nI M2), .ref a1, .ref a2, .ref a3, .ref a4, .int (nI (nc + 1)), .int (nI (ic + 1))])), (a1, .inl (cyI, (1 + M1 + M2), .inl (upd lf nc (-1)))), (a2, .inl (cyI, (1 + M1 + M2), .inl (upd of nc (-1)))), (a3, .inl (cyI, M1, .inl (upd nf ic (nI nc)))), (a4, .inl (cyJ, (1 + M1 + M2), .inr (.inl wf)))]) [0, 1, 2, 3, 4] [] [0, 1, 2, 3, 4] (va_runV (As := [.int (-1), .int (-1)]) (rest := []) ⟨hx, hb, hml, hown, hts⟩ (c_X0_addNode lch D cyI cyJ _ h a1 a2 a3 a4 M1 M2 lf of (upd nf ic (nI nc)) wf nc (ic + 1) (-1) (-1) (by first | assumption | omega) (by first | assumption | omega)) (cwV 2 hts gX0_addInput_X0_addNode rfl rfl rfl (by decide +kernel) ⟨Nat.le_of_ble_eq_true rfl, Nat.le_of_ble_eq_true rfl⟩) (x_preV hK hNN (hP.sub (ws' := [(h, .inr (0, [.int (nI M1), .int (nI M2), .ref a1, .ref a2, .ref a3, .ref a4, .int (nI nc), .int (nI (ic + 1))])), (a1, .inl (cyI, (1 + M1 + M2), .inl lf)), (a2, .inl (cyI, (1 + M1 + M2), .inl of)), (a3, .inl (cyI, M1, .inl (upd nf ic (nI nc)))), (a4, .inl (cyJ, (1 + M1 + M2), .inr (.inl wf)))]) [0, 1, 2, 3, 4] rfl) (hD.sub (ws' := [(h, .inr (0, [.int (nI M1), .int (nI M2), .ref a1, .ref a2, .ref a3, .ref a4, .int (nI nc), .int (nI (ic + 1))])), (a1, .inl (cyI, (1 + M1 + M2), .inl lf)), (a2, .inl (cyI, (1 + M1 + M2), .inl of)), (a3, .inl (cyI, M1, .inl (upd nf ic (nI nc)))), (a4, .inl (cyJ, (1 + M1 + M2), .inr (.inl wf)))]) [0, 1, 2, 3, 4] (by decide) rfl) rfl rfl (ci := 0) (q0 := 0) rfl rfl rfl) rfl rfl hl.1 rfl (lv_room (Nat.le_of_ble_eq_true rfl)) dX0_addInput_39 ⟨Nat.le_of_ble_eq_true rfl, Nat.le_of_ble_eq_true rfl⟩) rfl hP hD hS hA rfl rfl (by decide) (by decide) (fun _ => rfl) (by decide) (fun r39 u39 H locs hw39 hP hD hS hz39 => ?_)
  have hP : va_P D vwCl [(h, .inr (0, [.int (nI M1), .int (nI M2), .ref a1, .ref a2, .ref a3, .ref a4, .int (nI (nc + 1)), .int (nI (ic + 1))])), (a1, .inl (cyI, (1 + M1 + M2), .inl (upd lf nc (-1)))), (a2, .inl (cyI, (1 + M1 + M2), .inl (upd of nc (-1)))), (a3, .inl (cyI, M1, .inl (upd nf ic (nI nc)))), (a4, .inl (cyJ, (1 + M1 + M2), .inr (.inl wf)))] H := hP
  have hD : va_D A [(h, .inr (0, [.int (nI M1), .int (nI M2), .ref a1, .ref a2, .ref a3, .ref a4, .int (nI (nc + 1)), .int (nI (ic + 1))])), (a1, .inl (cyI, (1 + M1 + M2), .inl (upd lf nc (-1)))), (a2, .inl (cyI, (1 + M1 + M2), .inl (upd of nc (-1)))), (a3, .inl (cyI, M1, .inl (upd nf ic (nI nc)))), (a4, .inl (cyJ, (1 + M1 + M2), .inr (.inl wf)))] := hD
  have hw39 : r39 = nI (2 * nc) := hw39
  subst hw39
  refine W.widen (k := 0) (n := 0) (Nat.le_refl _) (Nat.le_refl _) ?_
  exact x_iret hQ hAe hx hb hr hlocks (rfl) hS hK (Nat.le_of_ble_eq_true rfl) (Nat.le_of_ble_eq_true rfl) dX0_addInput_42 () hP hD (rfl)
set_option maxHeartbeats 4000000 in
set_option maxRecDepth 100000 in
theorem c_X0_addInputF (lch : Launch) (D : va_G) (cyI cyJ : ClassId) (sz : Nat) (h : Nat) (a1 : Nat) (a2 : Nat) (a3 : Nat) (a4 : Nat) (M1 : Nat) (M2 : Nat) (lf : Nat → Int32) (of : Nat → Int32) (nf : Nat → Int32) (wf : Nat → Int64) (nc : Nat) (ic : Nat) (hi : ic = M1) (hMM : M1 + M2 < 10000) : Met lch yX0_addInput wsX0_addInput ({ frames := 1, cells := 0, slots := 0, locals := 23 } : Room) (va_Pc [.ref h] (xA D (xTy cyI cyJ) sz [(h, .inr (0, [.int (nI M1), .int (nI M2), .ref a1, .ref a2, .ref a3, .ref a4, .int (nI nc), .int (nI ic)])), (a1, .inl (cyI, (1 + M1 + M2), .inl lf)), (a2, .inl (cyI, (1 + M1 + M2), .inl of)), (a3, .inl (cyI, M1, .inl nf)), (a4, .inl (cyJ, (1 + M1 + M2), .inr (.inl wf)))])) (va_Qi (fun (r : Int32) (u : Unit) => r = (-1)) (fun (u : Unit) t => xB D (xTy cyI cyJ) sz [(h, .inr (0, [.int (nI M1), .int (nI M2), .ref a1, .ref a2, .ref a3, .ref a4, .int (nI nc), .int (nI ic)])), (a1, .inl (cyI, (1 + M1 + M2), .inl lf)), (a2, .inl (cyI, (1 + M1 + M2), .inl of)), (a3, .inl (cyI, M1, .inl nf)), (a4, .inl (cyJ, (1 + M1 + M2), .inr (.inl wf)))] [(h, .inr (0, [.int (nI M1), .int (nI M2), .ref a1, .ref a2, .ref a3, .ref a4, .int (nI nc), .int (nI ic)])), (a1, .inl (cyI, (1 + M1 + M2), .inl lf)), (a2, .inl (cyI, (1 + M1 + M2), .inl of)), (a3, .inl (cyI, M1, .inl nf)), (a4, .inl (cyJ, (1 + M1 + M2), .inr (.inl wf)))] t) (va_A [(h, .inr (0, [.int (nI M1), .int (nI M2), .ref a1, .ref a2, .ref a3, .ref a4, .int (nI nc), .int (nI ic)])), (a1, .inl (cyI, (1 + M1 + M2), .inl lf)), (a2, .inl (cyI, (1 + M1 + M2), .inl of)), (a3, .inl (cyI, M1, .inl nf)), (a4, .inl (cyJ, (1 + M1 + M2), .inr (.inl wf)))] sz)) 0 0 (va_A [(h, .inr (0, [.int (nI M1), .int (nI M2), .ref a1, .ref a2, .ref a3, .ref a4, .int (nI nc), .int (nI ic)])), (a1, .inl (cyI, (1 + M1 + M2), .inl lf)), (a2, .inl (cyI, (1 + M1 + M2), .inl of)), (a3, .inl (cyI, M1, .inl nf)), (a4, .inl (cyJ, (1 + M1 + M2), .inr (.inl wf)))] sz) := by
  refine x_met RX0 (by decide) rfl rfl (Nat.le_of_ble_eq_true rfl) ?_
  intro p e s m below meth c A Q hAe hQ hx hb hr hlocks hml hnm hts hown hNN hK hsz hP hD hS hA ls hl
  have wf35 := hts (.fieldLink RX0 35 "NetTwin$Net" "inputCount" "I") (by decide +kernel)
  have hiX0 : ∀ w ∈ u_ws RX0 TX0 8, w ∈ wsX0_addInput := by decide +kernel
  have wf9 := hts (.fieldLink RX0 9 "NetTwin$Net" "mostInputs" "I") (by decide +kernel)
  have hP : va_P D vwCl [(h, .inr (0, [.int (nI M1), .int (nI M2), .ref a1, .ref a2, .ref a3, .ref a4, .int (nI nc), .int (nI ic)])), (a1, .inl (cyI, (1 + M1 + M2), .inl lf)), (a2, .inl (cyI, (1 + M1 + M2), .inl of)), (a3, .inl (cyI, M1, .inl nf)), (a4, .inl (cyJ, (1 + M1 + M2), .inr (.inl wf)))] s.heap := hP
  have hD : va_D A [(h, .inr (0, [.int (nI M1), .int (nI M2), .ref a1, .ref a2, .ref a3, .ref a4, .int (nI nc), .int (nI ic)])), (a1, .inl (cyI, (1 + M1 + M2), .inl lf)), (a2, .inl (cyI, (1 + M1 + M2), .inl of)), (a3, .inl (cyI, M1, .inl nf)), (a4, .inl (cyJ, (1 + M1 + M2), .inr (.inl wf)))] := hD
  have hl : lv_has ls 1 [(0, .ref h)] := hl
  refine lv_aload_n hx hb dX0_addInput_0 rfl (lv_at hl 0 rfl) ?_
  refine va_get (D := D) (ci := 0) (v := .int (nI ic)) (C := RX0) (T := TX0) (N := 8) hx hb hts hiX0 hown hK hP 0 rfl rfl 7 (by decide) wf35 (fun _ h9 => h9) rfl dX0_addInput_1 ?_
  refine lv_aload_n hx hb dX0_addInput_4 rfl (lv_at hl 0 rfl) ?_
  refine va_get (D := D) (ci := 0) (v := .int (nI M1)) (C := RX0) (T := TX0) (N := 8) hx hb hts hiX0 hown hK hP 0 rfl rfl 0 (by decide) wf9 (fun _ h9 => h9) rfl dX0_addInput_5 ?_
  refine lv_icmp_lt (tgt := 13) hx hb dX0_addInput_8 (by decide) (fun c8 => absurd c8 (mt (nI_ltI (by omega) (by omega)).mp (by omega))) (fun c8 => ?_)
  refine lv_iconst (v := (-1)) hx hb dX0_addInput_11 (by decide) ?_
  exact x_iret hQ hAe hx hb hr hlocks (rfl) hS hK (Nat.le_of_ble_eq_true rfl) (Nat.le_of_ble_eq_true rfl) dX0_addInput_12 () hP hD (rfl)
set_option maxHeartbeats 4000000 in
set_option maxRecDepth 100000 in
theorem c_X0_gateOf (lch : Launch) (D : va_G) (cyI cyJ : ClassId) (sz : Nat) (h : Nat) (a1 : Nat) (a2 : Nat) (a3 : Nat) (a4 : Nat) (M1 : Nat) (M2 : Nat) (lf : Nat → Int32) (of : Nat → Int32) (nf : Nat → Int32) (wf : Nat → Int64) (ic : Nat) (l : NT) (a : Nat) (b : Nat) (hok : nOK l) (hrp : rpN l lf of) (hg : nGates l + 1 + ic = l.length) (hgM : nGates l ≤ M2) (hic : ic ≤ M1) (hMM : M1 + M2 < 10000) (ha : 2 ≤ a) (hab : a < b) (hb2 : b < 2 * l.length) : Met lch yX0_gateOf wsX0_gateOf ({ frames := 1, cells := 0, slots := 0, locals := 23 } : Room) (va_Pc [.ref h, .int (nI a), .int (nI b)] (xA D (xTy cyI cyJ) sz [(h, .inr (0, [.int (nI M1), .int (nI M2), .ref a1, .ref a2, .ref a3, .ref a4, .int (nI l.length), .int (nI ic)])), (a1, .inl (cyI, (1 + M1 + M2), .inl lf)), (a2, .inl (cyI, (1 + M1 + M2), .inl of)), (a3, .inl (cyI, M1, .inl nf)), (a4, .inl (cyJ, (1 + M1 + M2), .inr (.inl wf)))])) (va_Qi (fun (r : Int32) (u : (Nat → Int32) × (Nat → Int32)) => r = eO (nGate M2 l a b).1 ∧ rpN (nGate M2 l a b).2 u.1 u.2) (fun (u : (Nat → Int32) × (Nat → Int32)) t => xB D (xTy cyI cyJ) sz [(h, .inr (0, [.int (nI M1), .int (nI M2), .ref a1, .ref a2, .ref a3, .ref a4, .int (nI l.length), .int (nI ic)])), (a1, .inl (cyI, (1 + M1 + M2), .inl lf)), (a2, .inl (cyI, (1 + M1 + M2), .inl of)), (a3, .inl (cyI, M1, .inl nf)), (a4, .inl (cyJ, (1 + M1 + M2), .inr (.inl wf)))] [(h, .inr (0, [.int (nI M1), .int (nI M2), .ref a1, .ref a2, .ref a3, .ref a4, .int (nI ((nGate M2 l a b).2.length)), .int (nI ic)])), (a1, .inl (cyI, (1 + M1 + M2), .inl u.1)), (a2, .inl (cyI, (1 + M1 + M2), .inl u.2)), (a3, .inl (cyI, M1, .inl nf)), (a4, .inl (cyJ, (1 + M1 + M2), .inr (.inl wf)))] t) (va_A [(h, .inr (0, [.int (nI M1), .int (nI M2), .ref a1, .ref a2, .ref a3, .ref a4, .int (nI l.length), .int (nI ic)])), (a1, .inl (cyI, (1 + M1 + M2), .inl lf)), (a2, .inl (cyI, (1 + M1 + M2), .inl of)), (a3, .inl (cyI, M1, .inl nf)), (a4, .inl (cyJ, (1 + M1 + M2), .inr (.inl wf)))] sz)) 0 0 (va_A [(h, .inr (0, [.int (nI M1), .int (nI M2), .ref a1, .ref a2, .ref a3, .ref a4, .int (nI l.length), .int (nI ic)])), (a1, .inl (cyI, (1 + M1 + M2), .inl lf)), (a2, .inl (cyI, (1 + M1 + M2), .inl of)), (a3, .inl (cyI, M1, .inl nf)), (a4, .inl (cyJ, (1 + M1 + M2), .inr (.inl wf)))] sz) := by
  refine x_met RX0 (by decide) rfl rfl (Nat.le_of_ble_eq_true rfl) ?_
  intro p e s m below meth c A Q hAe hQ hx hb hr hlocks hml hnm hts hown hNN hK hsz hP hD hS hA ls hl
  have wf32 := hts (.fieldLink RX0 32 "NetTwin$Net" "nodeCount" "I") (by decide +kernel)
  have hiX0 : ∀ w ∈ u_ws RX0 TX0 8, w ∈ wsX0_gateOf := by decide +kernel
  have wf35 := hts (.fieldLink RX0 35 "NetTwin$Net" "inputCount" "I") (by decide +kernel)
  have wf15 := hts (.fieldLink RX0 15 "NetTwin$Net" "mostGates" "I") (by decide +kernel)
  have wf18 := hts (.fieldLink RX0 18 "NetTwin$Net" "lesser" "[I") (by decide +kernel)
  have wf22 := hts (.fieldLink RX0 22 "NetTwin$Net" "other" "[I") (by decide +kernel)
  have hP : va_P D vwCl [(h, .inr (0, [.int (nI M1), .int (nI M2), .ref a1, .ref a2, .ref a3, .ref a4, .int (nI l.length), .int (nI ic)])), (a1, .inl (cyI, (1 + M1 + M2), .inl lf)), (a2, .inl (cyI, (1 + M1 + M2), .inl of)), (a3, .inl (cyI, M1, .inl nf)), (a4, .inl (cyJ, (1 + M1 + M2), .inr (.inl wf)))] s.heap := hP
  have hD : va_D A [(h, .inr (0, [.int (nI M1), .int (nI M2), .ref a1, .ref a2, .ref a3, .ref a4, .int (nI l.length), .int (nI ic)])), (a1, .inl (cyI, (1 + M1 + M2), .inl lf)), (a2, .inl (cyI, (1 + M1 + M2), .inl of)), (a3, .inl (cyI, M1, .inl nf)), (a4, .inl (cyJ, (1 + M1 + M2), .inr (.inl wf)))] := hD
  have hl : lv_has ls 4 [(0, .ref h), (1, .int (nI a)), (2, .int (nI b))] := hl
  refine lv_iload_n hx hb dX0_gateOf_0 rfl (lv_at hl 2 rfl) ?_
  refine lv_iconst (v := nI 1) hx hb dX0_gateOf_1 (by decide) ?_
  refine lv_ishr hx hb dX0_gateOf_2 ?_
  refine x_top (n_shr1 (by omega)) ?_
  refine lv_iconst (v := nI 1) hx hb dX0_gateOf_3 (by decide) ?_
  refine lv_iadd hx hb dX0_gateOf_4 ?_
  refine x_top (nI_add _ _) ?_
  refine lv_istore_n (lv' := [(3, .int (nI (b / 2 + 1))), (0, .ref h), (1, .int (nI a)), (2, .int (nI b))]) hx hb dX0_gateOf_5 rfl hl (by decide) rfl (fun ls hl => ?_)
  have lp6 : ∀ n : Nat, ∀ (k : Nat) (hk0 : b / 2 + 1 ≤ k) (hk1 : k ≤ l.length) (hno : ∀ j, j < k → ¬ nAt l j = some (a, b)) (hme : l.length - k < n) (H : Heap) (locs : List Loc) (ls : Array Slot), va_P D vwCl [(h, .inr (0, [.int (nI M1), .int (nI M2), .ref a1, .ref a2, .ref a3, .ref a4, .int (nI l.length), .int (nI ic)])), (a1, .inl (cyI, (1 + M1 + M2), .inl lf)), (a2, .inl (cyI, (1 + M1 + M2), .inl of)), (a3, .inl (cyI, M1, .inl nf)), (a4, .inl (cyJ, (1 + M1 + M2), .inr (.inl wf)))] H → va_D A [(h, .inr (0, [.int (nI M1), .int (nI M2), .ref a1, .ref a2, .ref a3, .ref a4, .int (nI l.length), .int (nI ic)])), (a1, .inl (cyI, (1 + M1 + M2), .inl lf)), (a2, .inl (cyI, (1 + M1 + M2), .inl of)), (a3, .inl (cyI, M1, .inl nf)), (a4, .inl (cyJ, (1 + M1 + M2), .inr (.inl wf)))] → va_S A s.heap H locs → lv_has ls 4 [(3, .int (nI k)), (0, .ref h), (1, .int (nI a)), (2, .int (nI b))] → W p lch e ({ frames := 1, cells := 0, slots := 0, locals := 23 } : Room) s m ([.ref h, .int (nI a), .int (nI b)] : List Value).toArray below meth c H locs 0 0 Q (F0 m 6 ls []) := by
    intro n
    induction n with
    | zero => intro k hk0 hk1 hno hme H locs ls hP hD hS hl; exact absurd hme (Nat.not_lt_zero _)
    | succ n ih =>
      intro k hk0 hk1 hno hme H locs ls hP hD hS hl
      refine lv_iload_n hx hb dX0_gateOf_6 rfl (lv_at hl 0 rfl) ?_
      refine lv_aload_n hx hb dX0_gateOf_7 rfl (lv_at hl 1 rfl) ?_
      refine va_get (D := D) (ci := 0) (v := .int (nI l.length)) (C := RX0) (T := TX0) (N := 8) hx hb hts hiX0 hown hK hP 0 rfl rfl 6 (by decide) wf32 (fun _ h9 => h9) rfl dX0_gateOf_8 ?_
      refine lv_icmp_ge (tgt := 44) hx hb dX0_gateOf_11 (by decide) (fun c11 => ?_) (fun c11 => ?_)
      · have c11 := (nI_leI (by omega) (by omega)).mp c11
        refine lv_aload_n hx hb dX0_gateOf_44 rfl (lv_at hl 1 rfl) ?_
        refine va_get (D := D) (ci := 0) (v := .int (nI l.length)) (C := RX0) (T := TX0) (N := 8) hx hb hts hiX0 hown hK hP 0 rfl rfl 6 (by decide) wf32 (fun _ h9 => h9) rfl dX0_gateOf_45 ?_
        refine lv_iconst (v := nI 1) hx hb dX0_gateOf_48 (by decide) ?_
        refine lv_isub hx hb dX0_gateOf_49 ?_
        refine x_top (pk_sub (by omega)) ?_
        refine lv_aload_n hx hb dX0_gateOf_50 rfl (lv_at hl 1 rfl) ?_
        refine va_get (D := D) (ci := 0) (v := .int (nI ic)) (C := RX0) (T := TX0) (N := 8) hx hb hts hiX0 hown hK hP 0 rfl rfl 7 (by decide) wf35 (fun _ h9 => h9) rfl dX0_gateOf_51 ?_
        refine lv_isub hx hb dX0_gateOf_54 ?_
        refine x_top (pk_sub (by omega)) ?_
        refine lv_istore_n (lv' := [(3, .int (nI (l.length - 1 - ic))), (0, .ref h), (1, .int (nI a)), (2, .int (nI b))]) hx hb dX0_gateOf_55 rfl hl (by decide) rfl (fun ls hl => ?_)
        refine lv_iload_n hx hb dX0_gateOf_56 rfl (lv_at hl 0 rfl) ?_
        refine lv_aload_n hx hb dX0_gateOf_57 rfl (lv_at hl 1 rfl) ?_
        refine va_get (D := D) (ci := 0) (v := .int (nI M2)) (C := RX0) (T := TX0) (N := 8) hx hb hts hiX0 hown hK hP 0 rfl rfl 1 (by decide) wf15 (fun _ h9 => h9) rfl dX0_gateOf_58 ?_
        refine lv_icmp_lt (tgt := 68) hx hb dX0_gateOf_61 (by decide) (fun c61 => ?_) (fun c61 => ?_)
        · have c61 := (nI_ltI (by omega) (by omega)).mp c61
          refine lv_aload_n hx hb dX0_gateOf_68 rfl (lv_at hl 1 rfl) ?_
          refine lv_iload_n hx hb dX0_gateOf_69 rfl (lv_at hl 2 rfl) ?_
          refine lv_iload_n hx hb dX0_gateOf_70 rfl (lv_at hl 3 rfl) ?_
          refine x_calli (wc := [(h, .inr (0, [.int (nI M1), .int (nI M2), .ref a1, .ref a2, .ref a3, .ref a4, .int (nI l.length), .int (nI ic)])), (a1, .inl (cyI, (1 + M1 + M2), .inl lf)), (a2, .inl (cyI, (1 + M1 + M2), .inl of)), (a3, .inl (cyI, M1, .inl nf)), (a4, .inl (cyJ, (1 + M1 + M2), .inr (.inl wf)))]) (wr := []) (w2 := fun (u : Unit) => [(h, .inr (0, [.int (nI M1), .int (nI M2), .ref a1, .ref a2, .ref a3, .ref a4, .int (nI (l.length + 1)), .int (nI ic)])), (a1, .inl (cyI, (1 + M1 + M2), .inl (upd lf l.length (nI a)))), (a2, .inl (cyI, (1 + M1 + M2), .inl (upd of l.length (nI b)))), (a3, .inl (cyI, M1, .inl nf)), (a4, .inl (cyJ, (1 + M1 + M2), .inr (.inl wf)))]) [0, 1, 2, 3, 4] [] [0, 1, 2, 3, 4] (va_runV (As := [.int (nI a), .int (nI b)]) (rest := []) ⟨hx, hb, hml, hown, hts⟩ (c_X0_addNode lch D cyI cyJ _ h a1 a2 a3 a4 M1 M2 lf of nf wf l.length ic (nI a) (nI b) (by first | assumption | omega) (by first | assumption | omega)) (cwV 2 hts gX0_gateOf_X0_addNode rfl rfl rfl (by decide +kernel) ⟨Nat.le_of_ble_eq_true rfl, Nat.le_of_ble_eq_true rfl⟩) (x_preV hK hNN (hP.sub (ws' := [(h, .inr (0, [.int (nI M1), .int (nI M2), .ref a1, .ref a2, .ref a3, .ref a4, .int (nI l.length), .int (nI ic)])), (a1, .inl (cyI, (1 + M1 + M2), .inl lf)), (a2, .inl (cyI, (1 + M1 + M2), .inl of)), (a3, .inl (cyI, M1, .inl nf)), (a4, .inl (cyJ, (1 + M1 + M2), .inr (.inl wf)))]) [0, 1, 2, 3, 4] rfl) (hD.sub (ws' := [(h, .inr (0, [.int (nI M1), .int (nI M2), .ref a1, .ref a2, .ref a3, .ref a4, .int (nI l.length), .int (nI ic)])), (a1, .inl (cyI, (1 + M1 + M2), .inl lf)), (a2, .inl (cyI, (1 + M1 + M2), .inl of)), (a3, .inl (cyI, M1, .inl nf)), (a4, .inl (cyJ, (1 + M1 + M2), .inr (.inl wf)))]) [0, 1, 2, 3, 4] (by decide) rfl) rfl rfl (ci := 0) (q0 := 0) rfl rfl rfl) rfl rfl hl.1 rfl (lv_room (Nat.le_of_ble_eq_true rfl)) dX0_gateOf_71 ⟨Nat.le_of_ble_eq_true rfl, Nat.le_of_ble_eq_true rfl⟩) rfl hP hD hS hA rfl rfl (by decide) (by decide) (fun _ => rfl) (by decide) (fun r71 u71 H locs hw71 hP hD hS hz71 => ?_)
          have hP : va_P D vwCl [(h, .inr (0, [.int (nI M1), .int (nI M2), .ref a1, .ref a2, .ref a3, .ref a4, .int (nI (l.length + 1)), .int (nI ic)])), (a1, .inl (cyI, (1 + M1 + M2), .inl (upd lf l.length (nI a)))), (a2, .inl (cyI, (1 + M1 + M2), .inl (upd of l.length (nI b)))), (a3, .inl (cyI, M1, .inl nf)), (a4, .inl (cyJ, (1 + M1 + M2), .inr (.inl wf)))] H := hP
          have hD : va_D A [(h, .inr (0, [.int (nI M1), .int (nI M2), .ref a1, .ref a2, .ref a3, .ref a4, .int (nI (l.length + 1)), .int (nI ic)])), (a1, .inl (cyI, (1 + M1 + M2), .inl (upd lf l.length (nI a)))), (a2, .inl (cyI, (1 + M1 + M2), .inl (upd of l.length (nI b)))), (a3, .inl (cyI, M1, .inl nf)), (a4, .inl (cyJ, (1 + M1 + M2), .inr (.inl wf)))] := hD
          have hw71 : r71 = nI (2 * l.length) := hw71
          subst hw71
          refine W.widen (k := 0) (n := 0) (Nat.le_refl _) (Nat.le_refl _) ?_
          rw [nGate_n (nFind_none (fun j hj => hno j (by omega))) (by omega)] at hQ
          have e2 : l.length + 1 = (l ++ [some (a, b)]).length := by simp
          rw [e2] at hP hD
          exact x_iret hQ hAe hx hb hr hlocks (rfl) hS hK (Nat.le_of_ble_eq_true rfl) (Nat.le_of_ble_eq_true rfl) dX0_gateOf_74 (upd lf l.length (nI a), upd of l.length (nI b)) hP hD (⟨rfl, rpN_snoc hrp (some (a, b))⟩)
        · have c61 := mt (nI_ltI (by omega) (by omega)).mpr c61
          refine lv_iconst (v := (-1)) hx hb dX0_gateOf_64 (by decide) ?_
          refine lv_goto (tgt := 74) hx hb dX0_gateOf_65 (by decide) ?_
          rw [nGate_o (nFind_none (fun j hj => hno j (by omega))) (by omega)] at hQ
          exact x_iret hQ hAe hx hb hr hlocks (rfl) hS hK (Nat.le_of_ble_eq_true rfl) (Nat.le_of_ble_eq_true rfl) dX0_gateOf_74 (lf, of) hP hD (⟨rfl, hrp⟩)
      · have c11 := mt (nI_leI (by omega) (by omega)).mpr c11
        refine lv_aload_n hx hb dX0_gateOf_14 rfl (lv_at hl 1 rfl) ?_
        refine va_get (D := D) (ci := 0) (v := .ref a1) (C := RX0) (T := TX0) (N := 8) hx hb hts hiX0 hown hK hP 0 rfl rfl 2 (by decide) wf18 (fun _ h9 => h9) rfl dX0_gateOf_15 ?_
        refine lv_iload_n hx hb dX0_gateOf_18 rfl (lv_at hl 0 rfl) ?_
        refine x_iald hx hb hK hP 1 0 rfl rfl (by omega) (by omega) dX0_gateOf_19 ?_
        refine x_top (show lf k = gL (nAt l k) from (hrp k (by omega)).1) ?_
        refine lv_iload_n hx hb dX0_gateOf_20 rfl (lv_at hl 2 rfl) ?_
        refine lv_icmp_ne (tgt := 38) hx hb dX0_gateOf_21 (by decide) (fun c21 => ?_) (fun c21 => ?_)
        · refine lv_iinc (v := nI (k + 1)) (lv' := [(3, .int (nI (k + 1))), (0, .ref h), (1, .int (nI a)), (2, .int (nI b))]) hx hb dX0_gateOf_38 hl (k := 0) rfl (n_inc _) (by decide) rfl (fun ls hl => ?_)
          refine lv_goto (tgt := 6) hx hb dX0_gateOf_41 (by decide) ?_
          have hno2 : ∀ j, j < k + 1 → ¬ nAt l j = some (a, b) := by
            intro j hj hz
            by_cases hjk : j = k
            · subst hjk
              first | exact c21 (by rw [hz]; rfl) | exact c31 (by rw [hz]; rfl)
            · exact hno j (by omega) hz
          exact ih (k + 1) (by omega) (by omega) hno2 (by omega) _ _ _ hP hD hS (lv_sub hl [0, 1, 2, 3] rfl)
        · refine lv_aload_n hx hb dX0_gateOf_24 rfl (lv_at hl 1 rfl) ?_
          refine va_get (D := D) (ci := 0) (v := .ref a2) (C := RX0) (T := TX0) (N := 8) hx hb hts hiX0 hown hK hP 0 rfl rfl 3 (by decide) wf22 (fun _ h9 => h9) rfl dX0_gateOf_25 ?_
          refine lv_iload_n hx hb dX0_gateOf_28 rfl (lv_at hl 0 rfl) ?_
          refine x_iald hx hb hK hP 2 0 rfl rfl (by omega) (by omega) dX0_gateOf_29 ?_
          refine x_top (show of k = gR (nAt l k) from (hrp k (by omega)).2) ?_
          refine lv_iload_n hx hb dX0_gateOf_30 rfl (lv_at hl 3 rfl) ?_
          refine lv_icmp_ne (tgt := 38) hx hb dX0_gateOf_31 (by decide) (fun c31 => ?_) (fun c31 => ?_)
          · refine lv_iinc (v := nI (k + 1)) (lv' := [(3, .int (nI (k + 1))), (0, .ref h), (1, .int (nI a)), (2, .int (nI b))]) hx hb dX0_gateOf_38 hl (k := 0) rfl (n_inc _) (by decide) rfl (fun ls hl => ?_)
            refine lv_goto (tgt := 6) hx hb dX0_gateOf_41 (by decide) ?_
            have hno2 : ∀ j, j < k + 1 → ¬ nAt l j = some (a, b) := by
              intro j hj hz
              by_cases hjk : j = k
              · subst hjk
                first | exact c21 (by rw [hz]; rfl) | exact c31 (by rw [hz]; rfl)
              · exact hno j (by omega) hz
            exact ih (k + 1) (by omega) (by omega) hno2 (by omega) _ _ _ hP hD hS (lv_sub hl [0, 1, 2, 3] rfl)
          · refine lv_iconst (v := nI 2) hx hb dX0_gateOf_34 (by decide) ?_
            refine lv_iload_n hx hb dX0_gateOf_35 rfl (lv_at hl 0 rfl) ?_
            refine lv_imul hx hb dX0_gateOf_36 ?_
            refine x_top (pk_mul _ _) ?_
            rw [nGate_f (nFind_some (g_is hok (by omega) (by omega) (by omega) c21 c31) hno)] at hQ
            exact x_iret hQ hAe hx hb hr hlocks (rfl) hS hK (Nat.le_of_ble_eq_true rfl) (Nat.le_of_ble_eq_true rfl) dX0_gateOf_37 (lf, of) hP hD (⟨rfl, hrp⟩)
  exact lp6 _ (b / 2 + 1) (by omega) (by omega) (fun j hj hz => by have := (hok.2.2 j a b hz).2.2; omega) (Nat.lt_succ_self _) _ _ _ hP hD hS (lv_sub hl [0, 1, 2, 3] rfl)
set_option maxHeartbeats 4000000 in
set_option maxRecDepth 100000 in
theorem c_X0_both (lch : Launch) (D : va_G) (cyI cyJ : ClassId) (sz : Nat) (h : Nat) (a1 : Nat) (a2 : Nat) (a3 : Nat) (a4 : Nat) (M1 : Nat) (M2 : Nat) (lf : Nat → Int32) (of : Nat → Int32) (nf : Nat → Int32) (wf : Nat → Int64) (ic : Nat) (l : NT) (x : Int32) (y : Int32) (hok : nOK l) (hrp : rpN l lf of) (hg : nGates l + 1 + ic = l.length) (hgM : nGates l ≤ M2) (hic : ic ≤ M1) (hMM : M1 + M2 < 10000) : Met lch yX0_both wsX0_both ({ frames := 2, cells := 0, slots := 0, locals := 46 } : Room) (va_Pc [.ref h, .int x, .int y] (xA D (xTy cyI cyJ) sz [(h, .inr (0, [.int (nI M1), .int (nI M2), .ref a1, .ref a2, .ref a3, .ref a4, .int (nI l.length), .int (nI ic)])), (a1, .inl (cyI, (1 + M1 + M2), .inl lf)), (a2, .inl (cyI, (1 + M1 + M2), .inl of)), (a3, .inl (cyI, M1, .inl nf)), (a4, .inl (cyJ, (1 + M1 + M2), .inr (.inl wf)))])) (va_Qi (fun (r : Int32) (u : (Nat → Int32) × (Nat → Int32)) => r = eO (nAnd M2 l (dO l.length x) (dO l.length y)).1 ∧ rpN (nAnd M2 l (dO l.length x) (dO l.length y)).2 u.1 u.2) (fun (u : (Nat → Int32) × (Nat → Int32)) t => xB D (xTy cyI cyJ) sz [(h, .inr (0, [.int (nI M1), .int (nI M2), .ref a1, .ref a2, .ref a3, .ref a4, .int (nI l.length), .int (nI ic)])), (a1, .inl (cyI, (1 + M1 + M2), .inl lf)), (a2, .inl (cyI, (1 + M1 + M2), .inl of)), (a3, .inl (cyI, M1, .inl nf)), (a4, .inl (cyJ, (1 + M1 + M2), .inr (.inl wf)))] [(h, .inr (0, [.int (nI M1), .int (nI M2), .ref a1, .ref a2, .ref a3, .ref a4, .int (nI ((nAnd M2 l (dO l.length x) (dO l.length y)).2.length)), .int (nI ic)])), (a1, .inl (cyI, (1 + M1 + M2), .inl u.1)), (a2, .inl (cyI, (1 + M1 + M2), .inl u.2)), (a3, .inl (cyI, M1, .inl nf)), (a4, .inl (cyJ, (1 + M1 + M2), .inr (.inl wf)))] t) (va_A [(h, .inr (0, [.int (nI M1), .int (nI M2), .ref a1, .ref a2, .ref a3, .ref a4, .int (nI l.length), .int (nI ic)])), (a1, .inl (cyI, (1 + M1 + M2), .inl lf)), (a2, .inl (cyI, (1 + M1 + M2), .inl of)), (a3, .inl (cyI, M1, .inl nf)), (a4, .inl (cyJ, (1 + M1 + M2), .inr (.inl wf)))] sz)) 0 0 (va_A [(h, .inr (0, [.int (nI M1), .int (nI M2), .ref a1, .ref a2, .ref a3, .ref a4, .int (nI l.length), .int (nI ic)])), (a1, .inl (cyI, (1 + M1 + M2), .inl lf)), (a2, .inl (cyI, (1 + M1 + M2), .inl of)), (a3, .inl (cyI, M1, .inl nf)), (a4, .inl (cyJ, (1 + M1 + M2), .inr (.inl wf)))] sz) := by
  refine x_met RX0 (by decide) rfl rfl (Nat.le_of_ble_eq_true rfl) ?_
  intro p e s m below meth c A Q hAe hQ hx hb hr hlocks hml hnm hts hown hNN hK hsz hP hD hS hA ls hl
  have wzX1 := hts (.initialized RX1) (by decide +kernel)
  have ws_yX1_not := hts (.static yX1_not) (by decide +kernel)
  have hP : va_P D vwCl [(h, .inr (0, [.int (nI M1), .int (nI M2), .ref a1, .ref a2, .ref a3, .ref a4, .int (nI l.length), .int (nI ic)])), (a1, .inl (cyI, (1 + M1 + M2), .inl lf)), (a2, .inl (cyI, (1 + M1 + M2), .inl of)), (a3, .inl (cyI, M1, .inl nf)), (a4, .inl (cyJ, (1 + M1 + M2), .inr (.inl wf)))] s.heap := hP
  have hD : va_D A [(h, .inr (0, [.int (nI M1), .int (nI M2), .ref a1, .ref a2, .ref a3, .ref a4, .int (nI l.length), .int (nI ic)])), (a1, .inl (cyI, (1 + M1 + M2), .inl lf)), (a2, .inl (cyI, (1 + M1 + M2), .inl of)), (a3, .inl (cyI, M1, .inl nf)), (a4, .inl (cyJ, (1 + M1 + M2), .inr (.inl wf)))] := hD
  have hl : lv_has ls 3 [(0, .ref h), (1, .int x), (2, .int y)] := hl
  refine lv_aload_n hx hb dX0_both_0 rfl (lv_at hl 0 rfl) ?_
  refine lv_iload_n hx hb dX0_both_1 rfl (lv_at hl 1 rfl) ?_
  refine x_calli (wc := [(h, .inr (0, [.int (nI M1), .int (nI M2), .ref a1, .ref a2, .ref a3, .ref a4, .int (nI l.length), .int (nI ic)])), (a1, .inl (cyI, (1 + M1 + M2), .inl lf)), (a2, .inl (cyI, (1 + M1 + M2), .inl of)), (a3, .inl (cyI, M1, .inl nf)), (a4, .inl (cyJ, (1 + M1 + M2), .inr (.inl wf)))]) (wr := []) (w2 := fun (u : Unit) => [(h, .inr (0, [.int (nI M1), .int (nI M2), .ref a1, .ref a2, .ref a3, .ref a4, .int (nI l.length), .int (nI ic)])), (a1, .inl (cyI, (1 + M1 + M2), .inl lf)), (a2, .inl (cyI, (1 + M1 + M2), .inl of)), (a3, .inl (cyI, M1, .inl nf)), (a4, .inl (cyJ, (1 + M1 + M2), .inr (.inl wf)))]) [0, 1, 2, 3, 4] [] [0, 1, 2, 3, 4] (va_runV (As := [.int x]) (rest := []) ⟨hx, hb, hml, hown, hts⟩ (c_X0_holds lch D cyI cyJ _ h a1 a2 a3 a4 M1 M2 lf of nf wf l.length ic x (by first | assumption | omega)) (cwV 1 hts gX0_both_X0_holds rfl rfl rfl (by decide +kernel) ⟨Nat.le_of_ble_eq_true rfl, Nat.le_of_ble_eq_true rfl⟩) (x_preV hK hNN (hP.sub (ws' := [(h, .inr (0, [.int (nI M1), .int (nI M2), .ref a1, .ref a2, .ref a3, .ref a4, .int (nI l.length), .int (nI ic)])), (a1, .inl (cyI, (1 + M1 + M2), .inl lf)), (a2, .inl (cyI, (1 + M1 + M2), .inl of)), (a3, .inl (cyI, M1, .inl nf)), (a4, .inl (cyJ, (1 + M1 + M2), .inr (.inl wf)))]) [0, 1, 2, 3, 4] rfl) (hD.sub (ws' := [(h, .inr (0, [.int (nI M1), .int (nI M2), .ref a1, .ref a2, .ref a3, .ref a4, .int (nI l.length), .int (nI ic)])), (a1, .inl (cyI, (1 + M1 + M2), .inl lf)), (a2, .inl (cyI, (1 + M1 + M2), .inl of)), (a3, .inl (cyI, M1, .inl nf)), (a4, .inl (cyJ, (1 + M1 + M2), .inr (.inl wf)))]) [0, 1, 2, 3, 4] (by decide) rfl) rfl rfl (ci := 0) (q0 := 0) rfl rfl rfl) rfl rfl hl.1 rfl (lv_room (Nat.le_of_ble_eq_true rfl)) dX0_both_2 ⟨Nat.le_of_ble_eq_true rfl, Nat.le_of_ble_eq_true rfl⟩) rfl hP hD hS hA rfl rfl (by decide) (by decide) (fun _ => rfl) (by decide) (fun r2 u2 H locs hw2 hP hD hS hz2 => ?_)
  have hP : va_P D vwCl [(h, .inr (0, [.int (nI M1), .int (nI M2), .ref a1, .ref a2, .ref a3, .ref a4, .int (nI l.length), .int (nI ic)])), (a1, .inl (cyI, (1 + M1 + M2), .inl lf)), (a2, .inl (cyI, (1 + M1 + M2), .inl of)), (a3, .inl (cyI, M1, .inl nf)), (a4, .inl (cyJ, (1 + M1 + M2), .inr (.inl wf)))] H := hP
  have hD : va_D A [(h, .inr (0, [.int (nI M1), .int (nI M2), .ref a1, .ref a2, .ref a3, .ref a4, .int (nI l.length), .int (nI ic)])), (a1, .inl (cyI, (1 + M1 + M2), .inl lf)), (a2, .inl (cyI, (1 + M1 + M2), .inl of)), (a3, .inl (cyI, M1, .inl nf)), (a4, .inl (cyJ, (1 + M1 + M2), .inr (.inl wf)))] := hD
  have hw2 : r2 = bI (0 ≤ x ∧ x < nI (2 * l.length)) := hw2
  subst hw2
  refine W.widen (k := 0) (n := 0) (Nat.le_refl _) (Nat.le_refl _) ?_
  refine lv_if_eq (tgt := 16) hx hb dX0_both_5 (by decide) (fun c5 => ?_) (fun c5 => ?_)
  · have c5 := bI_0.mp c5
    refine lv_iconst (v := (-1)) hx hb dX0_both_16 (by decide) ?_
    rw [dO_no c5, nAnd_l] at hQ
    exact x_iret hQ hAe hx hb hr hlocks (rfl) hS hK (Nat.le_of_ble_eq_true rfl) (Nat.le_of_ble_eq_true rfl) dX0_both_17 (lf, of) hP hD (⟨rfl, hrp⟩)
  · have c5 := Decidable.not_not.mp (mt bI_0.mpr c5)
    refine lv_aload_n hx hb dX0_both_8 rfl (lv_at hl 0 rfl) ?_
    refine lv_iload_n hx hb dX0_both_9 rfl (lv_at hl 2 rfl) ?_
    refine x_calli (wc := [(h, .inr (0, [.int (nI M1), .int (nI M2), .ref a1, .ref a2, .ref a3, .ref a4, .int (nI l.length), .int (nI ic)])), (a1, .inl (cyI, (1 + M1 + M2), .inl lf)), (a2, .inl (cyI, (1 + M1 + M2), .inl of)), (a3, .inl (cyI, M1, .inl nf)), (a4, .inl (cyJ, (1 + M1 + M2), .inr (.inl wf)))]) (wr := []) (w2 := fun (u : Unit) => [(h, .inr (0, [.int (nI M1), .int (nI M2), .ref a1, .ref a2, .ref a3, .ref a4, .int (nI l.length), .int (nI ic)])), (a1, .inl (cyI, (1 + M1 + M2), .inl lf)), (a2, .inl (cyI, (1 + M1 + M2), .inl of)), (a3, .inl (cyI, M1, .inl nf)), (a4, .inl (cyJ, (1 + M1 + M2), .inr (.inl wf)))]) [0, 1, 2, 3, 4] [] [0, 1, 2, 3, 4] (va_runV (As := [.int y]) (rest := []) ⟨hx, hb, hml, hown, hts⟩ (c_X0_holds lch D cyI cyJ _ h a1 a2 a3 a4 M1 M2 lf of nf wf l.length ic y (by first | assumption | omega)) (cwV 1 hts gX0_both_X0_holds rfl rfl rfl (by decide +kernel) ⟨Nat.le_of_ble_eq_true rfl, Nat.le_of_ble_eq_true rfl⟩) (x_preV hK hNN (hP.sub (ws' := [(h, .inr (0, [.int (nI M1), .int (nI M2), .ref a1, .ref a2, .ref a3, .ref a4, .int (nI l.length), .int (nI ic)])), (a1, .inl (cyI, (1 + M1 + M2), .inl lf)), (a2, .inl (cyI, (1 + M1 + M2), .inl of)), (a3, .inl (cyI, M1, .inl nf)), (a4, .inl (cyJ, (1 + M1 + M2), .inr (.inl wf)))]) [0, 1, 2, 3, 4] rfl) (hD.sub (ws' := [(h, .inr (0, [.int (nI M1), .int (nI M2), .ref a1, .ref a2, .ref a3, .ref a4, .int (nI l.length), .int (nI ic)])), (a1, .inl (cyI, (1 + M1 + M2), .inl lf)), (a2, .inl (cyI, (1 + M1 + M2), .inl of)), (a3, .inl (cyI, M1, .inl nf)), (a4, .inl (cyJ, (1 + M1 + M2), .inr (.inl wf)))]) [0, 1, 2, 3, 4] (by decide) rfl) rfl rfl (ci := 0) (q0 := 0) rfl rfl rfl) rfl rfl hl.1 rfl (lv_room (Nat.le_of_ble_eq_true rfl)) dX0_both_10 ⟨Nat.le_of_ble_eq_true rfl, Nat.le_of_ble_eq_true rfl⟩) rfl hP hD hS hA rfl rfl (by decide) (by decide) (fun _ => rfl) (by decide) (fun r10 u10 H locs hw10 hP hD hS hz10 => ?_)
    have hP : va_P D vwCl [(h, .inr (0, [.int (nI M1), .int (nI M2), .ref a1, .ref a2, .ref a3, .ref a4, .int (nI l.length), .int (nI ic)])), (a1, .inl (cyI, (1 + M1 + M2), .inl lf)), (a2, .inl (cyI, (1 + M1 + M2), .inl of)), (a3, .inl (cyI, M1, .inl nf)), (a4, .inl (cyJ, (1 + M1 + M2), .inr (.inl wf)))] H := hP
    have hD : va_D A [(h, .inr (0, [.int (nI M1), .int (nI M2), .ref a1, .ref a2, .ref a3, .ref a4, .int (nI l.length), .int (nI ic)])), (a1, .inl (cyI, (1 + M1 + M2), .inl lf)), (a2, .inl (cyI, (1 + M1 + M2), .inl of)), (a3, .inl (cyI, M1, .inl nf)), (a4, .inl (cyJ, (1 + M1 + M2), .inr (.inl wf)))] := hD
    have hw10 : r10 = bI (0 ≤ y ∧ y < nI (2 * l.length)) := hw10
    subst hw10
    refine W.widen (k := 0) (n := 0) (Nat.le_refl _) (Nat.le_refl _) ?_
    refine lv_if_ne (tgt := 18) hx hb dX0_both_13 (by decide) (fun c13 => ?_) (fun c13 => ?_)
    · have c13 := Decidable.not_not.mp (mt bI_0.mpr c13)
      obtain ⟨ka, hka, rfl, ea, -⟩ := (dO_cases (show l.length < 100000 by omega) x).resolve_left (fun z => z.1 c5)
      obtain ⟨kb, hkb, rfl, eb, -⟩ := (dO_cases (show l.length < 100000 by omega) y).resolve_left (fun z => z.1 c13)
      have hnb : nNeg kb < 2 * l.length := nNeg_lt hkb
      rw [ea, eb] at hQ
      refine lv_iload_n hx hb dX0_both_18 rfl (lv_at hl 1 rfl) ?_
      refine lv_if_eq (tgt := 34) hx hb dX0_both_19 (by decide) (fun c19 => ?_) (fun c19 => ?_)
      · have c19 := (n0_eq (by omega)).mp c19
        refine lv_iconst (v := nI 0) hx hb dX0_both_34 (by decide) ?_
        rw [nAnd_0 (by first | exact Or.inl c19 | exact Or.inr (Or.inl c23) | exact Or.inr (Or.inr c31))] at hQ
        exact x_iret hQ hAe hx hb hr hlocks (rfl) hS hK (Nat.le_of_ble_eq_true rfl) (Nat.le_of_ble_eq_true rfl) dX0_both_35 (lf, of) hP hD (⟨rfl, hrp⟩)
      · have c19 := mt (n0_eq (by omega)).mpr c19
        refine lv_iload_n hx hb dX0_both_22 rfl (lv_at hl 2 rfl) ?_
        refine lv_if_eq (tgt := 34) hx hb dX0_both_23 (by decide) (fun c23 => ?_) (fun c23 => ?_)
        · have c23 := (n0_eq (by omega)).mp c23
          refine lv_iconst (v := nI 0) hx hb dX0_both_34 (by decide) ?_
          rw [nAnd_0 (by first | exact Or.inl c19 | exact Or.inr (Or.inl c23) | exact Or.inr (Or.inr c31))] at hQ
          exact x_iret hQ hAe hx hb hr hlocks (rfl) hS hK (Nat.le_of_ble_eq_true rfl) (Nat.le_of_ble_eq_true rfl) dX0_both_35 (lf, of) hP hD (⟨rfl, hrp⟩)
        · have c23 := mt (n0_eq (by omega)).mpr c23
          refine lv_iload_n hx hb dX0_both_26 rfl (lv_at hl 1 rfl) ?_
          refine lv_iload_n hx hb dX0_both_27 rfl (lv_at hl 2 rfl) ?_
          refine x_calli (wc := []) (wr := [(h, .inr (0, [.int (nI M1), .int (nI M2), .ref a1, .ref a2, .ref a3, .ref a4, .int (nI l.length), .int (nI ic)])), (a1, .inl (cyI, (1 + M1 + M2), .inl lf)), (a2, .inl (cyI, (1 + M1 + M2), .inl of)), (a3, .inl (cyI, M1, .inl nf)), (a4, .inl (cyJ, (1 + M1 + M2), .inr (.inl wf)))]) (w2 := fun (u : Unit) => [(h, .inr (0, [.int (nI M1), .int (nI M2), .ref a1, .ref a2, .ref a3, .ref a4, .int (nI l.length), .int (nI ic)])), (a1, .inl (cyI, (1 + M1 + M2), .inl lf)), (a2, .inl (cyI, (1 + M1 + M2), .inl of)), (a3, .inl (cyI, M1, .inl nf)), (a4, .inl (cyJ, (1 + M1 + M2), .inr (.inl wf)))]) [] [0, 1, 2, 3, 4] [0, 1, 2, 3, 4] (va_runSN (As := [.int (nI kb)]) (rest := [.int (nI ka)]) ⟨hx, hb, hml, hown, hts⟩ (c_X1_not lch D cyI cyJ _ (nI kb) ) ⟨va_cnB 1 hts gX0_both_X1_not_n46 rfl rfl rfl (hNN.at (.methodLinkNest "NetTwin$Net" 46 yX1_not "NetTwin") (by decide +kernel)) wzX1 (by decide +kernel) ⟨Nat.le_of_ble_eq_true rfl, Nat.le_of_ble_eq_true rfl⟩, ws_yX1_not, trivial⟩ (x_pre hK hNN (hP.sub (ws' := []) [] rfl) (hD.sub (ws' := []) [] (by decide) rfl) rfl rfl) rfl rfl hl.1 rfl (lv_room (Nat.le_of_ble_eq_true rfl)) dX0_both_28 ⟨Nat.le_of_ble_eq_true rfl, Nat.le_of_ble_eq_true rfl⟩) rfl hP hD hS hA rfl rfl (by decide) (by decide) (fun _ => rfl) (by decide) (fun r28 u28 H locs hw28 hP hD hS hz28 => ?_)
          have hP : va_P D vwCl [(h, .inr (0, [.int (nI M1), .int (nI M2), .ref a1, .ref a2, .ref a3, .ref a4, .int (nI l.length), .int (nI ic)])), (a1, .inl (cyI, (1 + M1 + M2), .inl lf)), (a2, .inl (cyI, (1 + M1 + M2), .inl of)), (a3, .inl (cyI, M1, .inl nf)), (a4, .inl (cyJ, (1 + M1 + M2), .inr (.inl wf)))] H := hP
          have hD : va_D A [(h, .inr (0, [.int (nI M1), .int (nI M2), .ref a1, .ref a2, .ref a3, .ref a4, .int (nI l.length), .int (nI ic)])), (a1, .inl (cyI, (1 + M1 + M2), .inl lf)), (a2, .inl (cyI, (1 + M1 + M2), .inl of)), (a3, .inl (cyI, M1, .inl nf)), (a4, .inl (cyJ, (1 + M1 + M2), .inr (.inl wf)))] := hD
          have hw28 : r28 = notI (nI kb) := hw28
          subst hw28
          refine W.widen (k := 0) (n := 0) (Nat.le_refl _) (Nat.le_refl _) ?_
          refine x_top (show notI (nI kb) = nI (nNeg kb) from notI_nI (by omega)) ?_
          refine lv_icmp_ne (tgt := 36) hx hb dX0_both_31 (by decide) (fun c31 => ?_) (fun c31 => ?_)
          · have c31 := mt (nI_eq (by omega) (by omega)).mpr c31
            refine lv_iload_n hx hb dX0_both_36 rfl (lv_at hl 2 rfl) ?_
            refine lv_iconst (v := nI 0) hx hb dX0_both_37 (by decide) ?_
            refine x_calli (wc := []) (wr := [(h, .inr (0, [.int (nI M1), .int (nI M2), .ref a1, .ref a2, .ref a3, .ref a4, .int (nI l.length), .int (nI ic)])), (a1, .inl (cyI, (1 + M1 + M2), .inl lf)), (a2, .inl (cyI, (1 + M1 + M2), .inl of)), (a3, .inl (cyI, M1, .inl nf)), (a4, .inl (cyJ, (1 + M1 + M2), .inr (.inl wf)))]) (w2 := fun (u : Unit) => [(h, .inr (0, [.int (nI M1), .int (nI M2), .ref a1, .ref a2, .ref a3, .ref a4, .int (nI l.length), .int (nI ic)])), (a1, .inl (cyI, (1 + M1 + M2), .inl lf)), (a2, .inl (cyI, (1 + M1 + M2), .inl of)), (a3, .inl (cyI, M1, .inl nf)), (a4, .inl (cyJ, (1 + M1 + M2), .inr (.inl wf)))]) [] [0, 1, 2, 3, 4] [0, 1, 2, 3, 4] (va_runSN (As := [.int (nI 0)]) (rest := [.int (nI kb)]) ⟨hx, hb, hml, hown, hts⟩ (c_X1_not lch D cyI cyJ _ (nI 0) ) ⟨va_cnB 1 hts gX0_both_X1_not_n46 rfl rfl rfl (hNN.at (.methodLinkNest "NetTwin$Net" 46 yX1_not "NetTwin") (by decide +kernel)) wzX1 (by decide +kernel) ⟨Nat.le_of_ble_eq_true rfl, Nat.le_of_ble_eq_true rfl⟩, ws_yX1_not, trivial⟩ (x_pre hK hNN (hP.sub (ws' := []) [] rfl) (hD.sub (ws' := []) [] (by decide) rfl) rfl rfl) rfl rfl hl.1 rfl (lv_room (Nat.le_of_ble_eq_true rfl)) dX0_both_38 ⟨Nat.le_of_ble_eq_true rfl, Nat.le_of_ble_eq_true rfl⟩) rfl hP hD hS hA rfl rfl (by decide) (by decide) (fun _ => rfl) (by decide) (fun r38 u38 H locs hw38 hP hD hS hz38 => ?_)
            have hP : va_P D vwCl [(h, .inr (0, [.int (nI M1), .int (nI M2), .ref a1, .ref a2, .ref a3, .ref a4, .int (nI l.length), .int (nI ic)])), (a1, .inl (cyI, (1 + M1 + M2), .inl lf)), (a2, .inl (cyI, (1 + M1 + M2), .inl of)), (a3, .inl (cyI, M1, .inl nf)), (a4, .inl (cyJ, (1 + M1 + M2), .inr (.inl wf)))] H := hP
            have hD : va_D A [(h, .inr (0, [.int (nI M1), .int (nI M2), .ref a1, .ref a2, .ref a3, .ref a4, .int (nI l.length), .int (nI ic)])), (a1, .inl (cyI, (1 + M1 + M2), .inl lf)), (a2, .inl (cyI, (1 + M1 + M2), .inl of)), (a3, .inl (cyI, M1, .inl nf)), (a4, .inl (cyJ, (1 + M1 + M2), .inr (.inl wf)))] := hD
            have hw38 : r38 = notI (nI 0) := hw38
            subst hw38
            refine W.widen (k := 0) (n := 0) (Nat.le_refl _) (Nat.le_refl _) ?_
            refine x_top (show notI (nI 0) = nI 1 from by decide) ?_
            refine lv_icmp_eq (tgt := 49) hx hb dX0_both_41 (by decide) (fun c41 => ?_) (fun c41 => ?_)
            · have c41 := (nI_eq (by omega) (by omega)).mp c41
              refine lv_iload_n hx hb dX0_both_49 rfl (lv_at hl 1 rfl) ?_
              rw [nAnd_a (fun z => z.elim c19 (fun z => z.elim c23 c31)) (by first | exact Or.inl c41 | exact Or.inr c46)] at hQ
              exact x_iret hQ hAe hx hb hr hlocks (rfl) hS hK (Nat.le_of_ble_eq_true rfl) (Nat.le_of_ble_eq_true rfl) dX0_both_50 (lf, of) hP hD (⟨rfl, hrp⟩)
            · have c41 := mt (nI_eq (by omega) (by omega)).mpr c41
              refine lv_iload_n hx hb dX0_both_44 rfl (lv_at hl 1 rfl) ?_
              refine lv_iload_n hx hb dX0_both_45 rfl (lv_at hl 2 rfl) ?_
              refine lv_icmp_ne (tgt := 51) hx hb dX0_both_46 (by decide) (fun c46 => ?_) (fun c46 => ?_)
              · have c46 := mt (nI_eq (by omega) (by omega)).mpr c46
                refine lv_iload_n hx hb dX0_both_51 rfl (lv_at hl 1 rfl) ?_
                refine lv_iconst (v := nI 0) hx hb dX0_both_52 (by decide) ?_
                refine x_calli (wc := []) (wr := [(h, .inr (0, [.int (nI M1), .int (nI M2), .ref a1, .ref a2, .ref a3, .ref a4, .int (nI l.length), .int (nI ic)])), (a1, .inl (cyI, (1 + M1 + M2), .inl lf)), (a2, .inl (cyI, (1 + M1 + M2), .inl of)), (a3, .inl (cyI, M1, .inl nf)), (a4, .inl (cyJ, (1 + M1 + M2), .inr (.inl wf)))]) (w2 := fun (u : Unit) => [(h, .inr (0, [.int (nI M1), .int (nI M2), .ref a1, .ref a2, .ref a3, .ref a4, .int (nI l.length), .int (nI ic)])), (a1, .inl (cyI, (1 + M1 + M2), .inl lf)), (a2, .inl (cyI, (1 + M1 + M2), .inl of)), (a3, .inl (cyI, M1, .inl nf)), (a4, .inl (cyJ, (1 + M1 + M2), .inr (.inl wf)))]) [] [0, 1, 2, 3, 4] [0, 1, 2, 3, 4] (va_runSN (As := [.int (nI 0)]) (rest := [.int (nI ka)]) ⟨hx, hb, hml, hown, hts⟩ (c_X1_not lch D cyI cyJ _ (nI 0) ) ⟨va_cnB 1 hts gX0_both_X1_not_n46 rfl rfl rfl (hNN.at (.methodLinkNest "NetTwin$Net" 46 yX1_not "NetTwin") (by decide +kernel)) wzX1 (by decide +kernel) ⟨Nat.le_of_ble_eq_true rfl, Nat.le_of_ble_eq_true rfl⟩, ws_yX1_not, trivial⟩ (x_pre hK hNN (hP.sub (ws' := []) [] rfl) (hD.sub (ws' := []) [] (by decide) rfl) rfl rfl) rfl rfl hl.1 rfl (lv_room (Nat.le_of_ble_eq_true rfl)) dX0_both_53 ⟨Nat.le_of_ble_eq_true rfl, Nat.le_of_ble_eq_true rfl⟩) rfl hP hD hS hA rfl rfl (by decide) (by decide) (fun _ => rfl) (by decide) (fun r53 u53 H locs hw53 hP hD hS hz53 => ?_)
                have hP : va_P D vwCl [(h, .inr (0, [.int (nI M1), .int (nI M2), .ref a1, .ref a2, .ref a3, .ref a4, .int (nI l.length), .int (nI ic)])), (a1, .inl (cyI, (1 + M1 + M2), .inl lf)), (a2, .inl (cyI, (1 + M1 + M2), .inl of)), (a3, .inl (cyI, M1, .inl nf)), (a4, .inl (cyJ, (1 + M1 + M2), .inr (.inl wf)))] H := hP
                have hD : va_D A [(h, .inr (0, [.int (nI M1), .int (nI M2), .ref a1, .ref a2, .ref a3, .ref a4, .int (nI l.length), .int (nI ic)])), (a1, .inl (cyI, (1 + M1 + M2), .inl lf)), (a2, .inl (cyI, (1 + M1 + M2), .inl of)), (a3, .inl (cyI, M1, .inl nf)), (a4, .inl (cyJ, (1 + M1 + M2), .inr (.inl wf)))] := hD
                have hw53 : r53 = notI (nI 0) := hw53
                subst hw53
                refine W.widen (k := 0) (n := 0) (Nat.le_refl _) (Nat.le_refl _) ?_
                refine x_top (show notI (nI 0) = nI 1 from by decide) ?_
                refine lv_icmp_ne (tgt := 61) hx hb dX0_both_56 (by decide) (fun c56 => ?_) (fun c56 => ?_)
                · have c56 := mt (nI_eq (by omega) (by omega)).mpr c56
                  refine lv_iload_n hx hb dX0_both_61 rfl (lv_at hl 1 rfl) ?_
                  refine lv_iload_n hx hb dX0_both_62 rfl (lv_at hl 2 rfl) ?_
                  refine lv_icmp_ge (tgt := 75) hx hb dX0_both_63 (by decide) (fun c63 => ?_) (fun c63 => ?_)
                  · have c63 := (nI_leI (by omega) (by omega)).mp c63
                    refine lv_aload_n hx hb dX0_both_75 rfl (lv_at hl 0 rfl) ?_
                    refine lv_iload_n hx hb dX0_both_76 rfl (lv_at hl 2 rfl) ?_
                    refine lv_iload_n hx hb dX0_both_77 rfl (lv_at hl 1 rfl) ?_
                    refine x_calli (wc := [(h, .inr (0, [.int (nI M1), .int (nI M2), .ref a1, .ref a2, .ref a3, .ref a4, .int (nI l.length), .int (nI ic)])), (a1, .inl (cyI, (1 + M1 + M2), .inl lf)), (a2, .inl (cyI, (1 + M1 + M2), .inl of)), (a3, .inl (cyI, M1, .inl nf)), (a4, .inl (cyJ, (1 + M1 + M2), .inr (.inl wf)))]) (wr := []) (w2 := fun (u : (Nat → Int32) × (Nat → Int32)) => [(h, .inr (0, [.int (nI M1), .int (nI M2), .ref a1, .ref a2, .ref a3, .ref a4, .int (nI ((nGate M2 l kb ka).2.length)), .int (nI ic)])), (a1, .inl (cyI, (1 + M1 + M2), .inl u.1)), (a2, .inl (cyI, (1 + M1 + M2), .inl u.2)), (a3, .inl (cyI, M1, .inl nf)), (a4, .inl (cyJ, (1 + M1 + M2), .inr (.inl wf)))]) [0, 1, 2, 3, 4] [] [0, 1, 2, 3, 4] (va_runV (As := [.int (nI kb), .int (nI ka)]) (rest := []) ⟨hx, hb, hml, hown, hts⟩ (c_X0_gateOf lch D cyI cyJ _ h a1 a2 a3 a4 M1 M2 lf of nf wf ic l kb ka (by first | assumption | omega) (by first | assumption | omega) (by first | assumption | omega) (by first | assumption | omega) (by first | assumption | omega) (by first | assumption | omega) (by first | assumption | omega) (by first | assumption | omega) (by first | assumption | omega)) (cwV 2 hts gX0_both_X0_gateOf rfl rfl rfl (by decide +kernel) ⟨Nat.le_of_ble_eq_true rfl, Nat.le_of_ble_eq_true rfl⟩) (x_preV hK hNN (hP.sub (ws' := [(h, .inr (0, [.int (nI M1), .int (nI M2), .ref a1, .ref a2, .ref a3, .ref a4, .int (nI l.length), .int (nI ic)])), (a1, .inl (cyI, (1 + M1 + M2), .inl lf)), (a2, .inl (cyI, (1 + M1 + M2), .inl of)), (a3, .inl (cyI, M1, .inl nf)), (a4, .inl (cyJ, (1 + M1 + M2), .inr (.inl wf)))]) [0, 1, 2, 3, 4] rfl) (hD.sub (ws' := [(h, .inr (0, [.int (nI M1), .int (nI M2), .ref a1, .ref a2, .ref a3, .ref a4, .int (nI l.length), .int (nI ic)])), (a1, .inl (cyI, (1 + M1 + M2), .inl lf)), (a2, .inl (cyI, (1 + M1 + M2), .inl of)), (a3, .inl (cyI, M1, .inl nf)), (a4, .inl (cyJ, (1 + M1 + M2), .inr (.inl wf)))]) [0, 1, 2, 3, 4] (by decide) rfl) rfl rfl (ci := 0) (q0 := 0) rfl rfl rfl) rfl rfl hl.1 rfl (lv_room (Nat.le_of_ble_eq_true rfl)) dX0_both_78 ⟨Nat.le_of_ble_eq_true rfl, Nat.le_of_ble_eq_true rfl⟩) rfl hP hD hS hA rfl rfl (by decide) (by decide) (fun _ => rfl) (by decide) (fun r78 u78 H locs hw78 hP hD hS hz78 => ?_)
                    obtain ⟨lf2_78, of2_78⟩ := u78
                    have hP : va_P D vwCl [(h, .inr (0, [.int (nI M1), .int (nI M2), .ref a1, .ref a2, .ref a3, .ref a4, .int (nI ((nGate M2 l kb ka).2.length)), .int (nI ic)])), (a1, .inl (cyI, (1 + M1 + M2), .inl lf2_78)), (a2, .inl (cyI, (1 + M1 + M2), .inl of2_78)), (a3, .inl (cyI, M1, .inl nf)), (a4, .inl (cyJ, (1 + M1 + M2), .inr (.inl wf)))] H := hP
                    have hD : va_D A [(h, .inr (0, [.int (nI M1), .int (nI M2), .ref a1, .ref a2, .ref a3, .ref a4, .int (nI ((nGate M2 l kb ka).2.length)), .int (nI ic)])), (a1, .inl (cyI, (1 + M1 + M2), .inl lf2_78)), (a2, .inl (cyI, (1 + M1 + M2), .inl of2_78)), (a3, .inl (cyI, M1, .inl nf)), (a4, .inl (cyJ, (1 + M1 + M2), .inr (.inl wf)))] := hD
                    have hw78 : r78 = eO (nGate M2 l kb ka).1 ∧ rpN (nGate M2 l kb ka).2 lf2_78 of2_78 := hw78
                    obtain ⟨rfl, h78_1⟩ := hw78
                    refine W.widen (k := 0) (n := 0) (Nat.le_refl _) (Nat.le_refl _) ?_
                    rw [nAnd_h (fun z => z.elim c19 (fun z => z.elim c23 c31)) (fun z => z.elim c41 c46) c56 (by omega)] at hQ
                    exact x_iret hQ hAe hx hb hr hlocks (rfl) hS hK (Nat.le_of_ble_eq_true rfl) (Nat.le_of_ble_eq_true rfl) dX0_both_81 (lf2_78, of2_78) hP hD (⟨rfl, h78_1⟩)
                  · have c63 := mt (nI_leI (by omega) (by omega)).mpr c63
                    refine lv_aload_n hx hb dX0_both_66 rfl (lv_at hl 0 rfl) ?_
                    refine lv_iload_n hx hb dX0_both_67 rfl (lv_at hl 1 rfl) ?_
                    refine lv_iload_n hx hb dX0_both_68 rfl (lv_at hl 2 rfl) ?_
                    refine x_calli (wc := [(h, .inr (0, [.int (nI M1), .int (nI M2), .ref a1, .ref a2, .ref a3, .ref a4, .int (nI l.length), .int (nI ic)])), (a1, .inl (cyI, (1 + M1 + M2), .inl lf)), (a2, .inl (cyI, (1 + M1 + M2), .inl of)), (a3, .inl (cyI, M1, .inl nf)), (a4, .inl (cyJ, (1 + M1 + M2), .inr (.inl wf)))]) (wr := []) (w2 := fun (u : (Nat → Int32) × (Nat → Int32)) => [(h, .inr (0, [.int (nI M1), .int (nI M2), .ref a1, .ref a2, .ref a3, .ref a4, .int (nI ((nGate M2 l ka kb).2.length)), .int (nI ic)])), (a1, .inl (cyI, (1 + M1 + M2), .inl u.1)), (a2, .inl (cyI, (1 + M1 + M2), .inl u.2)), (a3, .inl (cyI, M1, .inl nf)), (a4, .inl (cyJ, (1 + M1 + M2), .inr (.inl wf)))]) [0, 1, 2, 3, 4] [] [0, 1, 2, 3, 4] (va_runV (As := [.int (nI ka), .int (nI kb)]) (rest := []) ⟨hx, hb, hml, hown, hts⟩ (c_X0_gateOf lch D cyI cyJ _ h a1 a2 a3 a4 M1 M2 lf of nf wf ic l ka kb (by first | assumption | omega) (by first | assumption | omega) (by first | assumption | omega) (by first | assumption | omega) (by first | assumption | omega) (by first | assumption | omega) (by first | assumption | omega) (by first | assumption | omega) (by first | assumption | omega)) (cwV 2 hts gX0_both_X0_gateOf rfl rfl rfl (by decide +kernel) ⟨Nat.le_of_ble_eq_true rfl, Nat.le_of_ble_eq_true rfl⟩) (x_preV hK hNN (hP.sub (ws' := [(h, .inr (0, [.int (nI M1), .int (nI M2), .ref a1, .ref a2, .ref a3, .ref a4, .int (nI l.length), .int (nI ic)])), (a1, .inl (cyI, (1 + M1 + M2), .inl lf)), (a2, .inl (cyI, (1 + M1 + M2), .inl of)), (a3, .inl (cyI, M1, .inl nf)), (a4, .inl (cyJ, (1 + M1 + M2), .inr (.inl wf)))]) [0, 1, 2, 3, 4] rfl) (hD.sub (ws' := [(h, .inr (0, [.int (nI M1), .int (nI M2), .ref a1, .ref a2, .ref a3, .ref a4, .int (nI l.length), .int (nI ic)])), (a1, .inl (cyI, (1 + M1 + M2), .inl lf)), (a2, .inl (cyI, (1 + M1 + M2), .inl of)), (a3, .inl (cyI, M1, .inl nf)), (a4, .inl (cyJ, (1 + M1 + M2), .inr (.inl wf)))]) [0, 1, 2, 3, 4] (by decide) rfl) rfl rfl (ci := 0) (q0 := 0) rfl rfl rfl) rfl rfl hl.1 rfl (lv_room (Nat.le_of_ble_eq_true rfl)) dX0_both_69 ⟨Nat.le_of_ble_eq_true rfl, Nat.le_of_ble_eq_true rfl⟩) rfl hP hD hS hA rfl rfl (by decide) (by decide) (fun _ => rfl) (by decide) (fun r69 u69 H locs hw69 hP hD hS hz69 => ?_)
                    obtain ⟨lf2_69, of2_69⟩ := u69
                    have hP : va_P D vwCl [(h, .inr (0, [.int (nI M1), .int (nI M2), .ref a1, .ref a2, .ref a3, .ref a4, .int (nI ((nGate M2 l ka kb).2.length)), .int (nI ic)])), (a1, .inl (cyI, (1 + M1 + M2), .inl lf2_69)), (a2, .inl (cyI, (1 + M1 + M2), .inl of2_69)), (a3, .inl (cyI, M1, .inl nf)), (a4, .inl (cyJ, (1 + M1 + M2), .inr (.inl wf)))] H := hP
                    have hD : va_D A [(h, .inr (0, [.int (nI M1), .int (nI M2), .ref a1, .ref a2, .ref a3, .ref a4, .int (nI ((nGate M2 l ka kb).2.length)), .int (nI ic)])), (a1, .inl (cyI, (1 + M1 + M2), .inl lf2_69)), (a2, .inl (cyI, (1 + M1 + M2), .inl of2_69)), (a3, .inl (cyI, M1, .inl nf)), (a4, .inl (cyJ, (1 + M1 + M2), .inr (.inl wf)))] := hD
                    have hw69 : r69 = eO (nGate M2 l ka kb).1 ∧ rpN (nGate M2 l ka kb).2 lf2_69 of2_69 := hw69
                    obtain ⟨rfl, h69_1⟩ := hw69
                    refine W.widen (k := 0) (n := 0) (Nat.le_refl _) (Nat.le_refl _) ?_
                    refine lv_goto (tgt := 81) hx hb dX0_both_72 (by decide) ?_
                    rw [nAnd_g (fun z => z.elim c19 (fun z => z.elim c23 c31)) (fun z => z.elim c41 c46) c56 (by omega)] at hQ
                    exact x_iret hQ hAe hx hb hr hlocks (rfl) hS hK (Nat.le_of_ble_eq_true rfl) (Nat.le_of_ble_eq_true rfl) dX0_both_81 (lf2_69, of2_69) hP hD (⟨rfl, h69_1⟩)
                · have c56 := (nI_eq (by omega) (by omega)).mp c56
                  refine lv_iload_n hx hb dX0_both_59 rfl (lv_at hl 2 rfl) ?_
                  rw [nAnd_b (fun z => z.elim c19 (fun z => z.elim c23 c31)) (fun z => z.elim c41 c46) c56] at hQ
                  exact x_iret hQ hAe hx hb hr hlocks (rfl) hS hK (Nat.le_of_ble_eq_true rfl) (Nat.le_of_ble_eq_true rfl) dX0_both_60 (lf, of) hP hD (⟨rfl, hrp⟩)
              · have c46 := (nI_eq (by omega) (by omega)).mp c46
                refine lv_iload_n hx hb dX0_both_49 rfl (lv_at hl 1 rfl) ?_
                rw [nAnd_a (fun z => z.elim c19 (fun z => z.elim c23 c31)) (by first | exact Or.inl c41 | exact Or.inr c46)] at hQ
                exact x_iret hQ hAe hx hb hr hlocks (rfl) hS hK (Nat.le_of_ble_eq_true rfl) (Nat.le_of_ble_eq_true rfl) dX0_both_50 (lf, of) hP hD (⟨rfl, hrp⟩)
          · have c31 := (nI_eq (by omega) (by omega)).mp c31
            refine lv_iconst (v := nI 0) hx hb dX0_both_34 (by decide) ?_
            rw [nAnd_0 (by first | exact Or.inl c19 | exact Or.inr (Or.inl c23) | exact Or.inr (Or.inr c31))] at hQ
            exact x_iret hQ hAe hx hb hr hlocks (rfl) hS hK (Nat.le_of_ble_eq_true rfl) (Nat.le_of_ble_eq_true rfl) dX0_both_35 (lf, of) hP hD (⟨rfl, hrp⟩)
    · have c13 := bI_0.mp c13
      refine lv_iconst (v := (-1)) hx hb dX0_both_16 (by decide) ?_
      rw [dO_no c13, nAnd_r] at hQ
      exact x_iret hQ hAe hx hb hr hlocks (rfl) hS hK (Nat.le_of_ble_eq_true rfl) (Nat.le_of_ble_eq_true rfl) dX0_both_17 (lf, of) hP hD (⟨rfl, hrp⟩)
set_option maxHeartbeats 4000000 in
set_option maxRecDepth 100000 in
theorem c_X0_either (lch : Launch) (D : va_G) (cyI cyJ : ClassId) (sz : Nat) (h : Nat) (a1 : Nat) (a2 : Nat) (a3 : Nat) (a4 : Nat) (M1 : Nat) (M2 : Nat) (lf : Nat → Int32) (of : Nat → Int32) (nf : Nat → Int32) (wf : Nat → Int64) (ic : Nat) (l : NT) (x : Int32) (y : Int32) (hok : nOK l) (hrp : rpN l lf of) (hg : nGates l + 1 + ic = l.length) (hgM : nGates l ≤ M2) (hic : ic ≤ M1) (hMM : M1 + M2 < 10000) : Met lch yX0_either wsX0_either ({ frames := 3, cells := 0, slots := 0, locals := 68 } : Room) (va_Pc [.ref h, .int x, .int y] (xA D (xTy cyI cyJ) sz [(h, .inr (0, [.int (nI M1), .int (nI M2), .ref a1, .ref a2, .ref a3, .ref a4, .int (nI l.length), .int (nI ic)])), (a1, .inl (cyI, (1 + M1 + M2), .inl lf)), (a2, .inl (cyI, (1 + M1 + M2), .inl of)), (a3, .inl (cyI, M1, .inl nf)), (a4, .inl (cyJ, (1 + M1 + M2), .inr (.inl wf)))])) (va_Qi (fun (r : Int32) (u : (Nat → Int32) × (Nat → Int32)) => r = eO (nOr M2 l (dO l.length x) (dO l.length y)).1 ∧ rpN (nOr M2 l (dO l.length x) (dO l.length y)).2 u.1 u.2) (fun (u : (Nat → Int32) × (Nat → Int32)) t => xB D (xTy cyI cyJ) sz [(h, .inr (0, [.int (nI M1), .int (nI M2), .ref a1, .ref a2, .ref a3, .ref a4, .int (nI l.length), .int (nI ic)])), (a1, .inl (cyI, (1 + M1 + M2), .inl lf)), (a2, .inl (cyI, (1 + M1 + M2), .inl of)), (a3, .inl (cyI, M1, .inl nf)), (a4, .inl (cyJ, (1 + M1 + M2), .inr (.inl wf)))] [(h, .inr (0, [.int (nI M1), .int (nI M2), .ref a1, .ref a2, .ref a3, .ref a4, .int (nI ((nOr M2 l (dO l.length x) (dO l.length y)).2.length)), .int (nI ic)])), (a1, .inl (cyI, (1 + M1 + M2), .inl u.1)), (a2, .inl (cyI, (1 + M1 + M2), .inl u.2)), (a3, .inl (cyI, M1, .inl nf)), (a4, .inl (cyJ, (1 + M1 + M2), .inr (.inl wf)))] t) (va_A [(h, .inr (0, [.int (nI M1), .int (nI M2), .ref a1, .ref a2, .ref a3, .ref a4, .int (nI l.length), .int (nI ic)])), (a1, .inl (cyI, (1 + M1 + M2), .inl lf)), (a2, .inl (cyI, (1 + M1 + M2), .inl of)), (a3, .inl (cyI, M1, .inl nf)), (a4, .inl (cyJ, (1 + M1 + M2), .inr (.inl wf)))] sz)) 0 0 (va_A [(h, .inr (0, [.int (nI M1), .int (nI M2), .ref a1, .ref a2, .ref a3, .ref a4, .int (nI l.length), .int (nI ic)])), (a1, .inl (cyI, (1 + M1 + M2), .inl lf)), (a2, .inl (cyI, (1 + M1 + M2), .inl of)), (a3, .inl (cyI, M1, .inl nf)), (a4, .inl (cyJ, (1 + M1 + M2), .inr (.inl wf)))] sz) := by
  refine x_met RX0 (by decide) rfl rfl (Nat.le_of_ble_eq_true rfl) ?_
  intro p e s m below meth c A Q hAe hQ hx hb hr hlocks hml hnm hts hown hNN hK hsz hP hD hS hA ls hl
  have wzX1 := hts (.initialized RX1) (by decide +kernel)
  have ws_yX1_not := hts (.static yX1_not) (by decide +kernel)
  have hP : va_P D vwCl [(h, .inr (0, [.int (nI M1), .int (nI M2), .ref a1, .ref a2, .ref a3, .ref a4, .int (nI l.length), .int (nI ic)])), (a1, .inl (cyI, (1 + M1 + M2), .inl lf)), (a2, .inl (cyI, (1 + M1 + M2), .inl of)), (a3, .inl (cyI, M1, .inl nf)), (a4, .inl (cyJ, (1 + M1 + M2), .inr (.inl wf)))] s.heap := hP
  have hD : va_D A [(h, .inr (0, [.int (nI M1), .int (nI M2), .ref a1, .ref a2, .ref a3, .ref a4, .int (nI l.length), .int (nI ic)])), (a1, .inl (cyI, (1 + M1 + M2), .inl lf)), (a2, .inl (cyI, (1 + M1 + M2), .inl of)), (a3, .inl (cyI, M1, .inl nf)), (a4, .inl (cyJ, (1 + M1 + M2), .inr (.inl wf)))] := hD
  have hl : lv_has ls 3 [(0, .ref h), (1, .int x), (2, .int y)] := hl
  have hN5 : l.length < 100000 := by omega
  obtain ⟨k1, k2, -, ⟨rr, k3, k4, k5⟩, -⟩ := nAnd_keeps (M := M2) hok (vO_not (dO_v hN5 x)) (vO_not (dO_v hN5 y)) hgM
  have k6 : (nAnd M2 l (nNot (dO l.length x)) (nNot (dO l.length y))).2.length < 100000 := by
    rw [k3, List.length_append]; omega
  refine lv_aload_n hx hb dX0_either_0 rfl (lv_at hl 0 rfl) ?_
  refine lv_iload_n hx hb dX0_either_1 rfl (lv_at hl 1 rfl) ?_
  refine x_calli (wc := []) (wr := [(h, .inr (0, [.int (nI M1), .int (nI M2), .ref a1, .ref a2, .ref a3, .ref a4, .int (nI l.length), .int (nI ic)])), (a1, .inl (cyI, (1 + M1 + M2), .inl lf)), (a2, .inl (cyI, (1 + M1 + M2), .inl of)), (a3, .inl (cyI, M1, .inl nf)), (a4, .inl (cyJ, (1 + M1 + M2), .inr (.inl wf)))]) (w2 := fun (u : Unit) => [(h, .inr (0, [.int (nI M1), .int (nI M2), .ref a1, .ref a2, .ref a3, .ref a4, .int (nI l.length), .int (nI ic)])), (a1, .inl (cyI, (1 + M1 + M2), .inl lf)), (a2, .inl (cyI, (1 + M1 + M2), .inl of)), (a3, .inl (cyI, M1, .inl nf)), (a4, .inl (cyJ, (1 + M1 + M2), .inr (.inl wf)))]) [] [0, 1, 2, 3, 4] [0, 1, 2, 3, 4] (va_runSN (As := [.int x]) (rest := [.ref h]) ⟨hx, hb, hml, hown, hts⟩ (c_X1_not lch D cyI cyJ _ x ) ⟨va_cnB 1 hts gX0_either_X1_not_n46 rfl rfl rfl (hNN.at (.methodLinkNest "NetTwin$Net" 46 yX1_not "NetTwin") (by decide +kernel)) wzX1 (by decide +kernel) ⟨Nat.le_of_ble_eq_true rfl, Nat.le_of_ble_eq_true rfl⟩, ws_yX1_not, trivial⟩ (x_pre hK hNN (hP.sub (ws' := []) [] rfl) (hD.sub (ws' := []) [] (by decide) rfl) rfl rfl) rfl rfl hl.1 rfl (lv_room (Nat.le_of_ble_eq_true rfl)) dX0_either_2 ⟨Nat.le_of_ble_eq_true rfl, Nat.le_of_ble_eq_true rfl⟩) rfl hP hD hS hA rfl rfl (by decide) (by decide) (fun _ => rfl) (by decide) (fun r2 u2 H locs hw2 hP hD hS hz2 => ?_)
  have hP : va_P D vwCl [(h, .inr (0, [.int (nI M1), .int (nI M2), .ref a1, .ref a2, .ref a3, .ref a4, .int (nI l.length), .int (nI ic)])), (a1, .inl (cyI, (1 + M1 + M2), .inl lf)), (a2, .inl (cyI, (1 + M1 + M2), .inl of)), (a3, .inl (cyI, M1, .inl nf)), (a4, .inl (cyJ, (1 + M1 + M2), .inr (.inl wf)))] H := hP
  have hD : va_D A [(h, .inr (0, [.int (nI M1), .int (nI M2), .ref a1, .ref a2, .ref a3, .ref a4, .int (nI l.length), .int (nI ic)])), (a1, .inl (cyI, (1 + M1 + M2), .inl lf)), (a2, .inl (cyI, (1 + M1 + M2), .inl of)), (a3, .inl (cyI, M1, .inl nf)), (a4, .inl (cyJ, (1 + M1 + M2), .inr (.inl wf)))] := hD
  have hw2 : r2 = notI x := hw2
  subst hw2
  refine W.widen (k := 0) (n := 0) (Nat.le_refl _) (Nat.le_refl _) ?_
  refine lv_iload_n hx hb dX0_either_5 rfl (lv_at hl 2 rfl) ?_
  refine x_calli (wc := []) (wr := [(h, .inr (0, [.int (nI M1), .int (nI M2), .ref a1, .ref a2, .ref a3, .ref a4, .int (nI l.length), .int (nI ic)])), (a1, .inl (cyI, (1 + M1 + M2), .inl lf)), (a2, .inl (cyI, (1 + M1 + M2), .inl of)), (a3, .inl (cyI, M1, .inl nf)), (a4, .inl (cyJ, (1 + M1 + M2), .inr (.inl wf)))]) (w2 := fun (u : Unit) => [(h, .inr (0, [.int (nI M1), .int (nI M2), .ref a1, .ref a2, .ref a3, .ref a4, .int (nI l.length), .int (nI ic)])), (a1, .inl (cyI, (1 + M1 + M2), .inl lf)), (a2, .inl (cyI, (1 + M1 + M2), .inl of)), (a3, .inl (cyI, M1, .inl nf)), (a4, .inl (cyJ, (1 + M1 + M2), .inr (.inl wf)))]) [] [0, 1, 2, 3, 4] [0, 1, 2, 3, 4] (va_runSN (As := [.int y]) (rest := [.int (notI x), .ref h]) ⟨hx, hb, hml, hown, hts⟩ (c_X1_not lch D cyI cyJ _ y ) ⟨va_cnB 1 hts gX0_either_X1_not_n46 rfl rfl rfl (hNN.at (.methodLinkNest "NetTwin$Net" 46 yX1_not "NetTwin") (by decide +kernel)) wzX1 (by decide +kernel) ⟨Nat.le_of_ble_eq_true rfl, Nat.le_of_ble_eq_true rfl⟩, ws_yX1_not, trivial⟩ (x_pre hK hNN (hP.sub (ws' := []) [] rfl) (hD.sub (ws' := []) [] (by decide) rfl) rfl rfl) rfl rfl hl.1 rfl (lv_room (Nat.le_of_ble_eq_true rfl)) dX0_either_6 ⟨Nat.le_of_ble_eq_true rfl, Nat.le_of_ble_eq_true rfl⟩) rfl hP hD hS hA rfl rfl (by decide) (by decide) (fun _ => rfl) (by decide) (fun r6 u6 H locs hw6 hP hD hS hz6 => ?_)
  have hP : va_P D vwCl [(h, .inr (0, [.int (nI M1), .int (nI M2), .ref a1, .ref a2, .ref a3, .ref a4, .int (nI l.length), .int (nI ic)])), (a1, .inl (cyI, (1 + M1 + M2), .inl lf)), (a2, .inl (cyI, (1 + M1 + M2), .inl of)), (a3, .inl (cyI, M1, .inl nf)), (a4, .inl (cyJ, (1 + M1 + M2), .inr (.inl wf)))] H := hP
  have hD : va_D A [(h, .inr (0, [.int (nI M1), .int (nI M2), .ref a1, .ref a2, .ref a3, .ref a4, .int (nI l.length), .int (nI ic)])), (a1, .inl (cyI, (1 + M1 + M2), .inl lf)), (a2, .inl (cyI, (1 + M1 + M2), .inl of)), (a3, .inl (cyI, M1, .inl nf)), (a4, .inl (cyJ, (1 + M1 + M2), .inr (.inl wf)))] := hD
  have hw6 : r6 = notI y := hw6
  subst hw6
  refine W.widen (k := 0) (n := 0) (Nat.le_refl _) (Nat.le_refl _) ?_
  refine x_calli (wc := [(h, .inr (0, [.int (nI M1), .int (nI M2), .ref a1, .ref a2, .ref a3, .ref a4, .int (nI l.length), .int (nI ic)])), (a1, .inl (cyI, (1 + M1 + M2), .inl lf)), (a2, .inl (cyI, (1 + M1 + M2), .inl of)), (a3, .inl (cyI, M1, .inl nf)), (a4, .inl (cyJ, (1 + M1 + M2), .inr (.inl wf)))]) (wr := []) (w2 := fun (u : (Nat → Int32) × (Nat → Int32)) => [(h, .inr (0, [.int (nI M1), .int (nI M2), .ref a1, .ref a2, .ref a3, .ref a4, .int (nI ((nAnd M2 l (dO l.length (notI x)) (dO l.length (notI y))).2.length)), .int (nI ic)])), (a1, .inl (cyI, (1 + M1 + M2), .inl u.1)), (a2, .inl (cyI, (1 + M1 + M2), .inl u.2)), (a3, .inl (cyI, M1, .inl nf)), (a4, .inl (cyJ, (1 + M1 + M2), .inr (.inl wf)))]) [0, 1, 2, 3, 4] [] [0, 1, 2, 3, 4] (va_runV (As := [.int (notI x), .int (notI y)]) (rest := []) ⟨hx, hb, hml, hown, hts⟩ (c_X0_both lch D cyI cyJ _ h a1 a2 a3 a4 M1 M2 lf of nf wf ic l (notI x) (notI y) (by first | assumption | omega) (by first | assumption | omega) (by first | assumption | omega) (by first | assumption | omega) (by first | assumption | omega) (by first | assumption | omega)) (cwV 2 hts gX0_either_X0_both rfl rfl rfl (by decide +kernel) ⟨Nat.le_of_ble_eq_true rfl, Nat.le_of_ble_eq_true rfl⟩) (x_preV hK hNN (hP.sub (ws' := [(h, .inr (0, [.int (nI M1), .int (nI M2), .ref a1, .ref a2, .ref a3, .ref a4, .int (nI l.length), .int (nI ic)])), (a1, .inl (cyI, (1 + M1 + M2), .inl lf)), (a2, .inl (cyI, (1 + M1 + M2), .inl of)), (a3, .inl (cyI, M1, .inl nf)), (a4, .inl (cyJ, (1 + M1 + M2), .inr (.inl wf)))]) [0, 1, 2, 3, 4] rfl) (hD.sub (ws' := [(h, .inr (0, [.int (nI M1), .int (nI M2), .ref a1, .ref a2, .ref a3, .ref a4, .int (nI l.length), .int (nI ic)])), (a1, .inl (cyI, (1 + M1 + M2), .inl lf)), (a2, .inl (cyI, (1 + M1 + M2), .inl of)), (a3, .inl (cyI, M1, .inl nf)), (a4, .inl (cyJ, (1 + M1 + M2), .inr (.inl wf)))]) [0, 1, 2, 3, 4] (by decide) rfl) rfl rfl (ci := 0) (q0 := 0) rfl rfl rfl) rfl rfl hl.1 rfl (lv_room (Nat.le_of_ble_eq_true rfl)) dX0_either_9 ⟨Nat.le_of_ble_eq_true rfl, Nat.le_of_ble_eq_true rfl⟩) rfl hP hD hS hA rfl rfl (by decide) (by decide) (fun _ => rfl) (by decide) (fun r9 u9 H locs hw9 hP hD hS hz9 => ?_)
  obtain ⟨lf2_9, of2_9⟩ := u9
  have hP : va_P D vwCl [(h, .inr (0, [.int (nI M1), .int (nI M2), .ref a1, .ref a2, .ref a3, .ref a4, .int (nI ((nAnd M2 l (dO l.length (notI x)) (dO l.length (notI y))).2.length)), .int (nI ic)])), (a1, .inl (cyI, (1 + M1 + M2), .inl lf2_9)), (a2, .inl (cyI, (1 + M1 + M2), .inl of2_9)), (a3, .inl (cyI, M1, .inl nf)), (a4, .inl (cyJ, (1 + M1 + M2), .inr (.inl wf)))] H := hP
  have hD : va_D A [(h, .inr (0, [.int (nI M1), .int (nI M2), .ref a1, .ref a2, .ref a3, .ref a4, .int (nI ((nAnd M2 l (dO l.length (notI x)) (dO l.length (notI y))).2.length)), .int (nI ic)])), (a1, .inl (cyI, (1 + M1 + M2), .inl lf2_9)), (a2, .inl (cyI, (1 + M1 + M2), .inl of2_9)), (a3, .inl (cyI, M1, .inl nf)), (a4, .inl (cyJ, (1 + M1 + M2), .inr (.inl wf)))] := hD
  have hw9 : r9 = eO (nAnd M2 l (dO l.length (notI x)) (dO l.length (notI y))).1 ∧ rpN (nAnd M2 l (dO l.length (notI x)) (dO l.length (notI y))).2 lf2_9 of2_9 := hw9
  obtain ⟨rfl, h9⟩ := hw9
  refine W.widen (k := 0) (n := 0) (Nat.le_refl _) (Nat.le_refl _) ?_
  rw [dO_not hN5, dO_not hN5] at h9 hP hD
  rw [dO_not hN5, dO_not hN5]
  refine x_calli (wc := []) (wr := [(h, .inr (0, [.int (nI M1), .int (nI M2), .ref a1, .ref a2, .ref a3, .ref a4, .int (nI ((nAnd M2 l ((nNot (dO l.length x))) ((nNot (dO l.length y)))).2.length)), .int (nI ic)])), (a1, .inl (cyI, (1 + M1 + M2), .inl lf2_9)), (a2, .inl (cyI, (1 + M1 + M2), .inl of2_9)), (a3, .inl (cyI, M1, .inl nf)), (a4, .inl (cyJ, (1 + M1 + M2), .inr (.inl wf)))]) (w2 := fun (u : Unit) => [(h, .inr (0, [.int (nI M1), .int (nI M2), .ref a1, .ref a2, .ref a3, .ref a4, .int (nI ((nAnd M2 l ((nNot (dO l.length x))) ((nNot (dO l.length y)))).2.length)), .int (nI ic)])), (a1, .inl (cyI, (1 + M1 + M2), .inl lf2_9)), (a2, .inl (cyI, (1 + M1 + M2), .inl of2_9)), (a3, .inl (cyI, M1, .inl nf)), (a4, .inl (cyJ, (1 + M1 + M2), .inr (.inl wf)))]) [] [0, 1, 2, 3, 4] [0, 1, 2, 3, 4] (va_runSN (As := [.int (eO (nAnd M2 l ((nNot (dO l.length x))) ((nNot (dO l.length y)))).1)]) (rest := []) ⟨hx, hb, hml, hown, hts⟩ (c_X1_not lch D cyI cyJ _ (eO (nAnd M2 l ((nNot (dO l.length x))) ((nNot (dO l.length y)))).1) ) ⟨va_cnB 1 hts gX0_either_X1_not_n46 rfl rfl rfl (hNN.at (.methodLinkNest "NetTwin$Net" 46 yX1_not "NetTwin") (by decide +kernel)) wzX1 (by decide +kernel) ⟨Nat.le_of_ble_eq_true rfl, Nat.le_of_ble_eq_true rfl⟩, ws_yX1_not, trivial⟩ (x_pre hK hNN (hP.sub (ws' := []) [] rfl) (hD.sub (ws' := []) [] (by decide) rfl) rfl rfl) rfl rfl hl.1 rfl (lv_room (Nat.le_of_ble_eq_true rfl)) dX0_either_12 ⟨Nat.le_of_ble_eq_true rfl, Nat.le_of_ble_eq_true rfl⟩) rfl hP hD hS hA rfl rfl (by decide) (by decide) (fun _ => rfl) (by decide) (fun r12 u12 H locs hw12 hP hD hS hz12 => ?_)
  have hP : va_P D vwCl [(h, .inr (0, [.int (nI M1), .int (nI M2), .ref a1, .ref a2, .ref a3, .ref a4, .int (nI ((nAnd M2 l ((nNot (dO l.length x))) ((nNot (dO l.length y)))).2.length)), .int (nI ic)])), (a1, .inl (cyI, (1 + M1 + M2), .inl lf2_9)), (a2, .inl (cyI, (1 + M1 + M2), .inl of2_9)), (a3, .inl (cyI, M1, .inl nf)), (a4, .inl (cyJ, (1 + M1 + M2), .inr (.inl wf)))] H := hP
  have hD : va_D A [(h, .inr (0, [.int (nI M1), .int (nI M2), .ref a1, .ref a2, .ref a3, .ref a4, .int (nI ((nAnd M2 l ((nNot (dO l.length x))) ((nNot (dO l.length y)))).2.length)), .int (nI ic)])), (a1, .inl (cyI, (1 + M1 + M2), .inl lf2_9)), (a2, .inl (cyI, (1 + M1 + M2), .inl of2_9)), (a3, .inl (cyI, M1, .inl nf)), (a4, .inl (cyJ, (1 + M1 + M2), .inr (.inl wf)))] := hD
  have hw12 : r12 = notI (eO (nAnd M2 l ((nNot (dO l.length x))) ((nNot (dO l.length y)))).1) := hw12
  subst hw12
  refine W.widen (k := 0) (n := 0) (Nat.le_refl _) (Nat.le_refl _) ?_
  refine x_top (show notI (eO (nAnd M2 l ((nNot (dO l.length x))) ((nNot (dO l.length y)))).1) = eO (nOr M2 l (dO l.length x) (dO l.length y)).1 from notI_eO k6 k2) ?_
  exact x_iret hQ hAe hx hb hr hlocks (rfl) hS hK (Nat.le_of_ble_eq_true rfl) (Nat.le_of_ble_eq_true rfl) dX0_either_15 (lf2_9, of2_9) hP hD (⟨rfl, h9⟩)
set_option maxHeartbeats 4000000 in
set_option maxRecDepth 100000 in
theorem c_X0_wordOf (lch : Launch) (D : va_G) (cyI cyJ : ClassId) (sz : Nat) (h : Nat) (a1 : Nat) (a2 : Nat) (a3 : Nat) (a4 : Nat) (M1 : Nat) (M2 : Nat) (lf : Nat → Int32) (of : Nat → Int32) (nf : Nat → Int32) (wf : Nat → Int64) (nc : Nat) (ic : Nat) (k : Nat) (hk : k / 2 < 1 + M1 + M2) (hMM : M1 + M2 < 10000) : Met lch yX0_wordOf wsX0_wordOf ({ frames := 0, cells := 0, slots := 0, locals := 0 } : Room) (va_Pc [.ref h, .int (nI k)] (xA D (xTy cyI cyJ) sz [(h, .inr (0, [.int (nI M1), .int (nI M2), .ref a1, .ref a2, .ref a3, .ref a4, .int (nI nc), .int (nI ic)])), (a1, .inl (cyI, (1 + M1 + M2), .inl lf)), (a2, .inl (cyI, (1 + M1 + M2), .inl of)), (a3, .inl (cyI, M1, .inl nf)), (a4, .inl (cyJ, (1 + M1 + M2), .inr (.inl wf)))])) (va_Ql (fun (r : Int64) (u : Unit) => r = litW wf k) (fun (u : Unit) t => xB D (xTy cyI cyJ) sz [(h, .inr (0, [.int (nI M1), .int (nI M2), .ref a1, .ref a2, .ref a3, .ref a4, .int (nI nc), .int (nI ic)])), (a1, .inl (cyI, (1 + M1 + M2), .inl lf)), (a2, .inl (cyI, (1 + M1 + M2), .inl of)), (a3, .inl (cyI, M1, .inl nf)), (a4, .inl (cyJ, (1 + M1 + M2), .inr (.inl wf)))] [(h, .inr (0, [.int (nI M1), .int (nI M2), .ref a1, .ref a2, .ref a3, .ref a4, .int (nI nc), .int (nI ic)])), (a1, .inl (cyI, (1 + M1 + M2), .inl lf)), (a2, .inl (cyI, (1 + M1 + M2), .inl of)), (a3, .inl (cyI, M1, .inl nf)), (a4, .inl (cyJ, (1 + M1 + M2), .inr (.inl wf)))] t) (va_A [(h, .inr (0, [.int (nI M1), .int (nI M2), .ref a1, .ref a2, .ref a3, .ref a4, .int (nI nc), .int (nI ic)])), (a1, .inl (cyI, (1 + M1 + M2), .inl lf)), (a2, .inl (cyI, (1 + M1 + M2), .inl of)), (a3, .inl (cyI, M1, .inl nf)), (a4, .inl (cyJ, (1 + M1 + M2), .inr (.inl wf)))] sz)) 0 0 (va_A [(h, .inr (0, [.int (nI M1), .int (nI M2), .ref a1, .ref a2, .ref a3, .ref a4, .int (nI nc), .int (nI ic)])), (a1, .inl (cyI, (1 + M1 + M2), .inl lf)), (a2, .inl (cyI, (1 + M1 + M2), .inl of)), (a3, .inl (cyI, M1, .inl nf)), (a4, .inl (cyJ, (1 + M1 + M2), .inr (.inl wf)))] sz) := by
  refine x_met RX0 (by decide) rfl rfl (Nat.le_of_ble_eq_true rfl) ?_
  intro p e s m below meth c A Q hAe hQ hx hb hr hlocks hml hnm hts hown hNN hK hsz hP hD hS hA ls hl
  have wf28 := hts (.fieldLink RX0 28 "NetTwin$Net" "word" "[J") (by decide +kernel)
  have hiX0 : ∀ w ∈ u_ws RX0 TX0 8, w ∈ wsX0_wordOf := by decide +kernel
  have wc56 := hts (.constantLong RX0 56 (-1)) (by decide +kernel)
  have hP : va_P D vwCl [(h, .inr (0, [.int (nI M1), .int (nI M2), .ref a1, .ref a2, .ref a3, .ref a4, .int (nI nc), .int (nI ic)])), (a1, .inl (cyI, (1 + M1 + M2), .inl lf)), (a2, .inl (cyI, (1 + M1 + M2), .inl of)), (a3, .inl (cyI, M1, .inl nf)), (a4, .inl (cyJ, (1 + M1 + M2), .inr (.inl wf)))] s.heap := hP
  have hD : va_D A [(h, .inr (0, [.int (nI M1), .int (nI M2), .ref a1, .ref a2, .ref a3, .ref a4, .int (nI nc), .int (nI ic)])), (a1, .inl (cyI, (1 + M1 + M2), .inl lf)), (a2, .inl (cyI, (1 + M1 + M2), .inl of)), (a3, .inl (cyI, M1, .inl nf)), (a4, .inl (cyJ, (1 + M1 + M2), .inr (.inl wf)))] := hD
  have hl : lv_has ls 4 [(0, .ref h), (1, .int (nI k))] := hl
  refine lv_aload_n hx hb dX0_wordOf_0 rfl (lv_at hl 0 rfl) ?_
  refine va_get (D := D) (ci := 0) (v := .ref a4) (C := RX0) (T := TX0) (N := 8) hx hb hts hiX0 hown hK hP 0 rfl rfl 5 (by decide) wf28 (fun _ h9 => h9) rfl dX0_wordOf_1 ?_
  refine lv_iload_n hx hb dX0_wordOf_4 rfl (lv_at hl 1 rfl) ?_
  refine lv_iconst (v := nI 1) hx hb dX0_wordOf_5 (by decide) ?_
  refine lv_ishr hx hb dX0_wordOf_6 ?_
  refine x_top (n_shr1 (by omega)) ?_
  refine x_lald hx hb hK hP 4 1 rfl rfl (by omega) (by omega) dX0_wordOf_7 ?_
  refine lv_lstore_n (lv' := [(2, .long (wf (k / 2))), (0, .ref h), (1, .int (nI k))]) hx hb dX0_wordOf_8 rfl hl (by decide) rfl (fun ls hl => ?_)
  refine lv_iload_n hx hb dX0_wordOf_9 rfl (lv_at hl 2 rfl) ?_
  refine lv_iconst (v := nI 1) hx hb dX0_wordOf_10 (by decide) ?_
  refine lv_iand hx hb dX0_wordOf_11 ?_
  refine x_top (n_and1 (by omega)) ?_
  refine lv_if_ne (tgt := 19) hx hb dX0_wordOf_12 (by decide) (fun c12 => ?_) (fun c12 => ?_)
  · have c12 := mt (n0_eq (by omega)).mpr c12
    refine lv_lload_n hx hb dX0_wordOf_19 rfl (lv_at hl 0 rfl) ?_
    refine lv_ldc2 (v := (-1)) hx hb hown wc56 dX0_wordOf_20 ?_
    refine lv_lxor hx hb dX0_wordOf_23 ?_
    refine x_topl (show (wf (k / 2)) ^^^ (-1) = litW wf k from by rw [litW, if_neg c12]) ?_
    exact x_lret hQ hAe hx hb hr hlocks hS hK (Nat.le_of_ble_eq_true rfl) (Nat.le_of_ble_eq_true rfl) dX0_wordOf_24 () hP hD (rfl)
  · have c12 := (n0_eq (by omega)).mp c12
    refine lv_lload_n hx hb dX0_wordOf_15 rfl (lv_at hl 0 rfl) ?_
    refine lv_goto (tgt := 24) hx hb dX0_wordOf_16 (by decide) ?_
    refine x_topl (show wf (k / 2) = litW wf k from by rw [litW, if_pos c12]) ?_
    exact x_lret hQ hAe hx hb hr hlocks hS hK (Nat.le_of_ble_eq_true rfl) (Nat.le_of_ble_eq_true rfl) dX0_wordOf_24 () hP hD (rfl)
set_option maxHeartbeats 4000000 in
set_option maxRecDepth 100000 in
theorem c_X0_spread (lch : Launch) (D : va_G) (cyI cyJ : ClassId) (sz : Nat) (h : Nat) (a1 : Nat) (a2 : Nat) (a3 : Nat) (a4 : Nat) (M1 : Nat) (M2 : Nat) (lf : Nat → Int32) (of : Nat → Int32) (nf : Nat → Int32) (wf : Nat → Int64) (ic : Nat) (l : NT) (hok : nOK l) (hrp : rpN l lf of) (hg : nGates l + 1 + ic = l.length) (hgM : nGates l ≤ M2) (hic : ic ≤ M1) (hMM : M1 + M2 < 10000) : Met lch yX0_spread wsX0_spread ({ frames := 1, cells := 0, slots := 0, locals := 23 } : Room) (va_Pc [.ref h] (xA D (xTy cyI cyJ) sz [(h, .inr (0, [.int (nI M1), .int (nI M2), .ref a1, .ref a2, .ref a3, .ref a4, .int (nI l.length), .int (nI ic)])), (a1, .inl (cyI, (1 + M1 + M2), .inl lf)), (a2, .inl (cyI, (1 + M1 + M2), .inl of)), (a3, .inl (cyI, M1, .inl nf)), (a4, .inl (cyJ, (1 + M1 + M2), .inr (.inl wf)))])) (va_Qv (fun (u : Unit) => True) (fun (u : Unit) t => xB D (xTy cyI cyJ) sz [(h, .inr (0, [.int (nI M1), .int (nI M2), .ref a1, .ref a2, .ref a3, .ref a4, .int (nI l.length), .int (nI ic)])), (a1, .inl (cyI, (1 + M1 + M2), .inl lf)), (a2, .inl (cyI, (1 + M1 + M2), .inl of)), (a3, .inl (cyI, M1, .inl nf)), (a4, .inl (cyJ, (1 + M1 + M2), .inr (.inl wf)))] [(h, .inr (0, [.int (nI M1), .int (nI M2), .ref a1, .ref a2, .ref a3, .ref a4, .int (nI l.length), .int (nI ic)])), (a1, .inl (cyI, (1 + M1 + M2), .inl lf)), (a2, .inl (cyI, (1 + M1 + M2), .inl of)), (a3, .inl (cyI, M1, .inl nf)), (a4, .inl (cyJ, (1 + M1 + M2), .inr (.inl (sprd l wf l.length))))] t) (va_A [(h, .inr (0, [.int (nI M1), .int (nI M2), .ref a1, .ref a2, .ref a3, .ref a4, .int (nI l.length), .int (nI ic)])), (a1, .inl (cyI, (1 + M1 + M2), .inl lf)), (a2, .inl (cyI, (1 + M1 + M2), .inl of)), (a3, .inl (cyI, M1, .inl nf)), (a4, .inl (cyJ, (1 + M1 + M2), .inr (.inl wf)))] sz)) 0 0 (va_A [(h, .inr (0, [.int (nI M1), .int (nI M2), .ref a1, .ref a2, .ref a3, .ref a4, .int (nI l.length), .int (nI ic)])), (a1, .inl (cyI, (1 + M1 + M2), .inl lf)), (a2, .inl (cyI, (1 + M1 + M2), .inl of)), (a3, .inl (cyI, M1, .inl nf)), (a4, .inl (cyJ, (1 + M1 + M2), .inr (.inl wf)))] sz) := by
  refine x_met RX0 (by decide) rfl rfl (Nat.le_of_ble_eq_true rfl) ?_
  intro p e s m below meth c A Q hAe hQ hx hb hr hlocks hml hnm hts hown hNN hK hsz hP hD hS hA ls hl
  have wf32 := hts (.fieldLink RX0 32 "NetTwin$Net" "nodeCount" "I") (by decide +kernel)
  have hiX0 : ∀ w ∈ u_ws RX0 TX0 8, w ∈ wsX0_spread := by decide +kernel
  have wf28 := hts (.fieldLink RX0 28 "NetTwin$Net" "word" "[J") (by decide +kernel)
  have wf18 := hts (.fieldLink RX0 18 "NetTwin$Net" "lesser" "[I") (by decide +kernel)
  have wf22 := hts (.fieldLink RX0 22 "NetTwin$Net" "other" "[I") (by decide +kernel)
  have hP : va_P D vwCl [(h, .inr (0, [.int (nI M1), .int (nI M2), .ref a1, .ref a2, .ref a3, .ref a4, .int (nI l.length), .int (nI ic)])), (a1, .inl (cyI, (1 + M1 + M2), .inl lf)), (a2, .inl (cyI, (1 + M1 + M2), .inl of)), (a3, .inl (cyI, M1, .inl nf)), (a4, .inl (cyJ, (1 + M1 + M2), .inr (.inl wf)))] s.heap := hP
  have hD : va_D A [(h, .inr (0, [.int (nI M1), .int (nI M2), .ref a1, .ref a2, .ref a3, .ref a4, .int (nI l.length), .int (nI ic)])), (a1, .inl (cyI, (1 + M1 + M2), .inl lf)), (a2, .inl (cyI, (1 + M1 + M2), .inl of)), (a3, .inl (cyI, M1, .inl nf)), (a4, .inl (cyJ, (1 + M1 + M2), .inr (.inl wf)))] := hD
  have hl : lv_has ls 2 [(0, .ref h)] := hl
  refine lv_iconst (v := nI 0) hx hb dX0_spread_0 (by decide) ?_
  refine lv_istore_n (lv' := [(1, .int (nI 0)), (0, .ref h)]) hx hb dX0_spread_1 rfl hl (by decide) rfl (fun ls hl => ?_)
  have lp2 : ∀ n : Nat, ∀ (k : Nat) (w : Nat → Int64) (hk1 : k ≤ l.length) (hw : w = sprd l wf k) (hme : l.length - k < n) (H : Heap) (locs : List Loc) (ls : Array Slot), va_P D vwCl [(h, .inr (0, [.int (nI M1), .int (nI M2), .ref a1, .ref a2, .ref a3, .ref a4, .int (nI l.length), .int (nI ic)])), (a1, .inl (cyI, (1 + M1 + M2), .inl lf)), (a2, .inl (cyI, (1 + M1 + M2), .inl of)), (a3, .inl (cyI, M1, .inl nf)), (a4, .inl (cyJ, (1 + M1 + M2), .inr (.inl w)))] H → va_D A [(h, .inr (0, [.int (nI M1), .int (nI M2), .ref a1, .ref a2, .ref a3, .ref a4, .int (nI l.length), .int (nI ic)])), (a1, .inl (cyI, (1 + M1 + M2), .inl lf)), (a2, .inl (cyI, (1 + M1 + M2), .inl of)), (a3, .inl (cyI, M1, .inl nf)), (a4, .inl (cyJ, (1 + M1 + M2), .inr (.inl w)))] → va_S A s.heap H locs → lv_has ls 2 [(1, .int (nI k)), (0, .ref h)] → W p lch e ({ frames := 1, cells := 0, slots := 0, locals := 23 } : Room) s m ([.ref h] : List Value).toArray below meth c H locs 0 0 Q (F0 m 2 ls []) := by
    intro n
    induction n with
    | zero => intro k w hk1 hw hme H locs ls hP hD hS hl; exact absurd hme (Nat.not_lt_zero _)
    | succ n ih =>
      intro k w hk1 hw hme H locs ls hP hD hS hl
      refine lv_iload_n hx hb dX0_spread_2 rfl (lv_at hl 0 rfl) ?_
      refine lv_aload_n hx hb dX0_spread_3 rfl (lv_at hl 1 rfl) ?_
      refine va_get (D := D) (ci := 0) (v := .int (nI l.length)) (C := RX0) (T := TX0) (N := 8) hx hb hts hiX0 hown hK hP 0 rfl rfl 6 (by decide) wf32 (fun _ h9 => h9) rfl dX0_spread_4 ?_
      refine lv_icmp_ge (tgt := 51) hx hb dX0_spread_7 (by decide) (fun c7 => ?_) (fun c7 => ?_)
      · have c7 := (nI_leI (by omega) (by omega)).mp c7
        have hkl : k = l.length := by omega
        subst hkl
        rw [hw] at hP hD
        exact x_vret hQ hAe hx hb hr hlocks hS hK (Nat.le_of_ble_eq_true rfl) (Nat.le_of_ble_eq_true rfl) dX0_spread_51 () hP hD (trivial)
      · have c7 := mt (nI_leI (by omega) (by omega)).mpr c7
        refine lv_aload_n hx hb dX0_spread_10 rfl (lv_at hl 1 rfl) ?_
        refine lv_iload_n hx hb dX0_spread_11 rfl (lv_at hl 0 rfl) ?_
        refine x_calli (wc := [(h, .inr (0, [.int (nI M1), .int (nI M2), .ref a1, .ref a2, .ref a3, .ref a4, .int (nI l.length), .int (nI ic)])), (a1, .inl (cyI, (1 + M1 + M2), .inl lf)), (a2, .inl (cyI, (1 + M1 + M2), .inl of)), (a3, .inl (cyI, M1, .inl nf)), (a4, .inl (cyJ, (1 + M1 + M2), .inr (.inl w)))]) (wr := []) (w2 := fun (u : Unit) => [(h, .inr (0, [.int (nI M1), .int (nI M2), .ref a1, .ref a2, .ref a3, .ref a4, .int (nI l.length), .int (nI ic)])), (a1, .inl (cyI, (1 + M1 + M2), .inl lf)), (a2, .inl (cyI, (1 + M1 + M2), .inl of)), (a3, .inl (cyI, M1, .inl nf)), (a4, .inl (cyJ, (1 + M1 + M2), .inr (.inl w)))]) [0, 1, 2, 3, 4] [] [0, 1, 2, 3, 4] (va_runV (As := [.int (nI k)]) (rest := []) ⟨hx, hb, hml, hown, hts⟩ (c_X0_isGate lch D cyI cyJ _ h a1 a2 a3 a4 M1 M2 lf of nf w l.length ic k (by first | assumption | omega) (by first | assumption | omega)) (cwV 1 hts gX0_spread_X0_isGate rfl rfl rfl (by decide +kernel) ⟨Nat.le_of_ble_eq_true rfl, Nat.le_of_ble_eq_true rfl⟩) (x_preV hK hNN (hP.sub (ws' := [(h, .inr (0, [.int (nI M1), .int (nI M2), .ref a1, .ref a2, .ref a3, .ref a4, .int (nI l.length), .int (nI ic)])), (a1, .inl (cyI, (1 + M1 + M2), .inl lf)), (a2, .inl (cyI, (1 + M1 + M2), .inl of)), (a3, .inl (cyI, M1, .inl nf)), (a4, .inl (cyJ, (1 + M1 + M2), .inr (.inl w)))]) [0, 1, 2, 3, 4] rfl) (hD.sub (ws' := [(h, .inr (0, [.int (nI M1), .int (nI M2), .ref a1, .ref a2, .ref a3, .ref a4, .int (nI l.length), .int (nI ic)])), (a1, .inl (cyI, (1 + M1 + M2), .inl lf)), (a2, .inl (cyI, (1 + M1 + M2), .inl of)), (a3, .inl (cyI, M1, .inl nf)), (a4, .inl (cyJ, (1 + M1 + M2), .inr (.inl w)))]) [0, 1, 2, 3, 4] (by decide) rfl) rfl rfl (ci := 0) (q0 := 0) rfl rfl rfl) rfl rfl hl.1 rfl (lv_room (Nat.le_of_ble_eq_true rfl)) dX0_spread_12 ⟨Nat.le_of_ble_eq_true rfl, Nat.le_of_ble_eq_true rfl⟩) rfl hP hD hS hA rfl rfl (by decide) (by decide) (fun _ => rfl) (by decide) (fun r12 u12 H locs hw12 hP hD hS hz12 => ?_)
        have hP : va_P D vwCl [(h, .inr (0, [.int (nI M1), .int (nI M2), .ref a1, .ref a2, .ref a3, .ref a4, .int (nI l.length), .int (nI ic)])), (a1, .inl (cyI, (1 + M1 + M2), .inl lf)), (a2, .inl (cyI, (1 + M1 + M2), .inl of)), (a3, .inl (cyI, M1, .inl nf)), (a4, .inl (cyJ, (1 + M1 + M2), .inr (.inl w)))] H := hP
        have hD : va_D A [(h, .inr (0, [.int (nI M1), .int (nI M2), .ref a1, .ref a2, .ref a3, .ref a4, .int (nI l.length), .int (nI ic)])), (a1, .inl (cyI, (1 + M1 + M2), .inl lf)), (a2, .inl (cyI, (1 + M1 + M2), .inl of)), (a3, .inl (cyI, M1, .inl nf)), (a4, .inl (cyJ, (1 + M1 + M2), .inr (.inl w)))] := hD
        have hw12 : r12 = bI (¬ lf k = -1) := hw12
        subst hw12
        refine W.widen (k := 0) (n := 0) (Nat.le_refl _) (Nat.le_refl _) ?_
        refine lv_if_eq (tgt := 45) hx hb dX0_spread_15 (by decide) (fun c15 => ?_) (fun c15 => ?_)
        · have c15 := bI_0.mp c15
          have hz : nAt l k = none := gL_no hok (by omega) (by rw [← (hrp k (by omega)).1]; exact Decidable.not_not.mp c15)
          refine lv_iinc (v := nI (k + 1)) (lv' := [(1, .int (nI (k + 1))), (0, .ref h)]) hx hb dX0_spread_45 hl (k := 0) rfl (n_inc _) (by decide) rfl (fun ls hl => ?_)
          refine lv_goto (tgt := 2) hx hb dX0_spread_48 (by decide) ?_
          exact ih (k + 1) w (by omega) (by rw [sprd_n hz]; exact hw) (by omega) _ _ _ hP hD hS (lv_sub hl [0, 1] rfl)
        · have c15 := Decidable.not_not.mp (mt bI_0.mpr c15)
          obtain ⟨ga, gb, hg2⟩ := gL_yes (g := nAt l k) (by rw [← (hrp k (by omega)).1]; exact c15)
          have hgk := hok.2.2 k ga gb hg2
          have e1 : lf k = nI ga := by rw [(hrp k (by omega)).1, hg2]; rfl
          have e2 : of k = nI gb := by rw [(hrp k (by omega)).2, hg2]; rfl
          refine lv_aload_n hx hb dX0_spread_18 rfl (lv_at hl 1 rfl) ?_
          refine va_get (D := D) (ci := 0) (v := .ref a4) (C := RX0) (T := TX0) (N := 8) hx hb hts hiX0 hown hK hP 0 rfl rfl 5 (by decide) wf28 (fun _ h9 => h9) rfl dX0_spread_19 ?_
          refine lv_iload_n hx hb dX0_spread_22 rfl (lv_at hl 0 rfl) ?_
          refine lv_aload_n hx hb dX0_spread_23 rfl (lv_at hl 1 rfl) ?_
          refine lv_aload_n hx hb dX0_spread_24 rfl (lv_at hl 1 rfl) ?_
          refine va_get (D := D) (ci := 0) (v := .ref a1) (C := RX0) (T := TX0) (N := 8) hx hb hts hiX0 hown hK hP 0 rfl rfl 2 (by decide) wf18 (fun _ h9 => h9) rfl dX0_spread_25 ?_
          refine lv_iload_n hx hb dX0_spread_28 rfl (lv_at hl 0 rfl) ?_
          refine x_iald hx hb hK hP 1 0 rfl rfl (by omega) (by omega) dX0_spread_29 ?_
          refine x_top (show lf k = nI ga from e1) ?_
          refine x_calll (wc := [(h, .inr (0, [.int (nI M1), .int (nI M2), .ref a1, .ref a2, .ref a3, .ref a4, .int (nI l.length), .int (nI ic)])), (a1, .inl (cyI, (1 + M1 + M2), .inl lf)), (a2, .inl (cyI, (1 + M1 + M2), .inl of)), (a3, .inl (cyI, M1, .inl nf)), (a4, .inl (cyJ, (1 + M1 + M2), .inr (.inl w)))]) (wr := []) (w2 := fun (u : Unit) => [(h, .inr (0, [.int (nI M1), .int (nI M2), .ref a1, .ref a2, .ref a3, .ref a4, .int (nI l.length), .int (nI ic)])), (a1, .inl (cyI, (1 + M1 + M2), .inl lf)), (a2, .inl (cyI, (1 + M1 + M2), .inl of)), (a3, .inl (cyI, M1, .inl nf)), (a4, .inl (cyJ, (1 + M1 + M2), .inr (.inl w)))]) [0, 1, 2, 3, 4] [] [0, 1, 2, 3, 4] (va_runV (As := [.int (nI ga)]) (rest := [.int (nI k), .ref a4]) ⟨hx, hb, hml, hown, hts⟩ (c_X0_wordOf lch D cyI cyJ _ h a1 a2 a3 a4 M1 M2 lf of nf w l.length ic ga (by first | assumption | omega) (by first | assumption | omega)) (cwV 1 hts gX0_spread_X0_wordOf rfl rfl rfl (by decide +kernel) ⟨Nat.le_of_ble_eq_true rfl, Nat.le_of_ble_eq_true rfl⟩) (x_preV hK hNN (hP.sub (ws' := [(h, .inr (0, [.int (nI M1), .int (nI M2), .ref a1, .ref a2, .ref a3, .ref a4, .int (nI l.length), .int (nI ic)])), (a1, .inl (cyI, (1 + M1 + M2), .inl lf)), (a2, .inl (cyI, (1 + M1 + M2), .inl of)), (a3, .inl (cyI, M1, .inl nf)), (a4, .inl (cyJ, (1 + M1 + M2), .inr (.inl w)))]) [0, 1, 2, 3, 4] rfl) (hD.sub (ws' := [(h, .inr (0, [.int (nI M1), .int (nI M2), .ref a1, .ref a2, .ref a3, .ref a4, .int (nI l.length), .int (nI ic)])), (a1, .inl (cyI, (1 + M1 + M2), .inl lf)), (a2, .inl (cyI, (1 + M1 + M2), .inl of)), (a3, .inl (cyI, M1, .inl nf)), (a4, .inl (cyJ, (1 + M1 + M2), .inr (.inl w)))]) [0, 1, 2, 3, 4] (by decide) rfl) rfl rfl (ci := 0) (q0 := 0) rfl rfl rfl) rfl rfl hl.1 rfl (lv_room (Nat.le_of_ble_eq_true rfl)) dX0_spread_30 ⟨Nat.le_of_ble_eq_true rfl, Nat.le_of_ble_eq_true rfl⟩) rfl hP hD hS hA rfl rfl (by decide) (by decide) (fun _ => rfl) (by decide) (fun r30 u30 H locs hw30 hP hD hS hz30 => ?_)
          have hP : va_P D vwCl [(h, .inr (0, [.int (nI M1), .int (nI M2), .ref a1, .ref a2, .ref a3, .ref a4, .int (nI l.length), .int (nI ic)])), (a1, .inl (cyI, (1 + M1 + M2), .inl lf)), (a2, .inl (cyI, (1 + M1 + M2), .inl of)), (a3, .inl (cyI, M1, .inl nf)), (a4, .inl (cyJ, (1 + M1 + M2), .inr (.inl w)))] H := hP
          have hD : va_D A [(h, .inr (0, [.int (nI M1), .int (nI M2), .ref a1, .ref a2, .ref a3, .ref a4, .int (nI l.length), .int (nI ic)])), (a1, .inl (cyI, (1 + M1 + M2), .inl lf)), (a2, .inl (cyI, (1 + M1 + M2), .inl of)), (a3, .inl (cyI, M1, .inl nf)), (a4, .inl (cyJ, (1 + M1 + M2), .inr (.inl w)))] := hD
          have hw30 : r30 = litW w ga := hw30
          subst hw30
          refine W.widen (k := 0) (n := 0) (Nat.le_refl _) (Nat.le_refl _) ?_
          refine lv_aload_n hx hb dX0_spread_33 rfl (lv_at hl 1 rfl) ?_
          refine lv_aload_n hx hb dX0_spread_34 rfl (lv_at hl 1 rfl) ?_
          refine va_get (D := D) (ci := 0) (v := .ref a2) (C := RX0) (T := TX0) (N := 8) hx hb hts hiX0 hown hK hP 0 rfl rfl 3 (by decide) wf22 (fun _ h9 => h9) rfl dX0_spread_35 ?_
          refine lv_iload_n hx hb dX0_spread_38 rfl (lv_at hl 0 rfl) ?_
          refine x_iald hx hb hK hP 2 0 rfl rfl (by omega) (by omega) dX0_spread_39 ?_
          refine x_top (show of k = nI gb from e2) ?_
          refine x_calll (wc := [(h, .inr (0, [.int (nI M1), .int (nI M2), .ref a1, .ref a2, .ref a3, .ref a4, .int (nI l.length), .int (nI ic)])), (a1, .inl (cyI, (1 + M1 + M2), .inl lf)), (a2, .inl (cyI, (1 + M1 + M2), .inl of)), (a3, .inl (cyI, M1, .inl nf)), (a4, .inl (cyJ, (1 + M1 + M2), .inr (.inl w)))]) (wr := []) (w2 := fun (u : Unit) => [(h, .inr (0, [.int (nI M1), .int (nI M2), .ref a1, .ref a2, .ref a3, .ref a4, .int (nI l.length), .int (nI ic)])), (a1, .inl (cyI, (1 + M1 + M2), .inl lf)), (a2, .inl (cyI, (1 + M1 + M2), .inl of)), (a3, .inl (cyI, M1, .inl nf)), (a4, .inl (cyJ, (1 + M1 + M2), .inr (.inl w)))]) [0, 1, 2, 3, 4] [] [0, 1, 2, 3, 4] (va_runV (As := [.int (nI gb)]) (rest := [.long (litW w ga), .int (nI k), .ref a4]) ⟨hx, hb, hml, hown, hts⟩ (c_X0_wordOf lch D cyI cyJ _ h a1 a2 a3 a4 M1 M2 lf of nf w l.length ic gb (by first | assumption | omega) (by first | assumption | omega)) (cwV 1 hts gX0_spread_X0_wordOf rfl rfl rfl (by decide +kernel) ⟨Nat.le_of_ble_eq_true rfl, Nat.le_of_ble_eq_true rfl⟩) (x_preV hK hNN (hP.sub (ws' := [(h, .inr (0, [.int (nI M1), .int (nI M2), .ref a1, .ref a2, .ref a3, .ref a4, .int (nI l.length), .int (nI ic)])), (a1, .inl (cyI, (1 + M1 + M2), .inl lf)), (a2, .inl (cyI, (1 + M1 + M2), .inl of)), (a3, .inl (cyI, M1, .inl nf)), (a4, .inl (cyJ, (1 + M1 + M2), .inr (.inl w)))]) [0, 1, 2, 3, 4] rfl) (hD.sub (ws' := [(h, .inr (0, [.int (nI M1), .int (nI M2), .ref a1, .ref a2, .ref a3, .ref a4, .int (nI l.length), .int (nI ic)])), (a1, .inl (cyI, (1 + M1 + M2), .inl lf)), (a2, .inl (cyI, (1 + M1 + M2), .inl of)), (a3, .inl (cyI, M1, .inl nf)), (a4, .inl (cyJ, (1 + M1 + M2), .inr (.inl w)))]) [0, 1, 2, 3, 4] (by decide) rfl) rfl rfl (ci := 0) (q0 := 0) rfl rfl rfl) rfl rfl hl.1 rfl (lv_room (Nat.le_of_ble_eq_true rfl)) dX0_spread_40 ⟨Nat.le_of_ble_eq_true rfl, Nat.le_of_ble_eq_true rfl⟩) rfl hP hD hS hA rfl rfl (by decide) (by decide) (fun _ => rfl) (by decide) (fun r40 u40 H locs hw40 hP hD hS hz40 => ?_)
          have hP : va_P D vwCl [(h, .inr (0, [.int (nI M1), .int (nI M2), .ref a1, .ref a2, .ref a3, .ref a4, .int (nI l.length), .int (nI ic)])), (a1, .inl (cyI, (1 + M1 + M2), .inl lf)), (a2, .inl (cyI, (1 + M1 + M2), .inl of)), (a3, .inl (cyI, M1, .inl nf)), (a4, .inl (cyJ, (1 + M1 + M2), .inr (.inl w)))] H := hP
          have hD : va_D A [(h, .inr (0, [.int (nI M1), .int (nI M2), .ref a1, .ref a2, .ref a3, .ref a4, .int (nI l.length), .int (nI ic)])), (a1, .inl (cyI, (1 + M1 + M2), .inl lf)), (a2, .inl (cyI, (1 + M1 + M2), .inl of)), (a3, .inl (cyI, M1, .inl nf)), (a4, .inl (cyJ, (1 + M1 + M2), .inr (.inl w)))] := hD
          have hw40 : r40 = litW w gb := hw40
          subst hw40
          refine W.widen (k := 0) (n := 0) (Nat.le_refl _) (Nat.le_refl _) ?_
          refine lv_land hx hb dX0_spread_43 ?_
          refine x_last hx hb hK hP hD hS 4 1 rfl rfl (by omega) (by omega) dX0_spread_44 (fun H locs hP hD hS => ?_)
          have hP : va_P D vwCl [(h, .inr (0, [.int (nI M1), .int (nI M2), .ref a1, .ref a2, .ref a3, .ref a4, .int (nI l.length), .int (nI ic)])), (a1, .inl (cyI, (1 + M1 + M2), .inl lf)), (a2, .inl (cyI, (1 + M1 + M2), .inl of)), (a3, .inl (cyI, M1, .inl nf)), (a4, .inl (cyJ, (1 + M1 + M2), .inr (.inl (vp_updL w k ((litW w ga) &&& (litW w gb))))))] H := hP
          have hD : va_D A [(h, .inr (0, [.int (nI M1), .int (nI M2), .ref a1, .ref a2, .ref a3, .ref a4, .int (nI l.length), .int (nI ic)])), (a1, .inl (cyI, (1 + M1 + M2), .inl lf)), (a2, .inl (cyI, (1 + M1 + M2), .inl of)), (a3, .inl (cyI, M1, .inl nf)), (a4, .inl (cyJ, (1 + M1 + M2), .inr (.inl (vp_updL w k ((litW w ga) &&& (litW w gb))))))] := hD
          refine lv_iinc (v := nI (k + 1)) (lv' := [(1, .int (nI (k + 1))), (0, .ref h)]) hx hb dX0_spread_45 hl (k := 0) rfl (n_inc _) (by decide) rfl (fun ls hl => ?_)
          refine lv_goto (tgt := 2) hx hb dX0_spread_48 (by decide) ?_
          exact ih (k + 1) (vp_updL w k (litW w ga &&& litW w gb)) (by omega) (by rw [sprd_g hg2, ← hw]) (by omega) _ _ _ hP hD hS (lv_sub hl [0, 1] rfl)
  exact lp2 _ 0 wf (Nat.zero_le _) rfl (Nat.lt_succ_self _) _ _ _ hP hD hS (lv_sub hl [0, 1] rfl)
end
section
/-! small methods of NetTwin: contracts by program (wip/whole/spec_x.py) -/
def wob (b : Int32) : Int64 := if b = 0 then 0 else (-1)
def bitW (w : Int64) : Int32 := if w &&& 1 = 0 then 0 else 1
def vit (vl : Nat → Int32) (k : Nat) : Int32 := if k % 2 = 0 then vl (k / 2) else notI (vl (k / 2))
def setW (inp : Nat → Nat) (b : Nat → Int32) (w : Nat → Int64) : Nat → (Nat → Int64)
  | 0 => w
  | i + 1 => vp_updL (setW inp b w i) (inp i) (wob (b i))
def setT (b t : Nat → Int32) (ic : Nat) (w : Nat → Int64) : Nat → (Nat → Int64)
  | 0 => w
  | i + 1 => vp_updL (vp_updL (setT b t ic w i) (1 + i) (wob (b i))) (1 + (ic + i)) (wob (t i))
def tspr (l : NT) (w t : Nat → Int64) : Nat → (Nat → Int64)
  | 0 => t
  | n + 1 => match nAt l n with
    | none => tspr l w t n
    | some q => vp_updL (tspr l w t n) n ((((tspr l w t n) (q.1 / 2) &&& litW w q.2) ||| ((tspr l w t n) (q.2 / 2) &&& litW w q.1)) ||| ((tspr l w t n) (q.1 / 2) &&& (tspr l w t n) (q.2 / 2)))
theorem tspr_n {l : NT} {w t : Nat → Int64} {k : Nat} (h : nAt l k = none) : tspr l w t (k + 1) = tspr l w t k := by simp only [tspr, h]
theorem tspr_g {l : NT} {w t : Nat → Int64} {k a b : Nat} (h : nAt l k = some (a, b)) : tspr l w t (k + 1) = vp_updL (tspr l w t k) k ((((tspr l w t k) (a / 2) &&& litW w b) ||| ((tspr l w t k) (b / 2) &&& litW w a)) ||| ((tspr l w t k) (a / 2) &&& (tspr l w t k) (b / 2))) := by simp only [tspr, h]
set_option maxHeartbeats 4000000 in
set_option maxRecDepth 100000 in
theorem c_X1_wordOfBit (lch : Launch) (D : va_G) (cyI cyJ : ClassId) (sz : Nat) (b : Int32)  : Met lch yX1_wordOfBit wsX1_wordOfBit ({ frames := 0, cells := 0, slots := 0, locals := 0 } : Room) (va_Pc [.int b] (xA D (xTy cyI cyJ) sz [])) (va_Ql (fun (r : Int64) (u : Unit) => r = wob b) (fun (u : Unit) t => xB D (xTy cyI cyJ) sz [] [] t) (va_A [] sz)) 0 0 (va_A [] sz) := by
  refine x_met RX1 (by decide) rfl rfl (Nat.le_of_ble_eq_true rfl) ?_
  intro p e s m below meth c A Q hAe hQ hx hb hr hlocks hml hnm hts hown hNN hK hsz hP hD hS hA ls hl
  have wc142 := hts (.constantLong RX1 142 (-1)) (by decide +kernel)
  have hP : va_P D vwCl [] s.heap := hP
  have hD : va_D A [] := hD
  have hl : lv_has ls 1 [(0, .int b)] := hl
  refine lv_iload_n hx hb dX1_wordOfBit_0 rfl (lv_at hl 0 rfl) ?_
  refine lv_if_ne (tgt := 8) hx hb dX1_wordOfBit_1 (by decide) (fun c1 => ?_) (fun c1 => ?_)
  · refine lv_ldc2 (v := (-1)) hx hb hown wc142 dX1_wordOfBit_8 ?_
    refine x_topl (show (-1) = wob b from by rw [wob, if_neg c1]) ?_
    exact x_lret hQ hAe hx hb hr hlocks hS hK (Nat.le_of_ble_eq_true rfl) (Nat.le_of_ble_eq_true rfl) dX1_wordOfBit_11 () hP hD (rfl)
  · refine lv_lconst (v := 0) hx hb dX1_wordOfBit_4 rfl ?_
    refine lv_goto (tgt := 11) hx hb dX1_wordOfBit_5 (by decide) ?_
    refine x_topl (show 0 = wob b from by rw [wob, if_pos c1]) ?_
    exact x_lret hQ hAe hx hb hr hlocks hS hK (Nat.le_of_ble_eq_true rfl) (Nat.le_of_ble_eq_true rfl) dX1_wordOfBit_11 () hP hD (rfl)
set_option maxHeartbeats 4000000 in
set_option maxRecDepth 100000 in
theorem c_X1_bitOf (lch : Launch) (D : va_G) (cyI cyJ : ClassId) (sz : Nat) (w : Int64)  : Met lch yX1_bitOf wsX1_bitOf ({ frames := 0, cells := 0, slots := 0, locals := 0 } : Room) (va_Pc [.long w] (xA D (xTy cyI cyJ) sz [])) (va_Qi (fun (r : Int32) (u : Unit) => r = bitW w) (fun (u : Unit) t => xB D (xTy cyI cyJ) sz [] [] t) (va_A [] sz)) 0 0 (va_A [] sz) := by
  refine x_met RX1 (by decide) rfl rfl (Nat.le_of_ble_eq_true rfl) ?_
  intro p e s m below meth c A Q hAe hQ hx hb hr hlocks hml hnm hts hown hNN hK hsz hP hD hS hA ls hl
  have hP : va_P D vwCl [] s.heap := hP
  have hD : va_D A [] := hD
  have hl : lv_has ls 2 [(0, .long w)] := hl
  refine lv_lload_n hx hb dX1_bitOf_0 rfl (lv_at hl 0 rfl) ?_
  refine lv_lconst (v := 1) hx hb dX1_bitOf_1 rfl ?_
  refine lv_land hx hb dX1_bitOf_2 ?_
  refine lv_lconst (v := 0) hx hb dX1_bitOf_3 rfl ?_
  refine W.lcmp hx hb dX1_bitOf_4 ?_
  refine lv_if_ne (tgt := 12) hx hb dX1_bitOf_5 (by decide) (fun c5 => ?_) (fun c5 => ?_)
  · have c5 := mt (lg_cmp_eq _ _).mpr c5
    refine lv_iconst (v := nI 1) hx hb dX1_bitOf_12 (by decide) ?_
    refine x_top (show nI 1 = bitW w from by rw [bitW, if_neg c5]; rfl) ?_
    exact x_iret hQ hAe hx hb hr hlocks (rfl) hS hK (Nat.le_of_ble_eq_true rfl) (Nat.le_of_ble_eq_true rfl) dX1_bitOf_13 () hP hD (rfl)
  · have c5 := (lg_cmp_eq _ _).mp c5
    refine lv_iconst (v := nI 0) hx hb dX1_bitOf_8 (by decide) ?_
    refine lv_goto (tgt := 13) hx hb dX1_bitOf_9 (by decide) ?_
    refine x_top (show nI 0 = bitW w from by rw [bitW, if_pos c5]; rfl) ?_
    exact x_iret hQ hAe hx hb hr hlocks (rfl) hS hK (Nat.le_of_ble_eq_true rfl) (Nat.le_of_ble_eq_true rfl) dX1_bitOf_13 () hP hD (rfl)
set_option maxHeartbeats 4000000 in
set_option maxRecDepth 100000 in
theorem c_X1_valueInTwin (lch : Launch) (D : va_G) (cyI cyJ : ClassId) (sz : Nat) (x : Nat) (hn : Nat) (n1 : Nat) (n2 : Nat) (n3 : Nat) (n4 : Nat) (ht : Nat) (t1 : Nat) (t2 : Nat) (t3 : Nat) (t4 : Nat) (av : Nat) (au : Nat) (ab : Nat) (ai : Nat) (aw : Nat) (lf : Nat → Int32) (of : Nat → Int32) (nf : Nat → Int32) (wf : Nat → Int64) (nc : Nat) (ic : Nat) (tlf : Nat → Int32) (tof : Nat → Int32) (tnf : Nat → Int32) (twf : Nat → Int64) (tnc : Nat) (tic : Nat) (tw : Int32) (vl : Nat → Int32) (tl : Nat → Int32) (bb : Nat → Int32) (tt : Nat → Int32) (ww : Nat → Int64) (k : Nat) (hk : k / 2 < 465) : Met lch yX1_valueInTwin wsX1_valueInTwin ({ frames := 1, cells := 0, slots := 0, locals := 20 } : Room) (va_Pc [.ref x, .int (nI k)] (xA D (xTy cyI cyJ) sz [(x, .inr (1, [.ref hn, .ref ht, .int tw, .ref av, .ref au, .ref ab, .ref ai, .ref aw])), (hn, .inr (0, [.int (nI 64), .int (nI 400), .ref n1, .ref n2, .ref n3, .ref n4, .int (nI nc), .int (nI ic)])), (n1, .inl (cyI, (1 + 64 + 400), .inl lf)), (n2, .inl (cyI, (1 + 64 + 400), .inl of)), (n3, .inl (cyI, 64, .inl nf)), (n4, .inl (cyJ, (1 + 64 + 400), .inr (.inl wf))), (ht, .inr (0, [.int (nI 128), .int (nI 1500), .ref t1, .ref t2, .ref t3, .ref t4, .int (nI tnc), .int (nI tic)])), (t1, .inl (cyI, (1 + 128 + 1500), .inl tlf)), (t2, .inl (cyI, (1 + 128 + 1500), .inl tof)), (t3, .inl (cyI, 128, .inl tnf)), (t4, .inl (cyJ, (1 + 128 + 1500), .inr (.inl twf))), (av, .inl (cyI, 465, .inl vl)), (au, .inl (cyI, 465, .inl tl)), (ab, .inl (cyI, 64, .inl bb)), (ai, .inl (cyI, 64, .inl tt)), (aw, .inl (cyJ, 465, .inr (.inl ww)))])) (va_Qi (fun (r : Int32) (u : Unit) => r = vit vl k) (fun (u : Unit) t => xB D (xTy cyI cyJ) sz [(x, .inr (1, [.ref hn, .ref ht, .int tw, .ref av, .ref au, .ref ab, .ref ai, .ref aw])), (hn, .inr (0, [.int (nI 64), .int (nI 400), .ref n1, .ref n2, .ref n3, .ref n4, .int (nI nc), .int (nI ic)])), (n1, .inl (cyI, (1 + 64 + 400), .inl lf)), (n2, .inl (cyI, (1 + 64 + 400), .inl of)), (n3, .inl (cyI, 64, .inl nf)), (n4, .inl (cyJ, (1 + 64 + 400), .inr (.inl wf))), (ht, .inr (0, [.int (nI 128), .int (nI 1500), .ref t1, .ref t2, .ref t3, .ref t4, .int (nI tnc), .int (nI tic)])), (t1, .inl (cyI, (1 + 128 + 1500), .inl tlf)), (t2, .inl (cyI, (1 + 128 + 1500), .inl tof)), (t3, .inl (cyI, 128, .inl tnf)), (t4, .inl (cyJ, (1 + 128 + 1500), .inr (.inl twf))), (av, .inl (cyI, 465, .inl vl)), (au, .inl (cyI, 465, .inl tl)), (ab, .inl (cyI, 64, .inl bb)), (ai, .inl (cyI, 64, .inl tt)), (aw, .inl (cyJ, 465, .inr (.inl ww)))] [(x, .inr (1, [.ref hn, .ref ht, .int tw, .ref av, .ref au, .ref ab, .ref ai, .ref aw])), (hn, .inr (0, [.int (nI 64), .int (nI 400), .ref n1, .ref n2, .ref n3, .ref n4, .int (nI nc), .int (nI ic)])), (n1, .inl (cyI, (1 + 64 + 400), .inl lf)), (n2, .inl (cyI, (1 + 64 + 400), .inl of)), (n3, .inl (cyI, 64, .inl nf)), (n4, .inl (cyJ, (1 + 64 + 400), .inr (.inl wf))), (ht, .inr (0, [.int (nI 128), .int (nI 1500), .ref t1, .ref t2, .ref t3, .ref t4, .int (nI tnc), .int (nI tic)])), (t1, .inl (cyI, (1 + 128 + 1500), .inl tlf)), (t2, .inl (cyI, (1 + 128 + 1500), .inl tof)), (t3, .inl (cyI, 128, .inl tnf)), (t4, .inl (cyJ, (1 + 128 + 1500), .inr (.inl twf))), (av, .inl (cyI, 465, .inl vl)), (au, .inl (cyI, 465, .inl tl)), (ab, .inl (cyI, 64, .inl bb)), (ai, .inl (cyI, 64, .inl tt)), (aw, .inl (cyJ, 465, .inr (.inl ww)))] t) (va_A [(x, .inr (1, [.ref hn, .ref ht, .int tw, .ref av, .ref au, .ref ab, .ref ai, .ref aw])), (hn, .inr (0, [.int (nI 64), .int (nI 400), .ref n1, .ref n2, .ref n3, .ref n4, .int (nI nc), .int (nI ic)])), (n1, .inl (cyI, (1 + 64 + 400), .inl lf)), (n2, .inl (cyI, (1 + 64 + 400), .inl of)), (n3, .inl (cyI, 64, .inl nf)), (n4, .inl (cyJ, (1 + 64 + 400), .inr (.inl wf))), (ht, .inr (0, [.int (nI 128), .int (nI 1500), .ref t1, .ref t2, .ref t3, .ref t4, .int (nI tnc), .int (nI tic)])), (t1, .inl (cyI, (1 + 128 + 1500), .inl tlf)), (t2, .inl (cyI, (1 + 128 + 1500), .inl tof)), (t3, .inl (cyI, 128, .inl tnf)), (t4, .inl (cyJ, (1 + 128 + 1500), .inr (.inl twf))), (av, .inl (cyI, 465, .inl vl)), (au, .inl (cyI, 465, .inl tl)), (ab, .inl (cyI, 64, .inl bb)), (ai, .inl (cyI, 64, .inl tt)), (aw, .inl (cyJ, 465, .inr (.inl ww)))] sz)) 0 0 (va_A [(x, .inr (1, [.ref hn, .ref ht, .int tw, .ref av, .ref au, .ref ab, .ref ai, .ref aw])), (hn, .inr (0, [.int (nI 64), .int (nI 400), .ref n1, .ref n2, .ref n3, .ref n4, .int (nI nc), .int (nI ic)])), (n1, .inl (cyI, (1 + 64 + 400), .inl lf)), (n2, .inl (cyI, (1 + 64 + 400), .inl of)), (n3, .inl (cyI, 64, .inl nf)), (n4, .inl (cyJ, (1 + 64 + 400), .inr (.inl wf))), (ht, .inr (0, [.int (nI 128), .int (nI 1500), .ref t1, .ref t2, .ref t3, .ref t4, .int (nI tnc), .int (nI tic)])), (t1, .inl (cyI, (1 + 128 + 1500), .inl tlf)), (t2, .inl (cyI, (1 + 128 + 1500), .inl tof)), (t3, .inl (cyI, 128, .inl tnf)), (t4, .inl (cyJ, (1 + 128 + 1500), .inr (.inl twf))), (av, .inl (cyI, 465, .inl vl)), (au, .inl (cyI, 465, .inl tl)), (ab, .inl (cyI, 64, .inl bb)), (ai, .inl (cyI, 64, .inl tt)), (aw, .inl (cyJ, 465, .inr (.inl ww)))] sz) := by
  refine x_met RX1 (by decide) rfl rfl (Nat.le_of_ble_eq_true rfl) ?_
  intro p e s m below meth c A Q hAe hQ hx hb hr hlocks hml hnm hts hown hNN hK hsz hP hD hS hA ls hl
  have wf25 := hts (.fieldLink RX1 25 "NetTwin" "valueLiteral" "[I") (by decide +kernel)
  have hiX1 : ∀ w ∈ u_ws RX1 TX1 8, w ∈ wsX1_valueInTwin := by decide +kernel
  have hP : va_P D vwCl [(x, .inr (1, [.ref hn, .ref ht, .int tw, .ref av, .ref au, .ref ab, .ref ai, .ref aw])), (hn, .inr (0, [.int (nI 64), .int (nI 400), .ref n1, .ref n2, .ref n3, .ref n4, .int (nI nc), .int (nI ic)])), (n1, .inl (cyI, (1 + 64 + 400), .inl lf)), (n2, .inl (cyI, (1 + 64 + 400), .inl of)), (n3, .inl (cyI, 64, .inl nf)), (n4, .inl (cyJ, (1 + 64 + 400), .inr (.inl wf))), (ht, .inr (0, [.int (nI 128), .int (nI 1500), .ref t1, .ref t2, .ref t3, .ref t4, .int (nI tnc), .int (nI tic)])), (t1, .inl (cyI, (1 + 128 + 1500), .inl tlf)), (t2, .inl (cyI, (1 + 128 + 1500), .inl tof)), (t3, .inl (cyI, 128, .inl tnf)), (t4, .inl (cyJ, (1 + 128 + 1500), .inr (.inl twf))), (av, .inl (cyI, 465, .inl vl)), (au, .inl (cyI, 465, .inl tl)), (ab, .inl (cyI, 64, .inl bb)), (ai, .inl (cyI, 64, .inl tt)), (aw, .inl (cyJ, 465, .inr (.inl ww)))] s.heap := hP
  have hD : va_D A [(x, .inr (1, [.ref hn, .ref ht, .int tw, .ref av, .ref au, .ref ab, .ref ai, .ref aw])), (hn, .inr (0, [.int (nI 64), .int (nI 400), .ref n1, .ref n2, .ref n3, .ref n4, .int (nI nc), .int (nI ic)])), (n1, .inl (cyI, (1 + 64 + 400), .inl lf)), (n2, .inl (cyI, (1 + 64 + 400), .inl of)), (n3, .inl (cyI, 64, .inl nf)), (n4, .inl (cyJ, (1 + 64 + 400), .inr (.inl wf))), (ht, .inr (0, [.int (nI 128), .int (nI 1500), .ref t1, .ref t2, .ref t3, .ref t4, .int (nI tnc), .int (nI tic)])), (t1, .inl (cyI, (1 + 128 + 1500), .inl tlf)), (t2, .inl (cyI, (1 + 128 + 1500), .inl tof)), (t3, .inl (cyI, 128, .inl tnf)), (t4, .inl (cyJ, (1 + 128 + 1500), .inr (.inl twf))), (av, .inl (cyI, 465, .inl vl)), (au, .inl (cyI, 465, .inl tl)), (ab, .inl (cyI, 64, .inl bb)), (ai, .inl (cyI, 64, .inl tt)), (aw, .inl (cyJ, 465, .inr (.inl ww)))] := hD
  have hl : lv_has ls 3 [(0, .ref x), (1, .int (nI k))] := hl
  refine lv_aload_n hx hb dX1_valueInTwin_0 rfl (lv_at hl 0 rfl) ?_
  refine va_get (D := D) (ci := 1) (v := .ref av) (C := RX1) (T := TX1) (N := 8) hx hb hts hiX1 hown hK hP 0 rfl rfl 3 (by decide) wf25 (fun _ h9 => h9) rfl dX1_valueInTwin_1 ?_
  refine lv_iload_n hx hb dX1_valueInTwin_4 rfl (lv_at hl 1 rfl) ?_
  refine lv_iconst (v := nI 1) hx hb dX1_valueInTwin_5 (by decide) ?_
  refine lv_ishr hx hb dX1_valueInTwin_6 ?_
  refine x_top (n_shr1 (by omega)) ?_
  refine x_iald hx hb hK hP 11 0 rfl rfl (by omega) (by omega) dX1_valueInTwin_7 ?_
  refine lv_istore_n (lv' := [(2, .int (vl (k / 2))), (0, .ref x), (1, .int (nI k))]) hx hb dX1_valueInTwin_8 rfl hl (by decide) rfl (fun ls hl => ?_)
  refine lv_iload_n hx hb dX1_valueInTwin_9 rfl (lv_at hl 2 rfl) ?_
  refine lv_iconst (v := nI 1) hx hb dX1_valueInTwin_10 (by decide) ?_
  refine lv_iand hx hb dX1_valueInTwin_11 ?_
  refine x_top (n_and1 (by omega)) ?_
  refine lv_if_ne (tgt := 19) hx hb dX1_valueInTwin_12 (by decide) (fun c12 => ?_) (fun c12 => ?_)
  · have c12 := mt (n0_eq (by omega)).mpr c12
    refine lv_iload_n hx hb dX1_valueInTwin_19 rfl (lv_at hl 0 rfl) ?_
    refine x_calli (wc := []) (wr := [(x, .inr (1, [.ref hn, .ref ht, .int tw, .ref av, .ref au, .ref ab, .ref ai, .ref aw])), (hn, .inr (0, [.int (nI 64), .int (nI 400), .ref n1, .ref n2, .ref n3, .ref n4, .int (nI nc), .int (nI ic)])), (n1, .inl (cyI, (1 + 64 + 400), .inl lf)), (n2, .inl (cyI, (1 + 64 + 400), .inl of)), (n3, .inl (cyI, 64, .inl nf)), (n4, .inl (cyJ, (1 + 64 + 400), .inr (.inl wf))), (ht, .inr (0, [.int (nI 128), .int (nI 1500), .ref t1, .ref t2, .ref t3, .ref t4, .int (nI tnc), .int (nI tic)])), (t1, .inl (cyI, (1 + 128 + 1500), .inl tlf)), (t2, .inl (cyI, (1 + 128 + 1500), .inl tof)), (t3, .inl (cyI, 128, .inl tnf)), (t4, .inl (cyJ, (1 + 128 + 1500), .inr (.inl twf))), (av, .inl (cyI, 465, .inl vl)), (au, .inl (cyI, 465, .inl tl)), (ab, .inl (cyI, 64, .inl bb)), (ai, .inl (cyI, 64, .inl tt)), (aw, .inl (cyJ, 465, .inr (.inl ww)))]) (w2 := fun (u : Unit) => [(x, .inr (1, [.ref hn, .ref ht, .int tw, .ref av, .ref au, .ref ab, .ref ai, .ref aw])), (hn, .inr (0, [.int (nI 64), .int (nI 400), .ref n1, .ref n2, .ref n3, .ref n4, .int (nI nc), .int (nI ic)])), (n1, .inl (cyI, (1 + 64 + 400), .inl lf)), (n2, .inl (cyI, (1 + 64 + 400), .inl of)), (n3, .inl (cyI, 64, .inl nf)), (n4, .inl (cyJ, (1 + 64 + 400), .inr (.inl wf))), (ht, .inr (0, [.int (nI 128), .int (nI 1500), .ref t1, .ref t2, .ref t3, .ref t4, .int (nI tnc), .int (nI tic)])), (t1, .inl (cyI, (1 + 128 + 1500), .inl tlf)), (t2, .inl (cyI, (1 + 128 + 1500), .inl tof)), (t3, .inl (cyI, 128, .inl tnf)), (t4, .inl (cyJ, (1 + 128 + 1500), .inr (.inl twf))), (av, .inl (cyI, 465, .inl vl)), (au, .inl (cyI, 465, .inl tl)), (ab, .inl (cyI, 64, .inl bb)), (ai, .inl (cyI, 64, .inl tt)), (aw, .inl (cyJ, 465, .inr (.inl ww)))]) [] [0, 1, 2, 3, 4, 5, 6, 7, 8, 9, 10, 11, 12, 13, 14, 15] [0, 1, 2, 3, 4, 5, 6, 7, 8, 9, 10, 11, 12, 13, 14, 15] (va_runS (As := [.int (vl (k / 2))]) (rest := []) ⟨hx, hb, hml, hown, hts⟩ (c_X1_not lch D cyI cyJ _ (vl (k / 2)) ) (va_cwS 1 hts gX1_valueInTwin_X1_not rfl rfl rfl (by decide +kernel) ⟨Nat.le_of_ble_eq_true rfl, Nat.le_of_ble_eq_true rfl⟩) (x_pre hK hNN (hP.sub (ws' := []) [] rfl) (hD.sub (ws' := []) [] (by decide) rfl) rfl rfl) rfl rfl hl.1 rfl (lv_room (Nat.le_of_ble_eq_true rfl)) dX1_valueInTwin_20 ⟨Nat.le_of_ble_eq_true rfl, Nat.le_of_ble_eq_true rfl⟩) rfl hP hD hS hA rfl rfl (by decide) (by decide) (fun _ => rfl) (by decide) (fun r20 u20 H locs hw20 hP hD hS hz20 => ?_)
    have hP : va_P D vwCl [(x, .inr (1, [.ref hn, .ref ht, .int tw, .ref av, .ref au, .ref ab, .ref ai, .ref aw])), (hn, .inr (0, [.int (nI 64), .int (nI 400), .ref n1, .ref n2, .ref n3, .ref n4, .int (nI nc), .int (nI ic)])), (n1, .inl (cyI, (1 + 64 + 400), .inl lf)), (n2, .inl (cyI, (1 + 64 + 400), .inl of)), (n3, .inl (cyI, 64, .inl nf)), (n4, .inl (cyJ, (1 + 64 + 400), .inr (.inl wf))), (ht, .inr (0, [.int (nI 128), .int (nI 1500), .ref t1, .ref t2, .ref t3, .ref t4, .int (nI tnc), .int (nI tic)])), (t1, .inl (cyI, (1 + 128 + 1500), .inl tlf)), (t2, .inl (cyI, (1 + 128 + 1500), .inl tof)), (t3, .inl (cyI, 128, .inl tnf)), (t4, .inl (cyJ, (1 + 128 + 1500), .inr (.inl twf))), (av, .inl (cyI, 465, .inl vl)), (au, .inl (cyI, 465, .inl tl)), (ab, .inl (cyI, 64, .inl bb)), (ai, .inl (cyI, 64, .inl tt)), (aw, .inl (cyJ, 465, .inr (.inl ww)))] H := hP
    have hD : va_D A [(x, .inr (1, [.ref hn, .ref ht, .int tw, .ref av, .ref au, .ref ab, .ref ai, .ref aw])), (hn, .inr (0, [.int (nI 64), .int (nI 400), .ref n1, .ref n2, .ref n3, .ref n4, .int (nI nc), .int (nI ic)])), (n1, .inl (cyI, (1 + 64 + 400), .inl lf)), (n2, .inl (cyI, (1 + 64 + 400), .inl of)), (n3, .inl (cyI, 64, .inl nf)), (n4, .inl (cyJ, (1 + 64 + 400), .inr (.inl wf))), (ht, .inr (0, [.int (nI 128), .int (nI 1500), .ref t1, .ref t2, .ref t3, .ref t4, .int (nI tnc), .int (nI tic)])), (t1, .inl (cyI, (1 + 128 + 1500), .inl tlf)), (t2, .inl (cyI, (1 + 128 + 1500), .inl tof)), (t3, .inl (cyI, 128, .inl tnf)), (t4, .inl (cyJ, (1 + 128 + 1500), .inr (.inl twf))), (av, .inl (cyI, 465, .inl vl)), (au, .inl (cyI, 465, .inl tl)), (ab, .inl (cyI, 64, .inl bb)), (ai, .inl (cyI, 64, .inl tt)), (aw, .inl (cyJ, 465, .inr (.inl ww)))] := hD
    have hw20 : r20 = notI (vl (k / 2)) := hw20
    subst hw20
    refine W.widen (k := 0) (n := 0) (Nat.le_refl _) (Nat.le_refl _) ?_
    refine x_top (show notI (vl (k / 2)) = vit vl k from by rw [vit, if_neg c12]) ?_
    exact x_iret hQ hAe hx hb hr hlocks (rfl) hS hK (Nat.le_of_ble_eq_true rfl) (Nat.le_of_ble_eq_true rfl) dX1_valueInTwin_23 () hP hD (rfl)
  · have c12 := (n0_eq (by omega)).mp c12
    refine lv_iload_n hx hb dX1_valueInTwin_15 rfl (lv_at hl 0 rfl) ?_
    refine lv_goto (tgt := 23) hx hb dX1_valueInTwin_16 (by decide) ?_
    refine x_top (show vl (k / 2) = vit vl k from by rw [vit, if_pos c12]) ?_
    exact x_iret hQ hAe hx hb hr hlocks (rfl) hS hK (Nat.le_of_ble_eq_true rfl) (Nat.le_of_ble_eq_true rfl) dX1_valueInTwin_23 () hP hD (rfl)
set_option maxHeartbeats 4000000 in
set_option maxRecDepth 100000 in
theorem c_X1_twinStands (lch : Launch) (D : va_G) (cyI cyJ : ClassId) (sz : Nat) (x : Nat) (hn : Nat) (n1 : Nat) (n2 : Nat) (n3 : Nat) (n4 : Nat) (ht : Nat) (t1 : Nat) (t2 : Nat) (t3 : Nat) (t4 : Nat) (av : Nat) (au : Nat) (ab : Nat) (ai : Nat) (aw : Nat) (lf : Nat → Int32) (of : Nat → Int32) (nf : Nat → Int32) (wf : Nat → Int64) (nc : Nat) (ic : Nat) (tlf : Nat → Int32) (tof : Nat → Int32) (tnf : Nat → Int32) (twf : Nat → Int64) (tnc : Nat) (tic : Nat) (tw : Int32) (vl : Nat → Int32) (tl : Nat → Int32) (bb : Nat → Int32) (tt : Nat → Int32) (ww : Nat → Int64)  : Met lch yX1_twinStands wsX1_twinStands ({ frames := 0, cells := 0, slots := 0, locals := 0 } : Room) (va_Pc [.ref x] (xA D (xTy cyI cyJ) sz [(x, .inr (1, [.ref hn, .ref ht, .int tw, .ref av, .ref au, .ref ab, .ref ai, .ref aw])), (hn, .inr (0, [.int (nI 64), .int (nI 400), .ref n1, .ref n2, .ref n3, .ref n4, .int (nI nc), .int (nI ic)])), (n1, .inl (cyI, (1 + 64 + 400), .inl lf)), (n2, .inl (cyI, (1 + 64 + 400), .inl of)), (n3, .inl (cyI, 64, .inl nf)), (n4, .inl (cyJ, (1 + 64 + 400), .inr (.inl wf))), (ht, .inr (0, [.int (nI 128), .int (nI 1500), .ref t1, .ref t2, .ref t3, .ref t4, .int (nI tnc), .int (nI tic)])), (t1, .inl (cyI, (1 + 128 + 1500), .inl tlf)), (t2, .inl (cyI, (1 + 128 + 1500), .inl tof)), (t3, .inl (cyI, 128, .inl tnf)), (t4, .inl (cyJ, (1 + 128 + 1500), .inr (.inl twf))), (av, .inl (cyI, 465, .inl vl)), (au, .inl (cyI, 465, .inl tl)), (ab, .inl (cyI, 64, .inl bb)), (ai, .inl (cyI, 64, .inl tt)), (aw, .inl (cyJ, 465, .inr (.inl ww)))])) (va_Qi (fun (r : Int32) (u : Unit) => r = bI (tw = nI nc)) (fun (u : Unit) t => xB D (xTy cyI cyJ) sz [(x, .inr (1, [.ref hn, .ref ht, .int tw, .ref av, .ref au, .ref ab, .ref ai, .ref aw])), (hn, .inr (0, [.int (nI 64), .int (nI 400), .ref n1, .ref n2, .ref n3, .ref n4, .int (nI nc), .int (nI ic)])), (n1, .inl (cyI, (1 + 64 + 400), .inl lf)), (n2, .inl (cyI, (1 + 64 + 400), .inl of)), (n3, .inl (cyI, 64, .inl nf)), (n4, .inl (cyJ, (1 + 64 + 400), .inr (.inl wf))), (ht, .inr (0, [.int (nI 128), .int (nI 1500), .ref t1, .ref t2, .ref t3, .ref t4, .int (nI tnc), .int (nI tic)])), (t1, .inl (cyI, (1 + 128 + 1500), .inl tlf)), (t2, .inl (cyI, (1 + 128 + 1500), .inl tof)), (t3, .inl (cyI, 128, .inl tnf)), (t4, .inl (cyJ, (1 + 128 + 1500), .inr (.inl twf))), (av, .inl (cyI, 465, .inl vl)), (au, .inl (cyI, 465, .inl tl)), (ab, .inl (cyI, 64, .inl bb)), (ai, .inl (cyI, 64, .inl tt)), (aw, .inl (cyJ, 465, .inr (.inl ww)))] [(x, .inr (1, [.ref hn, .ref ht, .int tw, .ref av, .ref au, .ref ab, .ref ai, .ref aw])), (hn, .inr (0, [.int (nI 64), .int (nI 400), .ref n1, .ref n2, .ref n3, .ref n4, .int (nI nc), .int (nI ic)])), (n1, .inl (cyI, (1 + 64 + 400), .inl lf)), (n2, .inl (cyI, (1 + 64 + 400), .inl of)), (n3, .inl (cyI, 64, .inl nf)), (n4, .inl (cyJ, (1 + 64 + 400), .inr (.inl wf))), (ht, .inr (0, [.int (nI 128), .int (nI 1500), .ref t1, .ref t2, .ref t3, .ref t4, .int (nI tnc), .int (nI tic)])), (t1, .inl (cyI, (1 + 128 + 1500), .inl tlf)), (t2, .inl (cyI, (1 + 128 + 1500), .inl tof)), (t3, .inl (cyI, 128, .inl tnf)), (t4, .inl (cyJ, (1 + 128 + 1500), .inr (.inl twf))), (av, .inl (cyI, 465, .inl vl)), (au, .inl (cyI, 465, .inl tl)), (ab, .inl (cyI, 64, .inl bb)), (ai, .inl (cyI, 64, .inl tt)), (aw, .inl (cyJ, 465, .inr (.inl ww)))] t) (va_A [(x, .inr (1, [.ref hn, .ref ht, .int tw, .ref av, .ref au, .ref ab, .ref ai, .ref aw])), (hn, .inr (0, [.int (nI 64), .int (nI 400), .ref n1, .ref n2, .ref n3, .ref n4, .int (nI nc), .int (nI ic)])), (n1, .inl (cyI, (1 + 64 + 400), .inl lf)), (n2, .inl (cyI, (1 + 64 + 400), .inl of)), (n3, .inl (cyI, 64, .inl nf)), (n4, .inl (cyJ, (1 + 64 + 400), .inr (.inl wf))), (ht, .inr (0, [.int (nI 128), .int (nI 1500), .ref t1, .ref t2, .ref t3, .ref t4, .int (nI tnc), .int (nI tic)])), (t1, .inl (cyI, (1 + 128 + 1500), .inl tlf)), (t2, .inl (cyI, (1 + 128 + 1500), .inl tof)), (t3, .inl (cyI, 128, .inl tnf)), (t4, .inl (cyJ, (1 + 128 + 1500), .inr (.inl twf))), (av, .inl (cyI, 465, .inl vl)), (au, .inl (cyI, 465, .inl tl)), (ab, .inl (cyI, 64, .inl bb)), (ai, .inl (cyI, 64, .inl tt)), (aw, .inl (cyJ, 465, .inr (.inl ww)))] sz)) 0 0 (va_A [(x, .inr (1, [.ref hn, .ref ht, .int tw, .ref av, .ref au, .ref ab, .ref ai, .ref aw])), (hn, .inr (0, [.int (nI 64), .int (nI 400), .ref n1, .ref n2, .ref n3, .ref n4, .int (nI nc), .int (nI ic)])), (n1, .inl (cyI, (1 + 64 + 400), .inl lf)), (n2, .inl (cyI, (1 + 64 + 400), .inl of)), (n3, .inl (cyI, 64, .inl nf)), (n4, .inl (cyJ, (1 + 64 + 400), .inr (.inl wf))), (ht, .inr (0, [.int (nI 128), .int (nI 1500), .ref t1, .ref t2, .ref t3, .ref t4, .int (nI tnc), .int (nI tic)])), (t1, .inl (cyI, (1 + 128 + 1500), .inl tlf)), (t2, .inl (cyI, (1 + 128 + 1500), .inl tof)), (t3, .inl (cyI, 128, .inl tnf)), (t4, .inl (cyJ, (1 + 128 + 1500), .inr (.inl twf))), (av, .inl (cyI, 465, .inl vl)), (au, .inl (cyI, 465, .inl tl)), (ab, .inl (cyI, 64, .inl bb)), (ai, .inl (cyI, 64, .inl tt)), (aw, .inl (cyJ, 465, .inr (.inl ww)))] sz) := by
  refine x_met RX1 (by decide) rfl rfl (Nat.le_of_ble_eq_true rfl) ?_
  intro p e s m below meth c A Q hAe hQ hx hb hr hlocks hml hnm hts hown hNN hK hsz hP hD hS hA ls hl
  have wf21 := hts (.fieldLink RX1 21 "NetTwin" "twinnedNodes" "I") (by decide +kernel)
  have hiX1 : ∀ w ∈ u_ws RX1 TX1 8, w ∈ wsX1_twinStands := by decide +kernel
  have wf14 := hts (.fieldLink RX1 14 "NetTwin" "net" "LNetTwin$Net;") (by decide +kernel)
  have wn61 := hNN.get (args := ([.ref x] : List Value).toArray) (.fieldLinkNest "NetTwin" 61 "NetTwin$Net" "nodeCount" "I" "NetTwin") (by decide +kernel)
  have hiX0 : ∀ w ∈ u_ws RX0 TX0 8, w ∈ wsX1_twinStands := by decide +kernel
  have hP : va_P D vwCl [(x, .inr (1, [.ref hn, .ref ht, .int tw, .ref av, .ref au, .ref ab, .ref ai, .ref aw])), (hn, .inr (0, [.int (nI 64), .int (nI 400), .ref n1, .ref n2, .ref n3, .ref n4, .int (nI nc), .int (nI ic)])), (n1, .inl (cyI, (1 + 64 + 400), .inl lf)), (n2, .inl (cyI, (1 + 64 + 400), .inl of)), (n3, .inl (cyI, 64, .inl nf)), (n4, .inl (cyJ, (1 + 64 + 400), .inr (.inl wf))), (ht, .inr (0, [.int (nI 128), .int (nI 1500), .ref t1, .ref t2, .ref t3, .ref t4, .int (nI tnc), .int (nI tic)])), (t1, .inl (cyI, (1 + 128 + 1500), .inl tlf)), (t2, .inl (cyI, (1 + 128 + 1500), .inl tof)), (t3, .inl (cyI, 128, .inl tnf)), (t4, .inl (cyJ, (1 + 128 + 1500), .inr (.inl twf))), (av, .inl (cyI, 465, .inl vl)), (au, .inl (cyI, 465, .inl tl)), (ab, .inl (cyI, 64, .inl bb)), (ai, .inl (cyI, 64, .inl tt)), (aw, .inl (cyJ, 465, .inr (.inl ww)))] s.heap := hP
  have hD : va_D A [(x, .inr (1, [.ref hn, .ref ht, .int tw, .ref av, .ref au, .ref ab, .ref ai, .ref aw])), (hn, .inr (0, [.int (nI 64), .int (nI 400), .ref n1, .ref n2, .ref n3, .ref n4, .int (nI nc), .int (nI ic)])), (n1, .inl (cyI, (1 + 64 + 400), .inl lf)), (n2, .inl (cyI, (1 + 64 + 400), .inl of)), (n3, .inl (cyI, 64, .inl nf)), (n4, .inl (cyJ, (1 + 64 + 400), .inr (.inl wf))), (ht, .inr (0, [.int (nI 128), .int (nI 1500), .ref t1, .ref t2, .ref t3, .ref t4, .int (nI tnc), .int (nI tic)])), (t1, .inl (cyI, (1 + 128 + 1500), .inl tlf)), (t2, .inl (cyI, (1 + 128 + 1500), .inl tof)), (t3, .inl (cyI, 128, .inl tnf)), (t4, .inl (cyJ, (1 + 128 + 1500), .inr (.inl twf))), (av, .inl (cyI, 465, .inl vl)), (au, .inl (cyI, 465, .inl tl)), (ab, .inl (cyI, 64, .inl bb)), (ai, .inl (cyI, 64, .inl tt)), (aw, .inl (cyJ, 465, .inr (.inl ww)))] := hD
  have hl : lv_has ls 1 [(0, .ref x)] := hl
  refine lv_aload_n hx hb dX1_twinStands_0 rfl (lv_at hl 0 rfl) ?_
  refine va_get (D := D) (ci := 1) (v := .int tw) (C := RX1) (T := TX1) (N := 8) hx hb hts hiX1 hown hK hP 0 rfl rfl 2 (by decide) wf21 (fun _ h9 => h9) rfl dX1_twinStands_1 ?_
  refine lv_aload_n hx hb dX1_twinStands_4 rfl (lv_at hl 0 rfl) ?_
  refine va_get (D := D) (ci := 1) (v := .ref hn) (C := RX1) (T := TX1) (N := 8) hx hb hts hiX1 hown hK hP 0 rfl rfl 0 (by decide) wf14 (fun _ h9 => h9) rfl dX1_twinStands_5 ?_
  refine va_getN (D := D) (ci := 0) (v := .int (nI nc)) (C := RX0) (T := TX0) (N := 8) hx hb hts hiX0 hown hK hP 1 rfl rfl 6 (by decide) wn61 (fun _ h9 => h9) rfl dX1_twinStands_8 ?_
  refine lv_icmp_ne (tgt := 18) hx hb dX1_twinStands_11 (by decide) (fun c11 => ?_) (fun c11 => ?_)
  · refine lv_iconst (v := nI 0) hx hb dX1_twinStands_18 (by decide) ?_
    refine x_top (show nI 0 = bI (tw = nI nc) from bI_fn c11) ?_
    exact x_iret hQ hAe hx hb hr hlocks (bI_z) hS hK (Nat.le_of_ble_eq_true rfl) (Nat.le_of_ble_eq_true rfl) dX1_twinStands_19 () hP hD (rfl)
  · refine lv_iconst (v := nI 1) hx hb dX1_twinStands_14 (by decide) ?_
    refine x_top (show nI 1 = bI (tw = nI nc) from bI_tn c11) ?_
    refine lv_goto (tgt := 19) hx hb dX1_twinStands_15 (by decide) ?_
    exact x_iret hQ hAe hx hb hr hlocks (bI_z) hS hK (Nat.le_of_ble_eq_true rfl) (Nat.le_of_ble_eq_true rfl) dX1_twinStands_19 () hP hD (rfl)
set_option maxHeartbeats 4000000 in
set_option maxRecDepth 100000 in
theorem c_X1_countTainted (lch : Launch) (D : va_G) (cyI cyJ : ClassId) (sz : Nat) (x : Nat) (hn : Nat) (n1 : Nat) (n2 : Nat) (n3 : Nat) (n4 : Nat) (ht : Nat) (t1 : Nat) (t2 : Nat) (t3 : Nat) (t4 : Nat) (av : Nat) (au : Nat) (ab : Nat) (ai : Nat) (aw : Nat) (lf : Nat → Int32) (of : Nat → Int32) (nf : Nat → Int32) (wf : Nat → Int64) (nc : Nat) (ic : Nat) (tlf : Nat → Int32) (tof : Nat → Int32) (tnf : Nat → Int32) (twf : Nat → Int64) (tnc : Nat) (tic : Nat) (tw : Int32) (vl : Nat → Int32) (tl : Nat → Int32) (bb : Nat → Int32) (tt : Nat → Int32) (ww : Nat → Int64) (hic : ic ≤ 64) : Met lch yX1_countTainted wsX1_countTainted ({ frames := 0, cells := 0, slots := 0, locals := 0 } : Room) (va_Pc [.ref x] (xA D (xTy cyI cyJ) sz [(x, .inr (1, [.ref hn, .ref ht, .int tw, .ref av, .ref au, .ref ab, .ref ai, .ref aw])), (hn, .inr (0, [.int (nI 64), .int (nI 400), .ref n1, .ref n2, .ref n3, .ref n4, .int (nI nc), .int (nI ic)])), (n1, .inl (cyI, (1 + 64 + 400), .inl lf)), (n2, .inl (cyI, (1 + 64 + 400), .inl of)), (n3, .inl (cyI, 64, .inl nf)), (n4, .inl (cyJ, (1 + 64 + 400), .inr (.inl wf))), (ht, .inr (0, [.int (nI 128), .int (nI 1500), .ref t1, .ref t2, .ref t3, .ref t4, .int (nI tnc), .int (nI tic)])), (t1, .inl (cyI, (1 + 128 + 1500), .inl tlf)), (t2, .inl (cyI, (1 + 128 + 1500), .inl tof)), (t3, .inl (cyI, 128, .inl tnf)), (t4, .inl (cyJ, (1 + 128 + 1500), .inr (.inl twf))), (av, .inl (cyI, 465, .inl vl)), (au, .inl (cyI, 465, .inl tl)), (ab, .inl (cyI, 64, .inl bb)), (ai, .inl (cyI, 64, .inl tt)), (aw, .inl (cyJ, 465, .inr (.inl ww)))])) (va_Qi (fun (r : Int32) (u : Unit) => r = bx_sum tt ic) (fun (u : Unit) t => xB D (xTy cyI cyJ) sz [(x, .inr (1, [.ref hn, .ref ht, .int tw, .ref av, .ref au, .ref ab, .ref ai, .ref aw])), (hn, .inr (0, [.int (nI 64), .int (nI 400), .ref n1, .ref n2, .ref n3, .ref n4, .int (nI nc), .int (nI ic)])), (n1, .inl (cyI, (1 + 64 + 400), .inl lf)), (n2, .inl (cyI, (1 + 64 + 400), .inl of)), (n3, .inl (cyI, 64, .inl nf)), (n4, .inl (cyJ, (1 + 64 + 400), .inr (.inl wf))), (ht, .inr (0, [.int (nI 128), .int (nI 1500), .ref t1, .ref t2, .ref t3, .ref t4, .int (nI tnc), .int (nI tic)])), (t1, .inl (cyI, (1 + 128 + 1500), .inl tlf)), (t2, .inl (cyI, (1 + 128 + 1500), .inl tof)), (t3, .inl (cyI, 128, .inl tnf)), (t4, .inl (cyJ, (1 + 128 + 1500), .inr (.inl twf))), (av, .inl (cyI, 465, .inl vl)), (au, .inl (cyI, 465, .inl tl)), (ab, .inl (cyI, 64, .inl bb)), (ai, .inl (cyI, 64, .inl tt)), (aw, .inl (cyJ, 465, .inr (.inl ww)))] [(x, .inr (1, [.ref hn, .ref ht, .int tw, .ref av, .ref au, .ref ab, .ref ai, .ref aw])), (hn, .inr (0, [.int (nI 64), .int (nI 400), .ref n1, .ref n2, .ref n3, .ref n4, .int (nI nc), .int (nI ic)])), (n1, .inl (cyI, (1 + 64 + 400), .inl lf)), (n2, .inl (cyI, (1 + 64 + 400), .inl of)), (n3, .inl (cyI, 64, .inl nf)), (n4, .inl (cyJ, (1 + 64 + 400), .inr (.inl wf))), (ht, .inr (0, [.int (nI 128), .int (nI 1500), .ref t1, .ref t2, .ref t3, .ref t4, .int (nI tnc), .int (nI tic)])), (t1, .inl (cyI, (1 + 128 + 1500), .inl tlf)), (t2, .inl (cyI, (1 + 128 + 1500), .inl tof)), (t3, .inl (cyI, 128, .inl tnf)), (t4, .inl (cyJ, (1 + 128 + 1500), .inr (.inl twf))), (av, .inl (cyI, 465, .inl vl)), (au, .inl (cyI, 465, .inl tl)), (ab, .inl (cyI, 64, .inl bb)), (ai, .inl (cyI, 64, .inl tt)), (aw, .inl (cyJ, 465, .inr (.inl ww)))] t) (va_A [(x, .inr (1, [.ref hn, .ref ht, .int tw, .ref av, .ref au, .ref ab, .ref ai, .ref aw])), (hn, .inr (0, [.int (nI 64), .int (nI 400), .ref n1, .ref n2, .ref n3, .ref n4, .int (nI nc), .int (nI ic)])), (n1, .inl (cyI, (1 + 64 + 400), .inl lf)), (n2, .inl (cyI, (1 + 64 + 400), .inl of)), (n3, .inl (cyI, 64, .inl nf)), (n4, .inl (cyJ, (1 + 64 + 400), .inr (.inl wf))), (ht, .inr (0, [.int (nI 128), .int (nI 1500), .ref t1, .ref t2, .ref t3, .ref t4, .int (nI tnc), .int (nI tic)])), (t1, .inl (cyI, (1 + 128 + 1500), .inl tlf)), (t2, .inl (cyI, (1 + 128 + 1500), .inl tof)), (t3, .inl (cyI, 128, .inl tnf)), (t4, .inl (cyJ, (1 + 128 + 1500), .inr (.inl twf))), (av, .inl (cyI, 465, .inl vl)), (au, .inl (cyI, 465, .inl tl)), (ab, .inl (cyI, 64, .inl bb)), (ai, .inl (cyI, 64, .inl tt)), (aw, .inl (cyJ, 465, .inr (.inl ww)))] sz)) 0 0 (va_A [(x, .inr (1, [.ref hn, .ref ht, .int tw, .ref av, .ref au, .ref ab, .ref ai, .ref aw])), (hn, .inr (0, [.int (nI 64), .int (nI 400), .ref n1, .ref n2, .ref n3, .ref n4, .int (nI nc), .int (nI ic)])), (n1, .inl (cyI, (1 + 64 + 400), .inl lf)), (n2, .inl (cyI, (1 + 64 + 400), .inl of)), (n3, .inl (cyI, 64, .inl nf)), (n4, .inl (cyJ, (1 + 64 + 400), .inr (.inl wf))), (ht, .inr (0, [.int (nI 128), .int (nI 1500), .ref t1, .ref t2, .ref t3, .ref t4, .int (nI tnc), .int (nI tic)])), (t1, .inl (cyI, (1 + 128 + 1500), .inl tlf)), (t2, .inl (cyI, (1 + 128 + 1500), .inl tof)), (t3, .inl (cyI, 128, .inl tnf)), (t4, .inl (cyJ, (1 + 128 + 1500), .inr (.inl twf))), (av, .inl (cyI, 465, .inl vl)), (au, .inl (cyI, 465, .inl tl)), (ab, .inl (cyI, 64, .inl bb)), (ai, .inl (cyI, 64, .inl tt)), (aw, .inl (cyJ, 465, .inr (.inl ww)))] sz) := by
  refine x_met RX1 (by decide) rfl rfl (Nat.le_of_ble_eq_true rfl) ?_
  intro p e s m below meth c A Q hAe hQ hx hb hr hlocks hml hnm hts hown hNN hK hsz hP hD hS hA ls hl
  have wf14 := hts (.fieldLink RX1 14 "NetTwin" "net" "LNetTwin$Net;") (by decide +kernel)
  have hiX1 : ∀ w ∈ u_ws RX1 TX1 8, w ∈ wsX1_countTainted := by decide +kernel
  have wn84 := hNN.get (args := ([.ref x] : List Value).toArray) (.fieldLinkNest "NetTwin" 84 "NetTwin$Net" "inputCount" "I" "NetTwin") (by decide +kernel)
  have hiX0 : ∀ w ∈ u_ws RX0 TX0 8, w ∈ wsX1_countTainted := by decide +kernel
  have wf35 := hts (.fieldLink RX1 35 "NetTwin" "inputTaint" "[I") (by decide +kernel)
  have hP : va_P D vwCl [(x, .inr (1, [.ref hn, .ref ht, .int tw, .ref av, .ref au, .ref ab, .ref ai, .ref aw])), (hn, .inr (0, [.int (nI 64), .int (nI 400), .ref n1, .ref n2, .ref n3, .ref n4, .int (nI nc), .int (nI ic)])), (n1, .inl (cyI, (1 + 64 + 400), .inl lf)), (n2, .inl (cyI, (1 + 64 + 400), .inl of)), (n3, .inl (cyI, 64, .inl nf)), (n4, .inl (cyJ, (1 + 64 + 400), .inr (.inl wf))), (ht, .inr (0, [.int (nI 128), .int (nI 1500), .ref t1, .ref t2, .ref t3, .ref t4, .int (nI tnc), .int (nI tic)])), (t1, .inl (cyI, (1 + 128 + 1500), .inl tlf)), (t2, .inl (cyI, (1 + 128 + 1500), .inl tof)), (t3, .inl (cyI, 128, .inl tnf)), (t4, .inl (cyJ, (1 + 128 + 1500), .inr (.inl twf))), (av, .inl (cyI, 465, .inl vl)), (au, .inl (cyI, 465, .inl tl)), (ab, .inl (cyI, 64, .inl bb)), (ai, .inl (cyI, 64, .inl tt)), (aw, .inl (cyJ, 465, .inr (.inl ww)))] s.heap := hP
  have hD : va_D A [(x, .inr (1, [.ref hn, .ref ht, .int tw, .ref av, .ref au, .ref ab, .ref ai, .ref aw])), (hn, .inr (0, [.int (nI 64), .int (nI 400), .ref n1, .ref n2, .ref n3, .ref n4, .int (nI nc), .int (nI ic)])), (n1, .inl (cyI, (1 + 64 + 400), .inl lf)), (n2, .inl (cyI, (1 + 64 + 400), .inl of)), (n3, .inl (cyI, 64, .inl nf)), (n4, .inl (cyJ, (1 + 64 + 400), .inr (.inl wf))), (ht, .inr (0, [.int (nI 128), .int (nI 1500), .ref t1, .ref t2, .ref t3, .ref t4, .int (nI tnc), .int (nI tic)])), (t1, .inl (cyI, (1 + 128 + 1500), .inl tlf)), (t2, .inl (cyI, (1 + 128 + 1500), .inl tof)), (t3, .inl (cyI, 128, .inl tnf)), (t4, .inl (cyJ, (1 + 128 + 1500), .inr (.inl twf))), (av, .inl (cyI, 465, .inl vl)), (au, .inl (cyI, 465, .inl tl)), (ab, .inl (cyI, 64, .inl bb)), (ai, .inl (cyI, 64, .inl tt)), (aw, .inl (cyJ, 465, .inr (.inl ww)))] := hD
  have hl : lv_has ls 3 [(0, .ref x)] := hl
  refine lv_iconst (v := nI 0) hx hb dX1_countTainted_0 (by decide) ?_
  refine lv_istore_n (lv' := [(1, .int (nI 0)), (0, .ref x)]) hx hb dX1_countTainted_1 rfl hl (by decide) rfl (fun ls hl => ?_)
  refine lv_iconst (v := nI 0) hx hb dX1_countTainted_2 (by decide) ?_
  refine lv_istore_n (lv' := [(2, .int (nI 0)), (1, .int (nI 0)), (0, .ref x)]) hx hb dX1_countTainted_3 rfl hl (by decide) rfl (fun ls hl => ?_)
  have lp4 : ∀ n : Nat, ∀ (k : Nat) (ac : Int32) (hk : k ≤ ic) (hac : ac = bx_sum tt k) (hme : ic - k < n) (H : Heap) (locs : List Loc) (ls : Array Slot), va_P D vwCl [(x, .inr (1, [.ref hn, .ref ht, .int tw, .ref av, .ref au, .ref ab, .ref ai, .ref aw])), (hn, .inr (0, [.int (nI 64), .int (nI 400), .ref n1, .ref n2, .ref n3, .ref n4, .int (nI nc), .int (nI ic)])), (n1, .inl (cyI, (1 + 64 + 400), .inl lf)), (n2, .inl (cyI, (1 + 64 + 400), .inl of)), (n3, .inl (cyI, 64, .inl nf)), (n4, .inl (cyJ, (1 + 64 + 400), .inr (.inl wf))), (ht, .inr (0, [.int (nI 128), .int (nI 1500), .ref t1, .ref t2, .ref t3, .ref t4, .int (nI tnc), .int (nI tic)])), (t1, .inl (cyI, (1 + 128 + 1500), .inl tlf)), (t2, .inl (cyI, (1 + 128 + 1500), .inl tof)), (t3, .inl (cyI, 128, .inl tnf)), (t4, .inl (cyJ, (1 + 128 + 1500), .inr (.inl twf))), (av, .inl (cyI, 465, .inl vl)), (au, .inl (cyI, 465, .inl tl)), (ab, .inl (cyI, 64, .inl bb)), (ai, .inl (cyI, 64, .inl tt)), (aw, .inl (cyJ, 465, .inr (.inl ww)))] H → va_D A [(x, .inr (1, [.ref hn, .ref ht, .int tw, .ref av, .ref au, .ref ab, .ref ai, .ref aw])), (hn, .inr (0, [.int (nI 64), .int (nI 400), .ref n1, .ref n2, .ref n3, .ref n4, .int (nI nc), .int (nI ic)])), (n1, .inl (cyI, (1 + 64 + 400), .inl lf)), (n2, .inl (cyI, (1 + 64 + 400), .inl of)), (n3, .inl (cyI, 64, .inl nf)), (n4, .inl (cyJ, (1 + 64 + 400), .inr (.inl wf))), (ht, .inr (0, [.int (nI 128), .int (nI 1500), .ref t1, .ref t2, .ref t3, .ref t4, .int (nI tnc), .int (nI tic)])), (t1, .inl (cyI, (1 + 128 + 1500), .inl tlf)), (t2, .inl (cyI, (1 + 128 + 1500), .inl tof)), (t3, .inl (cyI, 128, .inl tnf)), (t4, .inl (cyJ, (1 + 128 + 1500), .inr (.inl twf))), (av, .inl (cyI, 465, .inl vl)), (au, .inl (cyI, 465, .inl tl)), (ab, .inl (cyI, 64, .inl bb)), (ai, .inl (cyI, 64, .inl tt)), (aw, .inl (cyJ, 465, .inr (.inl ww)))] → va_S A s.heap H locs → lv_has ls 3 [(2, .int (nI k)), (1, .int ac), (0, .ref x)] → W p lch e ({ frames := 0, cells := 0, slots := 0, locals := 0 } : Room) s m ([.ref x] : List Value).toArray below meth c H locs 0 0 Q (F0 m 4 ls []) := by
    intro n
    induction n with
    | zero => intro k ac hk hac hme H locs ls hP hD hS hl; exact absurd hme (Nat.not_lt_zero _)
    | succ n ih =>
      intro k ac hk hac hme H locs ls hP hD hS hl
      refine lv_iload_n hx hb dX1_countTainted_4 rfl (lv_at hl 0 rfl) ?_
      refine lv_aload_n hx hb dX1_countTainted_5 rfl (lv_at hl 2 rfl) ?_
      refine va_get (D := D) (ci := 1) (v := .ref hn) (C := RX1) (T := TX1) (N := 8) hx hb hts hiX1 hown hK hP 0 rfl rfl 0 (by decide) wf14 (fun _ h9 => h9) rfl dX1_countTainted_6 ?_
      refine va_getN (D := D) (ci := 0) (v := .int (nI ic)) (C := RX0) (T := TX0) (N := 8) hx hb hts hiX0 hown hK hP 1 rfl rfl 7 (by decide) wn84 (fun _ h9 => h9) rfl dX1_countTainted_9 ?_
      refine lv_icmp_ge (tgt := 30) hx hb dX1_countTainted_12 (by decide) (fun c12 => ?_) (fun c12 => ?_)
      · have c12 := (nI_leI (by omega) (by omega)).mp c12
        refine lv_iload_n hx hb dX1_countTainted_30 rfl (lv_at hl 1 rfl) ?_
        have hki : k = ic := by omega
        rw [hki] at hac
        exact x_iret hQ hAe hx hb hr hlocks (rfl) hS hK (Nat.le_of_ble_eq_true rfl) (Nat.le_of_ble_eq_true rfl) dX1_countTainted_31 () hP hD (hac)
      · have c12 := mt (nI_leI (by omega) (by omega)).mpr c12
        refine lv_iload_n hx hb dX1_countTainted_15 rfl (lv_at hl 1 rfl) ?_
        refine lv_aload_n hx hb dX1_countTainted_16 rfl (lv_at hl 2 rfl) ?_
        refine va_get (D := D) (ci := 1) (v := .ref ai) (C := RX1) (T := TX1) (N := 8) hx hb hts hiX1 hown hK hP 0 rfl rfl 6 (by decide) wf35 (fun _ h9 => h9) rfl dX1_countTainted_17 ?_
        refine lv_iload_n hx hb dX1_countTainted_20 rfl (lv_at hl 0 rfl) ?_
        refine x_iald hx hb hK hP 14 0 rfl rfl (by omega) (by omega) dX1_countTainted_21 ?_
        refine lv_iadd hx hb dX1_countTainted_22 ?_
        refine lv_istore_n (lv' := [(1, .int (ac + (tt k))), (2, .int (nI k)), (0, .ref x)]) hx hb dX1_countTainted_23 rfl hl (by decide) rfl (fun ls hl => ?_)
        refine lv_iinc (v := nI (k + 1)) (lv' := [(2, .int (nI (k + 1))), (1, .int (ac + (tt k))), (0, .ref x)]) hx hb dX1_countTainted_24 hl (k := 1) rfl (n_inc _) (by decide) rfl (fun ls hl => ?_)
        refine lv_goto (tgt := 4) hx hb dX1_countTainted_27 (by decide) ?_
        exact ih (k + 1) (ac + tt k) (by omega) (by rw [hac]; rfl) (by omega) _ _ _ hP hD hS (lv_sub hl [0, 1, 2] rfl)
  exact lp4 _ 0 (nI 0) (Nat.zero_le _) rfl (Nat.lt_succ_self _) _ _ _ hP hD hS (lv_sub hl [0, 1, 2] rfl)
set_option maxHeartbeats 4000000 in
set_option maxRecDepth 100000 in
theorem c_X1_spreadNet (lch : Launch) (D : va_G) (cyI cyJ : ClassId) (sz : Nat) (x : Nat) (hn : Nat) (n1 : Nat) (n2 : Nat) (n3 : Nat) (n4 : Nat) (ht : Nat) (t1 : Nat) (t2 : Nat) (t3 : Nat) (t4 : Nat) (av : Nat) (au : Nat) (ab : Nat) (ai : Nat) (aw : Nat) (lf : Nat → Int32) (of : Nat → Int32) (nf : Nat → Int32) (wf : Nat → Int64) (ic : Nat) (tlf : Nat → Int32) (tof : Nat → Int32) (tnf : Nat → Int32) (twf : Nat → Int64) (tnc : Nat) (tic : Nat) (tw : Int32) (vl : Nat → Int32) (tl : Nat → Int32) (bb : Nat → Int32) (tt : Nat → Int32) (ww : Nat → Int64) (l : NT) (inp : Nat → Nat) (hok : nOK l) (hrp : rpN l lf of) (hg : nGates l + 1 + ic = l.length) (hgM : nGates l ≤ 400) (hic : ic ≤ 64) (hin : ∀ i, i < ic → nf i = nI (inp i) ∧ inp i < l.length) : Met lch yX1_spreadNet wsX1_spreadNet ({ frames := 2, cells := 0, slots := 0, locals := 44 } : Room) (va_Pc [.ref x] (xA D (xTy cyI cyJ) sz [(x, .inr (1, [.ref hn, .ref ht, .int tw, .ref av, .ref au, .ref ab, .ref ai, .ref aw])), (hn, .inr (0, [.int (nI 64), .int (nI 400), .ref n1, .ref n2, .ref n3, .ref n4, .int (nI l.length), .int (nI ic)])), (n1, .inl (cyI, (1 + 64 + 400), .inl lf)), (n2, .inl (cyI, (1 + 64 + 400), .inl of)), (n3, .inl (cyI, 64, .inl nf)), (n4, .inl (cyJ, (1 + 64 + 400), .inr (.inl wf))), (ht, .inr (0, [.int (nI 128), .int (nI 1500), .ref t1, .ref t2, .ref t3, .ref t4, .int (nI tnc), .int (nI tic)])), (t1, .inl (cyI, (1 + 128 + 1500), .inl tlf)), (t2, .inl (cyI, (1 + 128 + 1500), .inl tof)), (t3, .inl (cyI, 128, .inl tnf)), (t4, .inl (cyJ, (1 + 128 + 1500), .inr (.inl twf))), (av, .inl (cyI, 465, .inl vl)), (au, .inl (cyI, 465, .inl tl)), (ab, .inl (cyI, 64, .inl bb)), (ai, .inl (cyI, 64, .inl tt)), (aw, .inl (cyJ, 465, .inr (.inl ww)))])) (va_Qv (fun (u : Unit) => True) (fun (u : Unit) t => xB D (xTy cyI cyJ) sz [(x, .inr (1, [.ref hn, .ref ht, .int tw, .ref av, .ref au, .ref ab, .ref ai, .ref aw])), (hn, .inr (0, [.int (nI 64), .int (nI 400), .ref n1, .ref n2, .ref n3, .ref n4, .int (nI l.length), .int (nI ic)])), (n1, .inl (cyI, (1 + 64 + 400), .inl lf)), (n2, .inl (cyI, (1 + 64 + 400), .inl of)), (n3, .inl (cyI, 64, .inl nf)), (n4, .inl (cyJ, (1 + 64 + 400), .inr (.inl wf))), (ht, .inr (0, [.int (nI 128), .int (nI 1500), .ref t1, .ref t2, .ref t3, .ref t4, .int (nI tnc), .int (nI tic)])), (t1, .inl (cyI, (1 + 128 + 1500), .inl tlf)), (t2, .inl (cyI, (1 + 128 + 1500), .inl tof)), (t3, .inl (cyI, 128, .inl tnf)), (t4, .inl (cyJ, (1 + 128 + 1500), .inr (.inl twf))), (av, .inl (cyI, 465, .inl vl)), (au, .inl (cyI, 465, .inl tl)), (ab, .inl (cyI, 64, .inl bb)), (ai, .inl (cyI, 64, .inl tt)), (aw, .inl (cyJ, 465, .inr (.inl ww)))] [(x, .inr (1, [.ref hn, .ref ht, .int tw, .ref av, .ref au, .ref ab, .ref ai, .ref aw])), (hn, .inr (0, [.int (nI 64), .int (nI 400), .ref n1, .ref n2, .ref n3, .ref n4, .int (nI l.length), .int (nI ic)])), (n1, .inl (cyI, (1 + 64 + 400), .inl lf)), (n2, .inl (cyI, (1 + 64 + 400), .inl of)), (n3, .inl (cyI, 64, .inl nf)), (n4, .inl (cyJ, (1 + 64 + 400), .inr (.inl (sprd l (setW inp bb wf ic) l.length)))), (ht, .inr (0, [.int (nI 128), .int (nI 1500), .ref t1, .ref t2, .ref t3, .ref t4, .int (nI tnc), .int (nI tic)])), (t1, .inl (cyI, (1 + 128 + 1500), .inl tlf)), (t2, .inl (cyI, (1 + 128 + 1500), .inl tof)), (t3, .inl (cyI, 128, .inl tnf)), (t4, .inl (cyJ, (1 + 128 + 1500), .inr (.inl twf))), (av, .inl (cyI, 465, .inl vl)), (au, .inl (cyI, 465, .inl tl)), (ab, .inl (cyI, 64, .inl bb)), (ai, .inl (cyI, 64, .inl tt)), (aw, .inl (cyJ, 465, .inr (.inl ww)))] t) (va_A [(x, .inr (1, [.ref hn, .ref ht, .int tw, .ref av, .ref au, .ref ab, .ref ai, .ref aw])), (hn, .inr (0, [.int (nI 64), .int (nI 400), .ref n1, .ref n2, .ref n3, .ref n4, .int (nI l.length), .int (nI ic)])), (n1, .inl (cyI, (1 + 64 + 400), .inl lf)), (n2, .inl (cyI, (1 + 64 + 400), .inl of)), (n3, .inl (cyI, 64, .inl nf)), (n4, .inl (cyJ, (1 + 64 + 400), .inr (.inl wf))), (ht, .inr (0, [.int (nI 128), .int (nI 1500), .ref t1, .ref t2, .ref t3, .ref t4, .int (nI tnc), .int (nI tic)])), (t1, .inl (cyI, (1 + 128 + 1500), .inl tlf)), (t2, .inl (cyI, (1 + 128 + 1500), .inl tof)), (t3, .inl (cyI, 128, .inl tnf)), (t4, .inl (cyJ, (1 + 128 + 1500), .inr (.inl twf))), (av, .inl (cyI, 465, .inl vl)), (au, .inl (cyI, 465, .inl tl)), (ab, .inl (cyI, 64, .inl bb)), (ai, .inl (cyI, 64, .inl tt)), (aw, .inl (cyJ, 465, .inr (.inl ww)))] sz)) 0 0 (va_A [(x, .inr (1, [.ref hn, .ref ht, .int tw, .ref av, .ref au, .ref ab, .ref ai, .ref aw])), (hn, .inr (0, [.int (nI 64), .int (nI 400), .ref n1, .ref n2, .ref n3, .ref n4, .int (nI l.length), .int (nI ic)])), (n1, .inl (cyI, (1 + 64 + 400), .inl lf)), (n2, .inl (cyI, (1 + 64 + 400), .inl of)), (n3, .inl (cyI, 64, .inl nf)), (n4, .inl (cyJ, (1 + 64 + 400), .inr (.inl wf))), (ht, .inr (0, [.int (nI 128), .int (nI 1500), .ref t1, .ref t2, .ref t3, .ref t4, .int (nI tnc), .int (nI tic)])), (t1, .inl (cyI, (1 + 128 + 1500), .inl tlf)), (t2, .inl (cyI, (1 + 128 + 1500), .inl tof)), (t3, .inl (cyI, 128, .inl tnf)), (t4, .inl (cyJ, (1 + 128 + 1500), .inr (.inl twf))), (av, .inl (cyI, 465, .inl vl)), (au, .inl (cyI, 465, .inl tl)), (ab, .inl (cyI, 64, .inl bb)), (ai, .inl (cyI, 64, .inl tt)), (aw, .inl (cyJ, 465, .inr (.inl ww)))] sz) := by
  refine x_met RX1 (by decide) rfl rfl (Nat.le_of_ble_eq_true rfl) ?_
  intro p e s m below meth c A Q hAe hQ hx hb hr hlocks hml hnm hts hown hNN hK hsz hP hD hS hA ls hl
  have wf14 := hts (.fieldLink RX1 14 "NetTwin" "net" "LNetTwin$Net;") (by decide +kernel)
  have hiX1 : ∀ w ∈ u_ws RX1 TX1 8, w ∈ wsX1_spreadNet := by decide +kernel
  have wn84 := hNN.get (args := ([.ref x] : List Value).toArray) (.fieldLinkNest "NetTwin" 84 "NetTwin$Net" "inputCount" "I" "NetTwin") (by decide +kernel)
  have hiX0 : ∀ w ∈ u_ws RX0 TX0 8, w ∈ wsX1_spreadNet := by decide +kernel
  have wzX0 := hts (.initialized RX0) (by decide +kernel)
  have wm_yX0_spread := hts (.instanceMethod yX0_spread) (by decide +kernel)
  have we_yX0_spread := hts (.selects RX0 yX0_spread yX0_spread) (by decide +kernel)
  have wn129 := hNN.get (args := ([.ref x] : List Value).toArray) (.fieldLinkNest "NetTwin" 129 "NetTwin$Net" "word" "[J" "NetTwin") (by decide +kernel)
  have wn126 := hNN.get (args := ([.ref x] : List Value).toArray) (.fieldLinkNest "NetTwin" 126 "NetTwin$Net" "inputNode" "[I" "NetTwin") (by decide +kernel)
  have wf32 := hts (.fieldLink RX1 32 "NetTwin" "inputBit" "[I") (by decide +kernel)
  have hP : va_P D vwCl [(x, .inr (1, [.ref hn, .ref ht, .int tw, .ref av, .ref au, .ref ab, .ref ai, .ref aw])), (hn, .inr (0, [.int (nI 64), .int (nI 400), .ref n1, .ref n2, .ref n3, .ref n4, .int (nI l.length), .int (nI ic)])), (n1, .inl (cyI, (1 + 64 + 400), .inl lf)), (n2, .inl (cyI, (1 + 64 + 400), .inl of)), (n3, .inl (cyI, 64, .inl nf)), (n4, .inl (cyJ, (1 + 64 + 400), .inr (.inl wf))), (ht, .inr (0, [.int (nI 128), .int (nI 1500), .ref t1, .ref t2, .ref t3, .ref t4, .int (nI tnc), .int (nI tic)])), (t1, .inl (cyI, (1 + 128 + 1500), .inl tlf)), (t2, .inl (cyI, (1 + 128 + 1500), .inl tof)), (t3, .inl (cyI, 128, .inl tnf)), (t4, .inl (cyJ, (1 + 128 + 1500), .inr (.inl twf))), (av, .inl (cyI, 465, .inl vl)), (au, .inl (cyI, 465, .inl tl)), (ab, .inl (cyI, 64, .inl bb)), (ai, .inl (cyI, 64, .inl tt)), (aw, .inl (cyJ, 465, .inr (.inl ww)))] s.heap := hP
  have hD : va_D A [(x, .inr (1, [.ref hn, .ref ht, .int tw, .ref av, .ref au, .ref ab, .ref ai, .ref aw])), (hn, .inr (0, [.int (nI 64), .int (nI 400), .ref n1, .ref n2, .ref n3, .ref n4, .int (nI l.length), .int (nI ic)])), (n1, .inl (cyI, (1 + 64 + 400), .inl lf)), (n2, .inl (cyI, (1 + 64 + 400), .inl of)), (n3, .inl (cyI, 64, .inl nf)), (n4, .inl (cyJ, (1 + 64 + 400), .inr (.inl wf))), (ht, .inr (0, [.int (nI 128), .int (nI 1500), .ref t1, .ref t2, .ref t3, .ref t4, .int (nI tnc), .int (nI tic)])), (t1, .inl (cyI, (1 + 128 + 1500), .inl tlf)), (t2, .inl (cyI, (1 + 128 + 1500), .inl tof)), (t3, .inl (cyI, 128, .inl tnf)), (t4, .inl (cyJ, (1 + 128 + 1500), .inr (.inl twf))), (av, .inl (cyI, 465, .inl vl)), (au, .inl (cyI, 465, .inl tl)), (ab, .inl (cyI, 64, .inl bb)), (ai, .inl (cyI, 64, .inl tt)), (aw, .inl (cyJ, 465, .inr (.inl ww)))] := hD
  have hl : lv_has ls 2 [(0, .ref x)] := hl
  refine lv_iconst (v := nI 0) hx hb dX1_spreadNet_0 (by decide) ?_
  refine lv_istore_n (lv' := [(1, .int (nI 0)), (0, .ref x)]) hx hb dX1_spreadNet_1 rfl hl (by decide) rfl (fun ls hl => ?_)
  have lp2 : ∀ n : Nat, ∀ (k : Nat) (w : Nat → Int64) (hk : k ≤ ic) (hw : w = setW inp bb wf k) (hme : ic - k < n) (H : Heap) (locs : List Loc) (ls : Array Slot), va_P D vwCl [(x, .inr (1, [.ref hn, .ref ht, .int tw, .ref av, .ref au, .ref ab, .ref ai, .ref aw])), (hn, .inr (0, [.int (nI 64), .int (nI 400), .ref n1, .ref n2, .ref n3, .ref n4, .int (nI l.length), .int (nI ic)])), (n1, .inl (cyI, (1 + 64 + 400), .inl lf)), (n2, .inl (cyI, (1 + 64 + 400), .inl of)), (n3, .inl (cyI, 64, .inl nf)), (n4, .inl (cyJ, (1 + 64 + 400), .inr (.inl w))), (ht, .inr (0, [.int (nI 128), .int (nI 1500), .ref t1, .ref t2, .ref t3, .ref t4, .int (nI tnc), .int (nI tic)])), (t1, .inl (cyI, (1 + 128 + 1500), .inl tlf)), (t2, .inl (cyI, (1 + 128 + 1500), .inl tof)), (t3, .inl (cyI, 128, .inl tnf)), (t4, .inl (cyJ, (1 + 128 + 1500), .inr (.inl twf))), (av, .inl (cyI, 465, .inl vl)), (au, .inl (cyI, 465, .inl tl)), (ab, .inl (cyI, 64, .inl bb)), (ai, .inl (cyI, 64, .inl tt)), (aw, .inl (cyJ, 465, .inr (.inl ww)))] H → va_D A [(x, .inr (1, [.ref hn, .ref ht, .int tw, .ref av, .ref au, .ref ab, .ref ai, .ref aw])), (hn, .inr (0, [.int (nI 64), .int (nI 400), .ref n1, .ref n2, .ref n3, .ref n4, .int (nI l.length), .int (nI ic)])), (n1, .inl (cyI, (1 + 64 + 400), .inl lf)), (n2, .inl (cyI, (1 + 64 + 400), .inl of)), (n3, .inl (cyI, 64, .inl nf)), (n4, .inl (cyJ, (1 + 64 + 400), .inr (.inl w))), (ht, .inr (0, [.int (nI 128), .int (nI 1500), .ref t1, .ref t2, .ref t3, .ref t4, .int (nI tnc), .int (nI tic)])), (t1, .inl (cyI, (1 + 128 + 1500), .inl tlf)), (t2, .inl (cyI, (1 + 128 + 1500), .inl tof)), (t3, .inl (cyI, 128, .inl tnf)), (t4, .inl (cyJ, (1 + 128 + 1500), .inr (.inl twf))), (av, .inl (cyI, 465, .inl vl)), (au, .inl (cyI, 465, .inl tl)), (ab, .inl (cyI, 64, .inl bb)), (ai, .inl (cyI, 64, .inl tt)), (aw, .inl (cyJ, 465, .inr (.inl ww)))] → va_S A s.heap H locs → lv_has ls 2 [(1, .int (nI k)), (0, .ref x)] → W p lch e ({ frames := 2, cells := 0, slots := 0, locals := 44 } : Room) s m ([.ref x] : List Value).toArray below meth c H locs 0 0 Q (F0 m 2 ls []) := by
    intro n
    induction n with
    | zero => intro k w hk hw hme H locs ls hP hD hS hl; exact absurd hme (Nat.not_lt_zero _)
    | succ n ih =>
      intro k w hk hw hme H locs ls hP hD hS hl
      refine lv_iload_n hx hb dX1_spreadNet_2 rfl (lv_at hl 0 rfl) ?_
      refine lv_aload_n hx hb dX1_spreadNet_3 rfl (lv_at hl 1 rfl) ?_
      refine va_get (D := D) (ci := 1) (v := .ref hn) (C := RX1) (T := TX1) (N := 8) hx hb hts hiX1 hown hK hP 0 rfl rfl 0 (by decide) wf14 (fun _ h9 => h9) rfl dX1_spreadNet_4 ?_
      refine va_getN (D := D) (ci := 0) (v := .int (nI ic)) (C := RX0) (T := TX0) (N := 8) hx hb hts hiX0 hown hK hP 1 rfl rfl 7 (by decide) wn84 (fun _ h9 => h9) rfl dX1_spreadNet_7 ?_
      refine lv_icmp_ge (tgt := 45) hx hb dX1_spreadNet_10 (by decide) (fun c10 => ?_) (fun c10 => ?_)
      · have c10 := (nI_leI (by omega) (by omega)).mp c10
        refine lv_aload_n hx hb dX1_spreadNet_45 rfl (lv_at hl 1 rfl) ?_
        refine va_get (D := D) (ci := 1) (v := .ref hn) (C := RX1) (T := TX1) (N := 8) hx hb hts hiX1 hown hK hP 0 rfl rfl 0 (by decide) wf14 (fun _ h9 => h9) rfl dX1_spreadNet_46 ?_
        have hki : k = ic := by omega
        rw [hki] at hw
        refine x_callv (wc := [(hn, .inr (0, [.int (nI 64), .int (nI 400), .ref n1, .ref n2, .ref n3, .ref n4, .int (nI l.length), .int (nI ic)])), (n1, .inl (cyI, (1 + 64 + 400), .inl lf)), (n2, .inl (cyI, (1 + 64 + 400), .inl of)), (n3, .inl (cyI, 64, .inl nf)), (n4, .inl (cyJ, (1 + 64 + 400), .inr (.inl w)))]) (wr := [(x, .inr (1, [.ref hn, .ref ht, .int tw, .ref av, .ref au, .ref ab, .ref ai, .ref aw])), (ht, .inr (0, [.int (nI 128), .int (nI 1500), .ref t1, .ref t2, .ref t3, .ref t4, .int (nI tnc), .int (nI tic)])), (t1, .inl (cyI, (1 + 128 + 1500), .inl tlf)), (t2, .inl (cyI, (1 + 128 + 1500), .inl tof)), (t3, .inl (cyI, 128, .inl tnf)), (t4, .inl (cyJ, (1 + 128 + 1500), .inr (.inl twf))), (av, .inl (cyI, 465, .inl vl)), (au, .inl (cyI, 465, .inl tl)), (ab, .inl (cyI, 64, .inl bb)), (ai, .inl (cyI, 64, .inl tt)), (aw, .inl (cyJ, 465, .inr (.inl ww)))]) (w2 := fun (u : Unit) => [(x, .inr (1, [.ref hn, .ref ht, .int tw, .ref av, .ref au, .ref ab, .ref ai, .ref aw])), (hn, .inr (0, [.int (nI 64), .int (nI 400), .ref n1, .ref n2, .ref n3, .ref n4, .int (nI l.length), .int (nI ic)])), (n1, .inl (cyI, (1 + 64 + 400), .inl lf)), (n2, .inl (cyI, (1 + 64 + 400), .inl of)), (n3, .inl (cyI, 64, .inl nf)), (n4, .inl (cyJ, (1 + 64 + 400), .inr (.inl (sprd l w l.length)))), (ht, .inr (0, [.int (nI 128), .int (nI 1500), .ref t1, .ref t2, .ref t3, .ref t4, .int (nI tnc), .int (nI tic)])), (t1, .inl (cyI, (1 + 128 + 1500), .inl tlf)), (t2, .inl (cyI, (1 + 128 + 1500), .inl tof)), (t3, .inl (cyI, 128, .inl tnf)), (t4, .inl (cyJ, (1 + 128 + 1500), .inr (.inl twf))), (av, .inl (cyI, 465, .inl vl)), (au, .inl (cyI, 465, .inl tl)), (ab, .inl (cyI, 64, .inl bb)), (ai, .inl (cyI, 64, .inl tt)), (aw, .inl (cyJ, 465, .inr (.inl ww)))]) [1, 2, 3, 4, 5] [0, 6, 7, 8, 9, 10, 11, 12, 13, 14, 15] [0, 11, 12, 13, 14, 15, 1, 2, 3, 4, 5, 6, 7, 8, 9, 10] (va_runVN (As := []) (rest := []) ⟨hx, hb, hml, hown, hts⟩ (c_X0_spread lch D cyI cyJ _ hn n1 n2 n3 n4 64 400 lf of nf w ic l (by first | assumption | omega) (by first | assumption | omega) (by first | assumption | omega) (by first | assumption | omega) (by first | assumption | omega) (by first | assumption | omega)) ⟨va_cnB 0 hts gX1_spreadNet_X0_spread_n111 rfl rfl rfl (hNN.at (.methodLinkNest "NetTwin" 111 yX0_spread "NetTwin") (by decide +kernel)) wzX0 (by decide +kernel) ⟨Nat.le_of_ble_eq_true rfl, Nat.le_of_ble_eq_true rfl⟩, wm_yX0_spread, we_yX0_spread⟩ (x_preV hK hNN (hP.sub (ws' := [(hn, .inr (0, [.int (nI 64), .int (nI 400), .ref n1, .ref n2, .ref n3, .ref n4, .int (nI l.length), .int (nI ic)])), (n1, .inl (cyI, (1 + 64 + 400), .inl lf)), (n2, .inl (cyI, (1 + 64 + 400), .inl of)), (n3, .inl (cyI, 64, .inl nf)), (n4, .inl (cyJ, (1 + 64 + 400), .inr (.inl w)))]) [1, 2, 3, 4, 5] rfl) (hD.sub (ws' := [(hn, .inr (0, [.int (nI 64), .int (nI 400), .ref n1, .ref n2, .ref n3, .ref n4, .int (nI l.length), .int (nI ic)])), (n1, .inl (cyI, (1 + 64 + 400), .inl lf)), (n2, .inl (cyI, (1 + 64 + 400), .inl of)), (n3, .inl (cyI, 64, .inl nf)), (n4, .inl (cyJ, (1 + 64 + 400), .inr (.inl w)))]) [1, 2, 3, 4, 5] (by decide) rfl) rfl rfl (ci := 0) (q0 := 0) rfl rfl rfl) rfl rfl hl.1 rfl (lv_room (Nat.le_of_ble_eq_true rfl)) dX1_spreadNet_49 ⟨Nat.le_of_ble_eq_true rfl, Nat.le_of_ble_eq_true rfl⟩) rfl hP hD hS hA rfl rfl (by decide) (by decide) (fun _ => rfl) (by decide) (fun u49 H locs hw49 hP hD hS hz49 => ?_)
        have hP : va_P D vwCl [(x, .inr (1, [.ref hn, .ref ht, .int tw, .ref av, .ref au, .ref ab, .ref ai, .ref aw])), (hn, .inr (0, [.int (nI 64), .int (nI 400), .ref n1, .ref n2, .ref n3, .ref n4, .int (nI l.length), .int (nI ic)])), (n1, .inl (cyI, (1 + 64 + 400), .inl lf)), (n2, .inl (cyI, (1 + 64 + 400), .inl of)), (n3, .inl (cyI, 64, .inl nf)), (n4, .inl (cyJ, (1 + 64 + 400), .inr (.inl (sprd l w l.length)))), (ht, .inr (0, [.int (nI 128), .int (nI 1500), .ref t1, .ref t2, .ref t3, .ref t4, .int (nI tnc), .int (nI tic)])), (t1, .inl (cyI, (1 + 128 + 1500), .inl tlf)), (t2, .inl (cyI, (1 + 128 + 1500), .inl tof)), (t3, .inl (cyI, 128, .inl tnf)), (t4, .inl (cyJ, (1 + 128 + 1500), .inr (.inl twf))), (av, .inl (cyI, 465, .inl vl)), (au, .inl (cyI, 465, .inl tl)), (ab, .inl (cyI, 64, .inl bb)), (ai, .inl (cyI, 64, .inl tt)), (aw, .inl (cyJ, 465, .inr (.inl ww)))] H := hP
        have hD : va_D A [(x, .inr (1, [.ref hn, .ref ht, .int tw, .ref av, .ref au, .ref ab, .ref ai, .ref aw])), (hn, .inr (0, [.int (nI 64), .int (nI 400), .ref n1, .ref n2, .ref n3, .ref n4, .int (nI l.length), .int (nI ic)])), (n1, .inl (cyI, (1 + 64 + 400), .inl lf)), (n2, .inl (cyI, (1 + 64 + 400), .inl of)), (n3, .inl (cyI, 64, .inl nf)), (n4, .inl (cyJ, (1 + 64 + 400), .inr (.inl (sprd l w l.length)))), (ht, .inr (0, [.int (nI 128), .int (nI 1500), .ref t1, .ref t2, .ref t3, .ref t4, .int (nI tnc), .int (nI tic)])), (t1, .inl (cyI, (1 + 128 + 1500), .inl tlf)), (t2, .inl (cyI, (1 + 128 + 1500), .inl tof)), (t3, .inl (cyI, 128, .inl tnf)), (t4, .inl (cyJ, (1 + 128 + 1500), .inr (.inl twf))), (av, .inl (cyI, 465, .inl vl)), (au, .inl (cyI, 465, .inl tl)), (ab, .inl (cyI, 64, .inl bb)), (ai, .inl (cyI, 64, .inl tt)), (aw, .inl (cyJ, 465, .inr (.inl ww)))] := hD
        refine W.widen (k := 0) (n := 0) (Nat.le_refl _) (Nat.le_refl _) ?_
        rw [hw] at hP hD
        exact x_vret hQ hAe hx hb hr hlocks hS hK (Nat.le_of_ble_eq_true rfl) (Nat.le_of_ble_eq_true rfl) dX1_spreadNet_52 () hP hD (trivial)
      · have c10 := mt (nI_leI (by omega) (by omega)).mpr c10
        have hj := hin k (by omega)
        refine lv_aload_n hx hb dX1_spreadNet_13 rfl (lv_at hl 1 rfl) ?_
        refine va_get (D := D) (ci := 1) (v := .ref hn) (C := RX1) (T := TX1) (N := 8) hx hb hts hiX1 hown hK hP 0 rfl rfl 0 (by decide) wf14 (fun _ h9 => h9) rfl dX1_spreadNet_14 ?_
        refine va_getN (D := D) (ci := 0) (v := .ref n4) (C := RX0) (T := TX0) (N := 8) hx hb hts hiX0 hown hK hP 1 rfl rfl 5 (by decide) wn129 (fun _ h9 => h9) rfl dX1_spreadNet_17 ?_
        refine lv_aload_n hx hb dX1_spreadNet_20 rfl (lv_at hl 1 rfl) ?_
        refine va_get (D := D) (ci := 1) (v := .ref hn) (C := RX1) (T := TX1) (N := 8) hx hb hts hiX1 hown hK hP 0 rfl rfl 0 (by decide) wf14 (fun _ h9 => h9) rfl dX1_spreadNet_21 ?_
        refine va_getN (D := D) (ci := 0) (v := .ref n3) (C := RX0) (T := TX0) (N := 8) hx hb hts hiX0 hown hK hP 1 rfl rfl 4 (by decide) wn126 (fun _ h9 => h9) rfl dX1_spreadNet_24 ?_
        refine lv_iload_n hx hb dX1_spreadNet_27 rfl (lv_at hl 0 rfl) ?_
        refine x_iald hx hb hK hP 4 0 rfl rfl (by omega) (by omega) dX1_spreadNet_28 ?_
        refine x_top (show nf k = nI (inp k) from hj.1) ?_
        refine lv_aload_n hx hb dX1_spreadNet_29 rfl (lv_at hl 1 rfl) ?_
        refine va_get (D := D) (ci := 1) (v := .ref ab) (C := RX1) (T := TX1) (N := 8) hx hb hts hiX1 hown hK hP 0 rfl rfl 5 (by decide) wf32 (fun _ h9 => h9) rfl dX1_spreadNet_30 ?_
        refine lv_iload_n hx hb dX1_spreadNet_33 rfl (lv_at hl 0 rfl) ?_
        refine x_iald hx hb hK hP 13 0 rfl rfl (by omega) (by omega) dX1_spreadNet_34 ?_
        refine x_calll (wc := []) (wr := [(x, .inr (1, [.ref hn, .ref ht, .int tw, .ref av, .ref au, .ref ab, .ref ai, .ref aw])), (hn, .inr (0, [.int (nI 64), .int (nI 400), .ref n1, .ref n2, .ref n3, .ref n4, .int (nI l.length), .int (nI ic)])), (n1, .inl (cyI, (1 + 64 + 400), .inl lf)), (n2, .inl (cyI, (1 + 64 + 400), .inl of)), (n3, .inl (cyI, 64, .inl nf)), (n4, .inl (cyJ, (1 + 64 + 400), .inr (.inl w))), (ht, .inr (0, [.int (nI 128), .int (nI 1500), .ref t1, .ref t2, .ref t3, .ref t4, .int (nI tnc), .int (nI tic)])), (t1, .inl (cyI, (1 + 128 + 1500), .inl tlf)), (t2, .inl (cyI, (1 + 128 + 1500), .inl tof)), (t3, .inl (cyI, 128, .inl tnf)), (t4, .inl (cyJ, (1 + 128 + 1500), .inr (.inl twf))), (av, .inl (cyI, 465, .inl vl)), (au, .inl (cyI, 465, .inl tl)), (ab, .inl (cyI, 64, .inl bb)), (ai, .inl (cyI, 64, .inl tt)), (aw, .inl (cyJ, 465, .inr (.inl ww)))]) (w2 := fun (u : Unit) => [(x, .inr (1, [.ref hn, .ref ht, .int tw, .ref av, .ref au, .ref ab, .ref ai, .ref aw])), (hn, .inr (0, [.int (nI 64), .int (nI 400), .ref n1, .ref n2, .ref n3, .ref n4, .int (nI l.length), .int (nI ic)])), (n1, .inl (cyI, (1 + 64 + 400), .inl lf)), (n2, .inl (cyI, (1 + 64 + 400), .inl of)), (n3, .inl (cyI, 64, .inl nf)), (n4, .inl (cyJ, (1 + 64 + 400), .inr (.inl w))), (ht, .inr (0, [.int (nI 128), .int (nI 1500), .ref t1, .ref t2, .ref t3, .ref t4, .int (nI tnc), .int (nI tic)])), (t1, .inl (cyI, (1 + 128 + 1500), .inl tlf)), (t2, .inl (cyI, (1 + 128 + 1500), .inl tof)), (t3, .inl (cyI, 128, .inl tnf)), (t4, .inl (cyJ, (1 + 128 + 1500), .inr (.inl twf))), (av, .inl (cyI, 465, .inl vl)), (au, .inl (cyI, 465, .inl tl)), (ab, .inl (cyI, 64, .inl bb)), (ai, .inl (cyI, 64, .inl tt)), (aw, .inl (cyJ, 465, .inr (.inl ww)))]) [] [0, 1, 2, 3, 4, 5, 6, 7, 8, 9, 10, 11, 12, 13, 14, 15] [0, 1, 2, 3, 4, 5, 6, 7, 8, 9, 10, 11, 12, 13, 14, 15] (va_runS (As := [.int (bb k)]) (rest := [.int (nI (inp k)), .ref n4]) ⟨hx, hb, hml, hown, hts⟩ (c_X1_wordOfBit lch D cyI cyJ _ (bb k) ) (va_cwS 1 hts gX1_spreadNet_X1_wordOfBit rfl rfl rfl (by decide +kernel) ⟨Nat.le_of_ble_eq_true rfl, Nat.le_of_ble_eq_true rfl⟩) (x_pre hK hNN (hP.sub (ws' := []) [] rfl) (hD.sub (ws' := []) [] (by decide) rfl) rfl rfl) rfl rfl hl.1 rfl (lv_room (Nat.le_of_ble_eq_true rfl)) dX1_spreadNet_35 ⟨Nat.le_of_ble_eq_true rfl, Nat.le_of_ble_eq_true rfl⟩) rfl hP hD hS hA rfl rfl (by decide) (by decide) (fun _ => rfl) (by decide) (fun r35 u35 H locs hw35 hP hD hS hz35 => ?_)
        have hP : va_P D vwCl [(x, .inr (1, [.ref hn, .ref ht, .int tw, .ref av, .ref au, .ref ab, .ref ai, .ref aw])), (hn, .inr (0, [.int (nI 64), .int (nI 400), .ref n1, .ref n2, .ref n3, .ref n4, .int (nI l.length), .int (nI ic)])), (n1, .inl (cyI, (1 + 64 + 400), .inl lf)), (n2, .inl (cyI, (1 + 64 + 400), .inl of)), (n3, .inl (cyI, 64, .inl nf)), (n4, .inl (cyJ, (1 + 64 + 400), .inr (.inl w))), (ht, .inr (0, [.int (nI 128), .int (nI 1500), .ref t1, .ref t2, .ref t3, .ref t4, .int (nI tnc), .int (nI tic)])), (t1, .inl (cyI, (1 + 128 + 1500), .inl tlf)), (t2, .inl (cyI, (1 + 128 + 1500), .inl tof)), (t3, .inl (cyI, 128, .inl tnf)), (t4, .inl (cyJ, (1 + 128 + 1500), .inr (.inl twf))), (av, .inl (cyI, 465, .inl vl)), (au, .inl (cyI, 465, .inl tl)), (ab, .inl (cyI, 64, .inl bb)), (ai, .inl (cyI, 64, .inl tt)), (aw, .inl (cyJ, 465, .inr (.inl ww)))] H := hP
        have hD : va_D A [(x, .inr (1, [.ref hn, .ref ht, .int tw, .ref av, .ref au, .ref ab, .ref ai, .ref aw])), (hn, .inr (0, [.int (nI 64), .int (nI 400), .ref n1, .ref n2, .ref n3, .ref n4, .int (nI l.length), .int (nI ic)])), (n1, .inl (cyI, (1 + 64 + 400), .inl lf)), (n2, .inl (cyI, (1 + 64 + 400), .inl of)), (n3, .inl (cyI, 64, .inl nf)), (n4, .inl (cyJ, (1 + 64 + 400), .inr (.inl w))), (ht, .inr (0, [.int (nI 128), .int (nI 1500), .ref t1, .ref t2, .ref t3, .ref t4, .int (nI tnc), .int (nI tic)])), (t1, .inl (cyI, (1 + 128 + 1500), .inl tlf)), (t2, .inl (cyI, (1 + 128 + 1500), .inl tof)), (t3, .inl (cyI, 128, .inl tnf)), (t4, .inl (cyJ, (1 + 128 + 1500), .inr (.inl twf))), (av, .inl (cyI, 465, .inl vl)), (au, .inl (cyI, 465, .inl tl)), (ab, .inl (cyI, 64, .inl bb)), (ai, .inl (cyI, 64, .inl tt)), (aw, .inl (cyJ, 465, .inr (.inl ww)))] := hD
        have hw35 : r35 = wob (bb k) := hw35
        subst hw35
        refine W.widen (k := 0) (n := 0) (Nat.le_refl _) (Nat.le_refl _) ?_
        refine x_last hx hb hK hP hD hS 5 1 rfl rfl (by omega) (by omega) dX1_spreadNet_38 (fun H locs hP hD hS => ?_)
        have hP : va_P D vwCl [(x, .inr (1, [.ref hn, .ref ht, .int tw, .ref av, .ref au, .ref ab, .ref ai, .ref aw])), (hn, .inr (0, [.int (nI 64), .int (nI 400), .ref n1, .ref n2, .ref n3, .ref n4, .int (nI l.length), .int (nI ic)])), (n1, .inl (cyI, (1 + 64 + 400), .inl lf)), (n2, .inl (cyI, (1 + 64 + 400), .inl of)), (n3, .inl (cyI, 64, .inl nf)), (n4, .inl (cyJ, (1 + 64 + 400), .inr (.inl (vp_updL w (inp k) (wob (bb k)))))), (ht, .inr (0, [.int (nI 128), .int (nI 1500), .ref t1, .ref t2, .ref t3, .ref t4, .int (nI tnc), .int (nI tic)])), (t1, .inl (cyI, (1 + 128 + 1500), .inl tlf)), (t2, .inl (cyI, (1 + 128 + 1500), .inl tof)), (t3, .inl (cyI, 128, .inl tnf)), (t4, .inl (cyJ, (1 + 128 + 1500), .inr (.inl twf))), (av, .inl (cyI, 465, .inl vl)), (au, .inl (cyI, 465, .inl tl)), (ab, .inl (cyI, 64, .inl bb)), (ai, .inl (cyI, 64, .inl tt)), (aw, .inl (cyJ, 465, .inr (.inl ww)))] H := hP
        have hD : va_D A [(x, .inr (1, [.ref hn, .ref ht, .int tw, .ref av, .ref au, .ref ab, .ref ai, .ref aw])), (hn, .inr (0, [.int (nI 64), .int (nI 400), .ref n1, .ref n2, .ref n3, .ref n4, .int (nI l.length), .int (nI ic)])), (n1, .inl (cyI, (1 + 64 + 400), .inl lf)), (n2, .inl (cyI, (1 + 64 + 400), .inl of)), (n3, .inl (cyI, 64, .inl nf)), (n4, .inl (cyJ, (1 + 64 + 400), .inr (.inl (vp_updL w (inp k) (wob (bb k)))))), (ht, .inr (0, [.int (nI 128), .int (nI 1500), .ref t1, .ref t2, .ref t3, .ref t4, .int (nI tnc), .int (nI tic)])), (t1, .inl (cyI, (1 + 128 + 1500), .inl tlf)), (t2, .inl (cyI, (1 + 128 + 1500), .inl tof)), (t3, .inl (cyI, 128, .inl tnf)), (t4, .inl (cyJ, (1 + 128 + 1500), .inr (.inl twf))), (av, .inl (cyI, 465, .inl vl)), (au, .inl (cyI, 465, .inl tl)), (ab, .inl (cyI, 64, .inl bb)), (ai, .inl (cyI, 64, .inl tt)), (aw, .inl (cyJ, 465, .inr (.inl ww)))] := hD
        refine lv_iinc (v := nI (k + 1)) (lv' := [(1, .int (nI (k + 1))), (0, .ref x)]) hx hb dX1_spreadNet_39 hl (k := 0) rfl (n_inc _) (by decide) rfl (fun ls hl => ?_)
        refine lv_goto (tgt := 2) hx hb dX1_spreadNet_42 (by decide) ?_
        exact ih (k + 1) (vp_updL w (inp k) (wob (bb k))) (by omega) (by rw [hw]; rfl) (by omega) _ _ _ hP hD hS (lv_sub hl [0, 1] rfl)
  exact lp2 _ 0 wf (Nat.zero_le _) rfl (Nat.lt_succ_self _) _ _ _ hP hD hS (lv_sub hl [0, 1] rfl)
set_option maxHeartbeats 4000000 in
set_option maxRecDepth 100000 in
theorem c_X1_spreadTwin (lch : Launch) (D : va_G) (cyI cyJ : ClassId) (sz : Nat) (x : Nat) (hn : Nat) (n1 : Nat) (n2 : Nat) (n3 : Nat) (n4 : Nat) (ht : Nat) (t1 : Nat) (t2 : Nat) (t3 : Nat) (t4 : Nat) (av : Nat) (au : Nat) (ab : Nat) (ai : Nat) (aw : Nat) (lf : Nat → Int32) (of : Nat → Int32) (nf : Nat → Int32) (wf : Nat → Int64) (ic : Nat) (tlf : Nat → Int32) (tof : Nat → Int32) (tnf : Nat → Int32) (twf : Nat → Int64) (tic : Nat) (tw : Int32) (vl : Nat → Int32) (tl : Nat → Int32) (bb : Nat → Int32) (tt : Nat → Int32) (ww : Nat → Int64) (l : NT) (tn : NT) (tok : nOK tn) (trp : rpN tn tlf tof) (tg : nGates tn + 1 + tic = tn.length) (tgM : nGates tn ≤ 1500) (tic_ : tic ≤ 128) (hic : ic ≤ 64) (htic : tic = 2 * ic) (htn : ∀ i, i < 2 * ic → tnf i = nI (1 + i)) : Met lch yX1_spreadTwin wsX1_spreadTwin ({ frames := 2, cells := 0, slots := 0, locals := 44 } : Room) (va_Pc [.ref x] (xA D (xTy cyI cyJ) sz [(x, .inr (1, [.ref hn, .ref ht, .int tw, .ref av, .ref au, .ref ab, .ref ai, .ref aw])), (hn, .inr (0, [.int (nI 64), .int (nI 400), .ref n1, .ref n2, .ref n3, .ref n4, .int (nI l.length), .int (nI ic)])), (n1, .inl (cyI, (1 + 64 + 400), .inl lf)), (n2, .inl (cyI, (1 + 64 + 400), .inl of)), (n3, .inl (cyI, 64, .inl nf)), (n4, .inl (cyJ, (1 + 64 + 400), .inr (.inl wf))), (ht, .inr (0, [.int (nI 128), .int (nI 1500), .ref t1, .ref t2, .ref t3, .ref t4, .int (nI tn.length), .int (nI tic)])), (t1, .inl (cyI, (1 + 128 + 1500), .inl tlf)), (t2, .inl (cyI, (1 + 128 + 1500), .inl tof)), (t3, .inl (cyI, 128, .inl tnf)), (t4, .inl (cyJ, (1 + 128 + 1500), .inr (.inl twf))), (av, .inl (cyI, 465, .inl vl)), (au, .inl (cyI, 465, .inl tl)), (ab, .inl (cyI, 64, .inl bb)), (ai, .inl (cyI, 64, .inl tt)), (aw, .inl (cyJ, 465, .inr (.inl ww)))])) (va_Qv (fun (u : Unit) => True) (fun (u : Unit) t => xB D (xTy cyI cyJ) sz [(x, .inr (1, [.ref hn, .ref ht, .int tw, .ref av, .ref au, .ref ab, .ref ai, .ref aw])), (hn, .inr (0, [.int (nI 64), .int (nI 400), .ref n1, .ref n2, .ref n3, .ref n4, .int (nI l.length), .int (nI ic)])), (n1, .inl (cyI, (1 + 64 + 400), .inl lf)), (n2, .inl (cyI, (1 + 64 + 400), .inl of)), (n3, .inl (cyI, 64, .inl nf)), (n4, .inl (cyJ, (1 + 64 + 400), .inr (.inl wf))), (ht, .inr (0, [.int (nI 128), .int (nI 1500), .ref t1, .ref t2, .ref t3, .ref t4, .int (nI tn.length), .int (nI tic)])), (t1, .inl (cyI, (1 + 128 + 1500), .inl tlf)), (t2, .inl (cyI, (1 + 128 + 1500), .inl tof)), (t3, .inl (cyI, 128, .inl tnf)), (t4, .inl (cyJ, (1 + 128 + 1500), .inr (.inl twf))), (av, .inl (cyI, 465, .inl vl)), (au, .inl (cyI, 465, .inl tl)), (ab, .inl (cyI, 64, .inl bb)), (ai, .inl (cyI, 64, .inl tt)), (aw, .inl (cyJ, 465, .inr (.inl ww)))] [(x, .inr (1, [.ref hn, .ref ht, .int tw, .ref av, .ref au, .ref ab, .ref ai, .ref aw])), (hn, .inr (0, [.int (nI 64), .int (nI 400), .ref n1, .ref n2, .ref n3, .ref n4, .int (nI l.length), .int (nI ic)])), (n1, .inl (cyI, (1 + 64 + 400), .inl lf)), (n2, .inl (cyI, (1 + 64 + 400), .inl of)), (n3, .inl (cyI, 64, .inl nf)), (n4, .inl (cyJ, (1 + 64 + 400), .inr (.inl wf))), (ht, .inr (0, [.int (nI 128), .int (nI 1500), .ref t1, .ref t2, .ref t3, .ref t4, .int (nI tn.length), .int (nI tic)])), (t1, .inl (cyI, (1 + 128 + 1500), .inl tlf)), (t2, .inl (cyI, (1 + 128 + 1500), .inl tof)), (t3, .inl (cyI, 128, .inl tnf)), (t4, .inl (cyJ, (1 + 128 + 1500), .inr (.inl (sprd tn (setT bb tt ic twf ic) tn.length)))), (av, .inl (cyI, 465, .inl vl)), (au, .inl (cyI, 465, .inl tl)), (ab, .inl (cyI, 64, .inl bb)), (ai, .inl (cyI, 64, .inl tt)), (aw, .inl (cyJ, 465, .inr (.inl ww)))] t) (va_A [(x, .inr (1, [.ref hn, .ref ht, .int tw, .ref av, .ref au, .ref ab, .ref ai, .ref aw])), (hn, .inr (0, [.int (nI 64), .int (nI 400), .ref n1, .ref n2, .ref n3, .ref n4, .int (nI l.length), .int (nI ic)])), (n1, .inl (cyI, (1 + 64 + 400), .inl lf)), (n2, .inl (cyI, (1 + 64 + 400), .inl of)), (n3, .inl (cyI, 64, .inl nf)), (n4, .inl (cyJ, (1 + 64 + 400), .inr (.inl wf))), (ht, .inr (0, [.int (nI 128), .int (nI 1500), .ref t1, .ref t2, .ref t3, .ref t4, .int (nI tn.length), .int (nI tic)])), (t1, .inl (cyI, (1 + 128 + 1500), .inl tlf)), (t2, .inl (cyI, (1 + 128 + 1500), .inl tof)), (t3, .inl (cyI, 128, .inl tnf)), (t4, .inl (cyJ, (1 + 128 + 1500), .inr (.inl twf))), (av, .inl (cyI, 465, .inl vl)), (au, .inl (cyI, 465, .inl tl)), (ab, .inl (cyI, 64, .inl bb)), (ai, .inl (cyI, 64, .inl tt)), (aw, .inl (cyJ, 465, .inr (.inl ww)))] sz)) 0 0 (va_A [(x, .inr (1, [.ref hn, .ref ht, .int tw, .ref av, .ref au, .ref ab, .ref ai, .ref aw])), (hn, .inr (0, [.int (nI 64), .int (nI 400), .ref n1, .ref n2, .ref n3, .ref n4, .int (nI l.length), .int (nI ic)])), (n1, .inl (cyI, (1 + 64 + 400), .inl lf)), (n2, .inl (cyI, (1 + 64 + 400), .inl of)), (n3, .inl (cyI, 64, .inl nf)), (n4, .inl (cyJ, (1 + 64 + 400), .inr (.inl wf))), (ht, .inr (0, [.int (nI 128), .int (nI 1500), .ref t1, .ref t2, .ref t3, .ref t4, .int (nI tn.length), .int (nI tic)])), (t1, .inl (cyI, (1 + 128 + 1500), .inl tlf)), (t2, .inl (cyI, (1 + 128 + 1500), .inl tof)), (t3, .inl (cyI, 128, .inl tnf)), (t4, .inl (cyJ, (1 + 128 + 1500), .inr (.inl twf))), (av, .inl (cyI, 465, .inl vl)), (au, .inl (cyI, 465, .inl tl)), (ab, .inl (cyI, 64, .inl bb)), (ai, .inl (cyI, 64, .inl tt)), (aw, .inl (cyJ, 465, .inr (.inl ww)))] sz) := by
  refine x_met RX1 (by decide) rfl rfl (Nat.le_of_ble_eq_true rfl) ?_
  intro p e s m below meth c A Q hAe hQ hx hb hr hlocks hml hnm hts hown hNN hK hsz hP hD hS hA ls hl
  have wf14 := hts (.fieldLink RX1 14 "NetTwin" "net" "LNetTwin$Net;") (by decide +kernel)
  have hiX1 : ∀ w ∈ u_ws RX1 TX1 8, w ∈ wsX1_spreadTwin := by decide +kernel
  have wn84 := hNN.get (args := ([.ref x] : List Value).toArray) (.fieldLinkNest "NetTwin" 84 "NetTwin$Net" "inputCount" "I" "NetTwin") (by decide +kernel)
  have hiX0 : ∀ w ∈ u_ws RX0 TX0 8, w ∈ wsX1_spreadTwin := by decide +kernel
  have wf18 := hts (.fieldLink RX1 18 "NetTwin" "twin" "LNetTwin$Net;") (by decide +kernel)
  have wzX0 := hts (.initialized RX0) (by decide +kernel)
  have wm_yX0_spread := hts (.instanceMethod yX0_spread) (by decide +kernel)
  have we_yX0_spread := hts (.selects RX0 yX0_spread yX0_spread) (by decide +kernel)
  have wn129 := hNN.get (args := ([.ref x] : List Value).toArray) (.fieldLinkNest "NetTwin" 129 "NetTwin$Net" "word" "[J" "NetTwin") (by decide +kernel)
  have wn126 := hNN.get (args := ([.ref x] : List Value).toArray) (.fieldLinkNest "NetTwin" 126 "NetTwin$Net" "inputNode" "[I" "NetTwin") (by decide +kernel)
  have wf32 := hts (.fieldLink RX1 32 "NetTwin" "inputBit" "[I") (by decide +kernel)
  have wf35 := hts (.fieldLink RX1 35 "NetTwin" "inputTaint" "[I") (by decide +kernel)
  have hP : va_P D vwCl [(x, .inr (1, [.ref hn, .ref ht, .int tw, .ref av, .ref au, .ref ab, .ref ai, .ref aw])), (hn, .inr (0, [.int (nI 64), .int (nI 400), .ref n1, .ref n2, .ref n3, .ref n4, .int (nI l.length), .int (nI ic)])), (n1, .inl (cyI, (1 + 64 + 400), .inl lf)), (n2, .inl (cyI, (1 + 64 + 400), .inl of)), (n3, .inl (cyI, 64, .inl nf)), (n4, .inl (cyJ, (1 + 64 + 400), .inr (.inl wf))), (ht, .inr (0, [.int (nI 128), .int (nI 1500), .ref t1, .ref t2, .ref t3, .ref t4, .int (nI tn.length), .int (nI tic)])), (t1, .inl (cyI, (1 + 128 + 1500), .inl tlf)), (t2, .inl (cyI, (1 + 128 + 1500), .inl tof)), (t3, .inl (cyI, 128, .inl tnf)), (t4, .inl (cyJ, (1 + 128 + 1500), .inr (.inl twf))), (av, .inl (cyI, 465, .inl vl)), (au, .inl (cyI, 465, .inl tl)), (ab, .inl (cyI, 64, .inl bb)), (ai, .inl (cyI, 64, .inl tt)), (aw, .inl (cyJ, 465, .inr (.inl ww)))] s.heap := hP
  have hD : va_D A [(x, .inr (1, [.ref hn, .ref ht, .int tw, .ref av, .ref au, .ref ab, .ref ai, .ref aw])), (hn, .inr (0, [.int (nI 64), .int (nI 400), .ref n1, .ref n2, .ref n3, .ref n4, .int (nI l.length), .int (nI ic)])), (n1, .inl (cyI, (1 + 64 + 400), .inl lf)), (n2, .inl (cyI, (1 + 64 + 400), .inl of)), (n3, .inl (cyI, 64, .inl nf)), (n4, .inl (cyJ, (1 + 64 + 400), .inr (.inl wf))), (ht, .inr (0, [.int (nI 128), .int (nI 1500), .ref t1, .ref t2, .ref t3, .ref t4, .int (nI tn.length), .int (nI tic)])), (t1, .inl (cyI, (1 + 128 + 1500), .inl tlf)), (t2, .inl (cyI, (1 + 128 + 1500), .inl tof)), (t3, .inl (cyI, 128, .inl tnf)), (t4, .inl (cyJ, (1 + 128 + 1500), .inr (.inl twf))), (av, .inl (cyI, 465, .inl vl)), (au, .inl (cyI, 465, .inl tl)), (ab, .inl (cyI, 64, .inl bb)), (ai, .inl (cyI, 64, .inl tt)), (aw, .inl (cyJ, 465, .inr (.inl ww)))] := hD
  have hl : lv_has ls 3 [(0, .ref x)] := hl
  refine lv_aload_n hx hb dX1_spreadTwin_0 rfl (lv_at hl 0 rfl) ?_
  refine va_get (D := D) (ci := 1) (v := .ref hn) (C := RX1) (T := TX1) (N := 8) hx hb hts hiX1 hown hK hP 0 rfl rfl 0 (by decide) wf14 (fun _ h9 => h9) rfl dX1_spreadTwin_1 ?_
  refine va_getN (D := D) (ci := 0) (v := .int (nI ic)) (C := RX0) (T := TX0) (N := 8) hx hb hts hiX0 hown hK hP 1 rfl rfl 7 (by decide) wn84 (fun _ h9 => h9) rfl dX1_spreadTwin_4 ?_
  refine lv_istore_n (lv' := [(1, .int (nI ic)), (0, .ref x)]) hx hb dX1_spreadTwin_7 rfl hl (by decide) rfl (fun ls hl => ?_)
  refine lv_iconst (v := nI 0) hx hb dX1_spreadTwin_8 (by decide) ?_
  refine lv_istore_n (lv' := [(2, .int (nI 0)), (1, .int (nI ic)), (0, .ref x)]) hx hb dX1_spreadTwin_9 rfl hl (by decide) rfl (fun ls hl => ?_)
  have lp10 : ∀ n : Nat, ∀ (k : Nat) (w : Nat → Int64) (hk : k ≤ ic) (hw : w = setT bb tt ic twf k) (hme : ic - k < n) (H : Heap) (locs : List Loc) (ls : Array Slot), va_P D vwCl [(x, .inr (1, [.ref hn, .ref ht, .int tw, .ref av, .ref au, .ref ab, .ref ai, .ref aw])), (hn, .inr (0, [.int (nI 64), .int (nI 400), .ref n1, .ref n2, .ref n3, .ref n4, .int (nI l.length), .int (nI ic)])), (n1, .inl (cyI, (1 + 64 + 400), .inl lf)), (n2, .inl (cyI, (1 + 64 + 400), .inl of)), (n3, .inl (cyI, 64, .inl nf)), (n4, .inl (cyJ, (1 + 64 + 400), .inr (.inl wf))), (ht, .inr (0, [.int (nI 128), .int (nI 1500), .ref t1, .ref t2, .ref t3, .ref t4, .int (nI tn.length), .int (nI tic)])), (t1, .inl (cyI, (1 + 128 + 1500), .inl tlf)), (t2, .inl (cyI, (1 + 128 + 1500), .inl tof)), (t3, .inl (cyI, 128, .inl tnf)), (t4, .inl (cyJ, (1 + 128 + 1500), .inr (.inl w))), (av, .inl (cyI, 465, .inl vl)), (au, .inl (cyI, 465, .inl tl)), (ab, .inl (cyI, 64, .inl bb)), (ai, .inl (cyI, 64, .inl tt)), (aw, .inl (cyJ, 465, .inr (.inl ww)))] H → va_D A [(x, .inr (1, [.ref hn, .ref ht, .int tw, .ref av, .ref au, .ref ab, .ref ai, .ref aw])), (hn, .inr (0, [.int (nI 64), .int (nI 400), .ref n1, .ref n2, .ref n3, .ref n4, .int (nI l.length), .int (nI ic)])), (n1, .inl (cyI, (1 + 64 + 400), .inl lf)), (n2, .inl (cyI, (1 + 64 + 400), .inl of)), (n3, .inl (cyI, 64, .inl nf)), (n4, .inl (cyJ, (1 + 64 + 400), .inr (.inl wf))), (ht, .inr (0, [.int (nI 128), .int (nI 1500), .ref t1, .ref t2, .ref t3, .ref t4, .int (nI tn.length), .int (nI tic)])), (t1, .inl (cyI, (1 + 128 + 1500), .inl tlf)), (t2, .inl (cyI, (1 + 128 + 1500), .inl tof)), (t3, .inl (cyI, 128, .inl tnf)), (t4, .inl (cyJ, (1 + 128 + 1500), .inr (.inl w))), (av, .inl (cyI, 465, .inl vl)), (au, .inl (cyI, 465, .inl tl)), (ab, .inl (cyI, 64, .inl bb)), (ai, .inl (cyI, 64, .inl tt)), (aw, .inl (cyJ, 465, .inr (.inl ww)))] → va_S A s.heap H locs → lv_has ls 3 [(2, .int (nI k)), (1, .int (nI ic)), (0, .ref x)] → W p lch e ({ frames := 2, cells := 0, slots := 0, locals := 44 } : Room) s m ([.ref x] : List Value).toArray below meth c H locs 0 0 Q (F0 m 10 ls []) := by
    intro n
    induction n with
    | zero => intro k w hk hw hme H locs ls hP hD hS hl; exact absurd hme (Nat.not_lt_zero _)
    | succ n ih =>
      intro k w hk hw hme H locs ls hP hD hS hl
      refine lv_iload_n hx hb dX1_spreadTwin_10 rfl (lv_at hl 0 rfl) ?_
      refine lv_iload_n hx hb dX1_spreadTwin_11 rfl (lv_at hl 1 rfl) ?_
      refine lv_icmp_ge (tgt := 75) hx hb dX1_spreadTwin_12 (by decide) (fun c12 => ?_) (fun c12 => ?_)
      · have c12 := (nI_leI (by omega) (by omega)).mp c12
        refine lv_aload_n hx hb dX1_spreadTwin_75 rfl (lv_at hl 2 rfl) ?_
        refine va_get (D := D) (ci := 1) (v := .ref ht) (C := RX1) (T := TX1) (N := 8) hx hb hts hiX1 hown hK hP 0 rfl rfl 1 (by decide) wf18 (fun _ h9 => h9) rfl dX1_spreadTwin_76 ?_
        have hki : k = ic := by omega
        rw [hki] at hw
        refine x_callv (wc := [(ht, .inr (0, [.int (nI 128), .int (nI 1500), .ref t1, .ref t2, .ref t3, .ref t4, .int (nI tn.length), .int (nI tic)])), (t1, .inl (cyI, (1 + 128 + 1500), .inl tlf)), (t2, .inl (cyI, (1 + 128 + 1500), .inl tof)), (t3, .inl (cyI, 128, .inl tnf)), (t4, .inl (cyJ, (1 + 128 + 1500), .inr (.inl w)))]) (wr := [(x, .inr (1, [.ref hn, .ref ht, .int tw, .ref av, .ref au, .ref ab, .ref ai, .ref aw])), (hn, .inr (0, [.int (nI 64), .int (nI 400), .ref n1, .ref n2, .ref n3, .ref n4, .int (nI l.length), .int (nI ic)])), (n1, .inl (cyI, (1 + 64 + 400), .inl lf)), (n2, .inl (cyI, (1 + 64 + 400), .inl of)), (n3, .inl (cyI, 64, .inl nf)), (n4, .inl (cyJ, (1 + 64 + 400), .inr (.inl wf))), (av, .inl (cyI, 465, .inl vl)), (au, .inl (cyI, 465, .inl tl)), (ab, .inl (cyI, 64, .inl bb)), (ai, .inl (cyI, 64, .inl tt)), (aw, .inl (cyJ, 465, .inr (.inl ww)))]) (w2 := fun (u : Unit) => [(x, .inr (1, [.ref hn, .ref ht, .int tw, .ref av, .ref au, .ref ab, .ref ai, .ref aw])), (hn, .inr (0, [.int (nI 64), .int (nI 400), .ref n1, .ref n2, .ref n3, .ref n4, .int (nI l.length), .int (nI ic)])), (n1, .inl (cyI, (1 + 64 + 400), .inl lf)), (n2, .inl (cyI, (1 + 64 + 400), .inl of)), (n3, .inl (cyI, 64, .inl nf)), (n4, .inl (cyJ, (1 + 64 + 400), .inr (.inl wf))), (ht, .inr (0, [.int (nI 128), .int (nI 1500), .ref t1, .ref t2, .ref t3, .ref t4, .int (nI tn.length), .int (nI tic)])), (t1, .inl (cyI, (1 + 128 + 1500), .inl tlf)), (t2, .inl (cyI, (1 + 128 + 1500), .inl tof)), (t3, .inl (cyI, 128, .inl tnf)), (t4, .inl (cyJ, (1 + 128 + 1500), .inr (.inl (sprd tn w tn.length)))), (av, .inl (cyI, 465, .inl vl)), (au, .inl (cyI, 465, .inl tl)), (ab, .inl (cyI, 64, .inl bb)), (ai, .inl (cyI, 64, .inl tt)), (aw, .inl (cyJ, 465, .inr (.inl ww)))]) [6, 7, 8, 9, 10] [0, 1, 2, 3, 4, 5, 11, 12, 13, 14, 15] [0, 1, 2, 3, 4, 5, 11, 12, 13, 14, 15, 6, 7, 8, 9, 10] (va_runVN (As := []) (rest := []) ⟨hx, hb, hml, hown, hts⟩ (c_X0_spread lch D cyI cyJ _ ht t1 t2 t3 t4 128 1500 tlf tof tnf w tic tn (by first | assumption | omega) (by first | assumption | omega) (by first | assumption | omega) (by first | assumption | omega) (by first | assumption | omega) (by first | assumption | omega)) ⟨va_cnB 0 hts gX1_spreadTwin_X0_spread_n111 rfl rfl rfl (hNN.at (.methodLinkNest "NetTwin" 111 yX0_spread "NetTwin") (by decide +kernel)) wzX0 (by decide +kernel) ⟨Nat.le_of_ble_eq_true rfl, Nat.le_of_ble_eq_true rfl⟩, wm_yX0_spread, we_yX0_spread⟩ (x_preV hK hNN (hP.sub (ws' := [(ht, .inr (0, [.int (nI 128), .int (nI 1500), .ref t1, .ref t2, .ref t3, .ref t4, .int (nI tn.length), .int (nI tic)])), (t1, .inl (cyI, (1 + 128 + 1500), .inl tlf)), (t2, .inl (cyI, (1 + 128 + 1500), .inl tof)), (t3, .inl (cyI, 128, .inl tnf)), (t4, .inl (cyJ, (1 + 128 + 1500), .inr (.inl w)))]) [6, 7, 8, 9, 10] rfl) (hD.sub (ws' := [(ht, .inr (0, [.int (nI 128), .int (nI 1500), .ref t1, .ref t2, .ref t3, .ref t4, .int (nI tn.length), .int (nI tic)])), (t1, .inl (cyI, (1 + 128 + 1500), .inl tlf)), (t2, .inl (cyI, (1 + 128 + 1500), .inl tof)), (t3, .inl (cyI, 128, .inl tnf)), (t4, .inl (cyJ, (1 + 128 + 1500), .inr (.inl w)))]) [6, 7, 8, 9, 10] (by decide) rfl) rfl rfl (ci := 0) (q0 := 0) rfl rfl rfl) rfl rfl hl.1 rfl (lv_room (Nat.le_of_ble_eq_true rfl)) dX1_spreadTwin_79 ⟨Nat.le_of_ble_eq_true rfl, Nat.le_of_ble_eq_true rfl⟩) rfl hP hD hS hA rfl rfl (by decide) (by decide) (fun _ => rfl) (by decide) (fun u79 H locs hw79 hP hD hS hz79 => ?_)
        have hP : va_P D vwCl [(x, .inr (1, [.ref hn, .ref ht, .int tw, .ref av, .ref au, .ref ab, .ref ai, .ref aw])), (hn, .inr (0, [.int (nI 64), .int (nI 400), .ref n1, .ref n2, .ref n3, .ref n4, .int (nI l.length), .int (nI ic)])), (n1, .inl (cyI, (1 + 64 + 400), .inl lf)), (n2, .inl (cyI, (1 + 64 + 400), .inl of)), (n3, .inl (cyI, 64, .inl nf)), (n4, .inl (cyJ, (1 + 64 + 400), .inr (.inl wf))), (ht, .inr (0, [.int (nI 128), .int (nI 1500), .ref t1, .ref t2, .ref t3, .ref t4, .int (nI tn.length), .int (nI tic)])), (t1, .inl (cyI, (1 + 128 + 1500), .inl tlf)), (t2, .inl (cyI, (1 + 128 + 1500), .inl tof)), (t3, .inl (cyI, 128, .inl tnf)), (t4, .inl (cyJ, (1 + 128 + 1500), .inr (.inl (sprd tn w tn.length)))), (av, .inl (cyI, 465, .inl vl)), (au, .inl (cyI, 465, .inl tl)), (ab, .inl (cyI, 64, .inl bb)), (ai, .inl (cyI, 64, .inl tt)), (aw, .inl (cyJ, 465, .inr (.inl ww)))] H := hP
        have hD : va_D A [(x, .inr (1, [.ref hn, .ref ht, .int tw, .ref av, .ref au, .ref ab, .ref ai, .ref aw])), (hn, .inr (0, [.int (nI 64), .int (nI 400), .ref n1, .ref n2, .ref n3, .ref n4, .int (nI l.length), .int (nI ic)])), (n1, .inl (cyI, (1 + 64 + 400), .inl lf)), (n2, .inl (cyI, (1 + 64 + 400), .inl of)), (n3, .inl (cyI, 64, .inl nf)), (n4, .inl (cyJ, (1 + 64 + 400), .inr (.inl wf))), (ht, .inr (0, [.int (nI 128), .int (nI 1500), .ref t1, .ref t2, .ref t3, .ref t4, .int (nI tn.length), .int (nI tic)])), (t1, .inl (cyI, (1 + 128 + 1500), .inl tlf)), (t2, .inl (cyI, (1 + 128 + 1500), .inl tof)), (t3, .inl (cyI, 128, .inl tnf)), (t4, .inl (cyJ, (1 + 128 + 1500), .inr (.inl (sprd tn w tn.length)))), (av, .inl (cyI, 465, .inl vl)), (au, .inl (cyI, 465, .inl tl)), (ab, .inl (cyI, 64, .inl bb)), (ai, .inl (cyI, 64, .inl tt)), (aw, .inl (cyJ, 465, .inr (.inl ww)))] := hD
        refine W.widen (k := 0) (n := 0) (Nat.le_refl _) (Nat.le_refl _) ?_
        rw [hw] at hP hD
        exact x_vret hQ hAe hx hb hr hlocks hS hK (Nat.le_of_ble_eq_true rfl) (Nat.le_of_ble_eq_true rfl) dX1_spreadTwin_82 () hP hD (trivial)
      · have c12 := mt (nI_leI (by omega) (by omega)).mpr c12
        refine lv_aload_n hx hb dX1_spreadTwin_15 rfl (lv_at hl 2 rfl) ?_
        refine va_get (D := D) (ci := 1) (v := .ref ht) (C := RX1) (T := TX1) (N := 8) hx hb hts hiX1 hown hK hP 0 rfl rfl 1 (by decide) wf18 (fun _ h9 => h9) rfl dX1_spreadTwin_16 ?_
        refine va_getN (D := D) (ci := 0) (v := .ref t4) (C := RX0) (T := TX0) (N := 8) hx hb hts hiX0 hown hK hP 6 rfl rfl 5 (by decide) wn129 (fun _ h9 => h9) rfl dX1_spreadTwin_19 ?_
        refine lv_aload_n hx hb dX1_spreadTwin_22 rfl (lv_at hl 2 rfl) ?_
        refine va_get (D := D) (ci := 1) (v := .ref ht) (C := RX1) (T := TX1) (N := 8) hx hb hts hiX1 hown hK hP 0 rfl rfl 1 (by decide) wf18 (fun _ h9 => h9) rfl dX1_spreadTwin_23 ?_
        refine va_getN (D := D) (ci := 0) (v := .ref t3) (C := RX0) (T := TX0) (N := 8) hx hb hts hiX0 hown hK hP 6 rfl rfl 4 (by decide) wn126 (fun _ h9 => h9) rfl dX1_spreadTwin_26 ?_
        refine lv_iload_n hx hb dX1_spreadTwin_29 rfl (lv_at hl 0 rfl) ?_
        refine x_iald hx hb hK hP 9 0 rfl rfl (by omega) (by omega) dX1_spreadTwin_30 ?_
        refine x_top (show tnf k = nI (1 + k) from htn k (by omega)) ?_
        refine lv_aload_n hx hb dX1_spreadTwin_31 rfl (lv_at hl 2 rfl) ?_
        refine va_get (D := D) (ci := 1) (v := .ref ab) (C := RX1) (T := TX1) (N := 8) hx hb hts hiX1 hown hK hP 0 rfl rfl 5 (by decide) wf32 (fun _ h9 => h9) rfl dX1_spreadTwin_32 ?_
        refine lv_iload_n hx hb dX1_spreadTwin_35 rfl (lv_at hl 0 rfl) ?_
        refine x_iald hx hb hK hP 13 0 rfl rfl (by omega) (by omega) dX1_spreadTwin_36 ?_
        refine x_calll (wc := []) (wr := [(x, .inr (1, [.ref hn, .ref ht, .int tw, .ref av, .ref au, .ref ab, .ref ai, .ref aw])), (hn, .inr (0, [.int (nI 64), .int (nI 400), .ref n1, .ref n2, .ref n3, .ref n4, .int (nI l.length), .int (nI ic)])), (n1, .inl (cyI, (1 + 64 + 400), .inl lf)), (n2, .inl (cyI, (1 + 64 + 400), .inl of)), (n3, .inl (cyI, 64, .inl nf)), (n4, .inl (cyJ, (1 + 64 + 400), .inr (.inl wf))), (ht, .inr (0, [.int (nI 128), .int (nI 1500), .ref t1, .ref t2, .ref t3, .ref t4, .int (nI tn.length), .int (nI tic)])), (t1, .inl (cyI, (1 + 128 + 1500), .inl tlf)), (t2, .inl (cyI, (1 + 128 + 1500), .inl tof)), (t3, .inl (cyI, 128, .inl tnf)), (t4, .inl (cyJ, (1 + 128 + 1500), .inr (.inl w))), (av, .inl (cyI, 465, .inl vl)), (au, .inl (cyI, 465, .inl tl)), (ab, .inl (cyI, 64, .inl bb)), (ai, .inl (cyI, 64, .inl tt)), (aw, .inl (cyJ, 465, .inr (.inl ww)))]) (w2 := fun (u : Unit) => [(x, .inr (1, [.ref hn, .ref ht, .int tw, .ref av, .ref au, .ref ab, .ref ai, .ref aw])), (hn, .inr (0, [.int (nI 64), .int (nI 400), .ref n1, .ref n2, .ref n3, .ref n4, .int (nI l.length), .int (nI ic)])), (n1, .inl (cyI, (1 + 64 + 400), .inl lf)), (n2, .inl (cyI, (1 + 64 + 400), .inl of)), (n3, .inl (cyI, 64, .inl nf)), (n4, .inl (cyJ, (1 + 64 + 400), .inr (.inl wf))), (ht, .inr (0, [.int (nI 128), .int (nI 1500), .ref t1, .ref t2, .ref t3, .ref t4, .int (nI tn.length), .int (nI tic)])), (t1, .inl (cyI, (1 + 128 + 1500), .inl tlf)), (t2, .inl (cyI, (1 + 128 + 1500), .inl tof)), (t3, .inl (cyI, 128, .inl tnf)), (t4, .inl (cyJ, (1 + 128 + 1500), .inr (.inl w))), (av, .inl (cyI, 465, .inl vl)), (au, .inl (cyI, 465, .inl tl)), (ab, .inl (cyI, 64, .inl bb)), (ai, .inl (cyI, 64, .inl tt)), (aw, .inl (cyJ, 465, .inr (.inl ww)))]) [] [0, 1, 2, 3, 4, 5, 6, 7, 8, 9, 10, 11, 12, 13, 14, 15] [0, 1, 2, 3, 4, 5, 6, 7, 8, 9, 10, 11, 12, 13, 14, 15] (va_runS (As := [.int (bb k)]) (rest := [.int (nI (1 + k)), .ref t4]) ⟨hx, hb, hml, hown, hts⟩ (c_X1_wordOfBit lch D cyI cyJ _ (bb k) ) (va_cwS 1 hts gX1_spreadTwin_X1_wordOfBit rfl rfl rfl (by decide +kernel) ⟨Nat.le_of_ble_eq_true rfl, Nat.le_of_ble_eq_true rfl⟩) (x_pre hK hNN (hP.sub (ws' := []) [] rfl) (hD.sub (ws' := []) [] (by decide) rfl) rfl rfl) rfl rfl hl.1 rfl (lv_room (Nat.le_of_ble_eq_true rfl)) dX1_spreadTwin_37 ⟨Nat.le_of_ble_eq_true rfl, Nat.le_of_ble_eq_true rfl⟩) rfl hP hD hS hA rfl rfl (by decide) (by decide) (fun _ => rfl) (by decide) (fun r37 u37 H locs hw37 hP hD hS hz37 => ?_)
        have hP : va_P D vwCl [(x, .inr (1, [.ref hn, .ref ht, .int tw, .ref av, .ref au, .ref ab, .ref ai, .ref aw])), (hn, .inr (0, [.int (nI 64), .int (nI 400), .ref n1, .ref n2, .ref n3, .ref n4, .int (nI l.length), .int (nI ic)])), (n1, .inl (cyI, (1 + 64 + 400), .inl lf)), (n2, .inl (cyI, (1 + 64 + 400), .inl of)), (n3, .inl (cyI, 64, .inl nf)), (n4, .inl (cyJ, (1 + 64 + 400), .inr (.inl wf))), (ht, .inr (0, [.int (nI 128), .int (nI 1500), .ref t1, .ref t2, .ref t3, .ref t4, .int (nI tn.length), .int (nI tic)])), (t1, .inl (cyI, (1 + 128 + 1500), .inl tlf)), (t2, .inl (cyI, (1 + 128 + 1500), .inl tof)), (t3, .inl (cyI, 128, .inl tnf)), (t4, .inl (cyJ, (1 + 128 + 1500), .inr (.inl w))), (av, .inl (cyI, 465, .inl vl)), (au, .inl (cyI, 465, .inl tl)), (ab, .inl (cyI, 64, .inl bb)), (ai, .inl (cyI, 64, .inl tt)), (aw, .inl (cyJ, 465, .inr (.inl ww)))] H := hP
        have hD : va_D A [(x, .inr (1, [.ref hn, .ref ht, .int tw, .ref av, .ref au, .ref ab, .ref ai, .ref aw])), (hn, .inr (0, [.int (nI 64), .int (nI 400), .ref n1, .ref n2, .ref n3, .ref n4, .int (nI l.length), .int (nI ic)])), (n1, .inl (cyI, (1 + 64 + 400), .inl lf)), (n2, .inl (cyI, (1 + 64 + 400), .inl of)), (n3, .inl (cyI, 64, .inl nf)), (n4, .inl (cyJ, (1 + 64 + 400), .inr (.inl wf))), (ht, .inr (0, [.int (nI 128), .int (nI 1500), .ref t1, .ref t2, .ref t3, .ref t4, .int (nI tn.length), .int (nI tic)])), (t1, .inl (cyI, (1 + 128 + 1500), .inl tlf)), (t2, .inl (cyI, (1 + 128 + 1500), .inl tof)), (t3, .inl (cyI, 128, .inl tnf)), (t4, .inl (cyJ, (1 + 128 + 1500), .inr (.inl w))), (av, .inl (cyI, 465, .inl vl)), (au, .inl (cyI, 465, .inl tl)), (ab, .inl (cyI, 64, .inl bb)), (ai, .inl (cyI, 64, .inl tt)), (aw, .inl (cyJ, 465, .inr (.inl ww)))] := hD
        have hw37 : r37 = wob (bb k) := hw37
        subst hw37
        refine W.widen (k := 0) (n := 0) (Nat.le_refl _) (Nat.le_refl _) ?_
        refine x_last hx hb hK hP hD hS 10 1 rfl rfl (by omega) (by omega) dX1_spreadTwin_40 (fun H locs hP hD hS => ?_)
        have hP : va_P D vwCl [(x, .inr (1, [.ref hn, .ref ht, .int tw, .ref av, .ref au, .ref ab, .ref ai, .ref aw])), (hn, .inr (0, [.int (nI 64), .int (nI 400), .ref n1, .ref n2, .ref n3, .ref n4, .int (nI l.length), .int (nI ic)])), (n1, .inl (cyI, (1 + 64 + 400), .inl lf)), (n2, .inl (cyI, (1 + 64 + 400), .inl of)), (n3, .inl (cyI, 64, .inl nf)), (n4, .inl (cyJ, (1 + 64 + 400), .inr (.inl wf))), (ht, .inr (0, [.int (nI 128), .int (nI 1500), .ref t1, .ref t2, .ref t3, .ref t4, .int (nI tn.length), .int (nI tic)])), (t1, .inl (cyI, (1 + 128 + 1500), .inl tlf)), (t2, .inl (cyI, (1 + 128 + 1500), .inl tof)), (t3, .inl (cyI, 128, .inl tnf)), (t4, .inl (cyJ, (1 + 128 + 1500), .inr (.inl (vp_updL w (1 + k) (wob (bb k)))))), (av, .inl (cyI, 465, .inl vl)), (au, .inl (cyI, 465, .inl tl)), (ab, .inl (cyI, 64, .inl bb)), (ai, .inl (cyI, 64, .inl tt)), (aw, .inl (cyJ, 465, .inr (.inl ww)))] H := hP
        have hD : va_D A [(x, .inr (1, [.ref hn, .ref ht, .int tw, .ref av, .ref au, .ref ab, .ref ai, .ref aw])), (hn, .inr (0, [.int (nI 64), .int (nI 400), .ref n1, .ref n2, .ref n3, .ref n4, .int (nI l.length), .int (nI ic)])), (n1, .inl (cyI, (1 + 64 + 400), .inl lf)), (n2, .inl (cyI, (1 + 64 + 400), .inl of)), (n3, .inl (cyI, 64, .inl nf)), (n4, .inl (cyJ, (1 + 64 + 400), .inr (.inl wf))), (ht, .inr (0, [.int (nI 128), .int (nI 1500), .ref t1, .ref t2, .ref t3, .ref t4, .int (nI tn.length), .int (nI tic)])), (t1, .inl (cyI, (1 + 128 + 1500), .inl tlf)), (t2, .inl (cyI, (1 + 128 + 1500), .inl tof)), (t3, .inl (cyI, 128, .inl tnf)), (t4, .inl (cyJ, (1 + 128 + 1500), .inr (.inl (vp_updL w (1 + k) (wob (bb k)))))), (av, .inl (cyI, 465, .inl vl)), (au, .inl (cyI, 465, .inl tl)), (ab, .inl (cyI, 64, .inl bb)), (ai, .inl (cyI, 64, .inl tt)), (aw, .inl (cyJ, 465, .inr (.inl ww)))] := hD
        refine lv_aload_n hx hb dX1_spreadTwin_41 rfl (lv_at hl 2 rfl) ?_
        refine va_get (D := D) (ci := 1) (v := .ref ht) (C := RX1) (T := TX1) (N := 8) hx hb hts hiX1 hown hK hP 0 rfl rfl 1 (by decide) wf18 (fun _ h9 => h9) rfl dX1_spreadTwin_42 ?_
        refine va_getN (D := D) (ci := 0) (v := .ref t4) (C := RX0) (T := TX0) (N := 8) hx hb hts hiX0 hown hK hP 6 rfl rfl 5 (by decide) wn129 (fun _ h9 => h9) rfl dX1_spreadTwin_45 ?_
        refine lv_aload_n hx hb dX1_spreadTwin_48 rfl (lv_at hl 2 rfl) ?_
        refine va_get (D := D) (ci := 1) (v := .ref ht) (C := RX1) (T := TX1) (N := 8) hx hb hts hiX1 hown hK hP 0 rfl rfl 1 (by decide) wf18 (fun _ h9 => h9) rfl dX1_spreadTwin_49 ?_
        refine va_getN (D := D) (ci := 0) (v := .ref t3) (C := RX0) (T := TX0) (N := 8) hx hb hts hiX0 hown hK hP 6 rfl rfl 4 (by decide) wn126 (fun _ h9 => h9) rfl dX1_spreadTwin_52 ?_
        refine lv_iload_n hx hb dX1_spreadTwin_55 rfl (lv_at hl 1 rfl) ?_
        refine lv_iload_n hx hb dX1_spreadTwin_56 rfl (lv_at hl 0 rfl) ?_
        refine lv_iadd hx hb dX1_spreadTwin_57 ?_
        refine x_top (nI_add _ _) ?_
        refine x_iald hx hb hK hP 9 0 rfl rfl (by omega) (by omega) dX1_spreadTwin_58 ?_
        refine x_top (show tnf (ic + k) = nI (1 + (ic + k)) from htn (ic + k) (by omega)) ?_
        refine lv_aload_n hx hb dX1_spreadTwin_59 rfl (lv_at hl 2 rfl) ?_
        refine va_get (D := D) (ci := 1) (v := .ref ai) (C := RX1) (T := TX1) (N := 8) hx hb hts hiX1 hown hK hP 0 rfl rfl 6 (by decide) wf35 (fun _ h9 => h9) rfl dX1_spreadTwin_60 ?_
        refine lv_iload_n hx hb dX1_spreadTwin_63 rfl (lv_at hl 0 rfl) ?_
        refine x_iald hx hb hK hP 14 0 rfl rfl (by omega) (by omega) dX1_spreadTwin_64 ?_
        refine x_calll (wc := []) (wr := [(x, .inr (1, [.ref hn, .ref ht, .int tw, .ref av, .ref au, .ref ab, .ref ai, .ref aw])), (hn, .inr (0, [.int (nI 64), .int (nI 400), .ref n1, .ref n2, .ref n3, .ref n4, .int (nI l.length), .int (nI ic)])), (n1, .inl (cyI, (1 + 64 + 400), .inl lf)), (n2, .inl (cyI, (1 + 64 + 400), .inl of)), (n3, .inl (cyI, 64, .inl nf)), (n4, .inl (cyJ, (1 + 64 + 400), .inr (.inl wf))), (ht, .inr (0, [.int (nI 128), .int (nI 1500), .ref t1, .ref t2, .ref t3, .ref t4, .int (nI tn.length), .int (nI tic)])), (t1, .inl (cyI, (1 + 128 + 1500), .inl tlf)), (t2, .inl (cyI, (1 + 128 + 1500), .inl tof)), (t3, .inl (cyI, 128, .inl tnf)), (t4, .inl (cyJ, (1 + 128 + 1500), .inr (.inl (vp_updL w (1 + k) (wob (bb k)))))), (av, .inl (cyI, 465, .inl vl)), (au, .inl (cyI, 465, .inl tl)), (ab, .inl (cyI, 64, .inl bb)), (ai, .inl (cyI, 64, .inl tt)), (aw, .inl (cyJ, 465, .inr (.inl ww)))]) (w2 := fun (u : Unit) => [(x, .inr (1, [.ref hn, .ref ht, .int tw, .ref av, .ref au, .ref ab, .ref ai, .ref aw])), (hn, .inr (0, [.int (nI 64), .int (nI 400), .ref n1, .ref n2, .ref n3, .ref n4, .int (nI l.length), .int (nI ic)])), (n1, .inl (cyI, (1 + 64 + 400), .inl lf)), (n2, .inl (cyI, (1 + 64 + 400), .inl of)), (n3, .inl (cyI, 64, .inl nf)), (n4, .inl (cyJ, (1 + 64 + 400), .inr (.inl wf))), (ht, .inr (0, [.int (nI 128), .int (nI 1500), .ref t1, .ref t2, .ref t3, .ref t4, .int (nI tn.length), .int (nI tic)])), (t1, .inl (cyI, (1 + 128 + 1500), .inl tlf)), (t2, .inl (cyI, (1 + 128 + 1500), .inl tof)), (t3, .inl (cyI, 128, .inl tnf)), (t4, .inl (cyJ, (1 + 128 + 1500), .inr (.inl (vp_updL w (1 + k) (wob (bb k)))))), (av, .inl (cyI, 465, .inl vl)), (au, .inl (cyI, 465, .inl tl)), (ab, .inl (cyI, 64, .inl bb)), (ai, .inl (cyI, 64, .inl tt)), (aw, .inl (cyJ, 465, .inr (.inl ww)))]) [] [0, 1, 2, 3, 4, 5, 6, 7, 8, 9, 10, 11, 12, 13, 14, 15] [0, 1, 2, 3, 4, 5, 6, 7, 8, 9, 10, 11, 12, 13, 14, 15] (va_runS (As := [.int (tt k)]) (rest := [.int (nI (1 + (ic + k))), .ref t4]) ⟨hx, hb, hml, hown, hts⟩ (c_X1_wordOfBit lch D cyI cyJ _ (tt k) ) (va_cwS 1 hts gX1_spreadTwin_X1_wordOfBit rfl rfl rfl (by decide +kernel) ⟨Nat.le_of_ble_eq_true rfl, Nat.le_of_ble_eq_true rfl⟩) (x_pre hK hNN (hP.sub (ws' := []) [] rfl) (hD.sub (ws' := []) [] (by decide) rfl) rfl rfl) rfl rfl hl.1 rfl (lv_room (Nat.le_of_ble_eq_true rfl)) dX1_spreadTwin_65 ⟨Nat.le_of_ble_eq_true rfl, Nat.le_of_ble_eq_true rfl⟩) rfl hP hD hS hA rfl rfl (by decide) (by decide) (fun _ => rfl) (by decide) (fun r65 u65 H locs hw65 hP hD hS hz65 => ?_)
        have hP : va_P D vwCl [(x, .inr (1, [.ref hn, .ref ht, .int tw, .ref av, .ref au, .ref ab, .ref ai, .ref aw])), (hn, .inr (0, [.int (nI 64), .int (nI 400), .ref n1, .ref n2, .ref n3, .ref n4, .int (nI l.length), .int (nI ic)])), (n1, .inl (cyI, (1 + 64 + 400), .inl lf)), (n2, .inl (cyI, (1 + 64 + 400), .inl of)), (n3, .inl (cyI, 64, .inl nf)), (n4, .inl (cyJ, (1 + 64 + 400), .inr (.inl wf))), (ht, .inr (0, [.int (nI 128), .int (nI 1500), .ref t1, .ref t2, .ref t3, .ref t4, .int (nI tn.length), .int (nI tic)])), (t1, .inl (cyI, (1 + 128 + 1500), .inl tlf)), (t2, .inl (cyI, (1 + 128 + 1500), .inl tof)), (t3, .inl (cyI, 128, .inl tnf)), (t4, .inl (cyJ, (1 + 128 + 1500), .inr (.inl (vp_updL w (1 + k) (wob (bb k)))))), (av, .inl (cyI, 465, .inl vl)), (au, .inl (cyI, 465, .inl tl)), (ab, .inl (cyI, 64, .inl bb)), (ai, .inl (cyI, 64, .inl tt)), (aw, .inl (cyJ, 465, .inr (.inl ww)))] H := hP
        have hD : va_D A [(x, .inr (1, [.ref hn, .ref ht, .int tw, .ref av, .ref au, .ref ab, .ref ai, .ref aw])), (hn, .inr (0, [.int (nI 64), .int (nI 400), .ref n1, .ref n2, .ref n3, .ref n4, .int (nI l.length), .int (nI ic)])), (n1, .inl (cyI, (1 + 64 + 400), .inl lf)), (n2, .inl (cyI, (1 + 64 + 400), .inl of)), (n3, .inl (cyI, 64, .inl nf)), (n4, .inl (cyJ, (1 + 64 + 400), .inr (.inl wf))), (ht, .inr (0, [.int (nI 128), .int (nI 1500), .ref t1, .ref t2, .ref t3, .ref t4, .int (nI tn.length), .int (nI tic)])), (t1, .inl (cyI, (1 + 128 + 1500), .inl tlf)), (t2, .inl (cyI, (1 + 128 + 1500), .inl tof)), (t3, .inl (cyI, 128, .inl tnf)), (t4, .inl (cyJ, (1 + 128 + 1500), .inr (.inl (vp_updL w (1 + k) (wob (bb k)))))), (av, .inl (cyI, 465, .inl vl)), (au, .inl (cyI, 465, .inl tl)), (ab, .inl (cyI, 64, .inl bb)), (ai, .inl (cyI, 64, .inl tt)), (aw, .inl (cyJ, 465, .inr (.inl ww)))] := hD
        have hw65 : r65 = wob (tt k) := hw65
        subst hw65
        refine W.widen (k := 0) (n := 0) (Nat.le_refl _) (Nat.le_refl _) ?_
        refine x_last hx hb hK hP hD hS 10 1 rfl rfl (by omega) (by omega) dX1_spreadTwin_68 (fun H locs hP hD hS => ?_)
        have hP : va_P D vwCl [(x, .inr (1, [.ref hn, .ref ht, .int tw, .ref av, .ref au, .ref ab, .ref ai, .ref aw])), (hn, .inr (0, [.int (nI 64), .int (nI 400), .ref n1, .ref n2, .ref n3, .ref n4, .int (nI l.length), .int (nI ic)])), (n1, .inl (cyI, (1 + 64 + 400), .inl lf)), (n2, .inl (cyI, (1 + 64 + 400), .inl of)), (n3, .inl (cyI, 64, .inl nf)), (n4, .inl (cyJ, (1 + 64 + 400), .inr (.inl wf))), (ht, .inr (0, [.int (nI 128), .int (nI 1500), .ref t1, .ref t2, .ref t3, .ref t4, .int (nI tn.length), .int (nI tic)])), (t1, .inl (cyI, (1 + 128 + 1500), .inl tlf)), (t2, .inl (cyI, (1 + 128 + 1500), .inl tof)), (t3, .inl (cyI, 128, .inl tnf)), (t4, .inl (cyJ, (1 + 128 + 1500), .inr (.inl (vp_updL (vp_updL w (1 + k) (wob (bb k))) (1 + (ic + k)) (wob (tt k)))))), (av, .inl (cyI, 465, .inl vl)), (au, .inl (cyI, 465, .inl tl)), (ab, .inl (cyI, 64, .inl bb)), (ai, .inl (cyI, 64, .inl tt)), (aw, .inl (cyJ, 465, .inr (.inl ww)))] H := hP
        have hD : va_D A [(x, .inr (1, [.ref hn, .ref ht, .int tw, .ref av, .ref au, .ref ab, .ref ai, .ref aw])), (hn, .inr (0, [.int (nI 64), .int (nI 400), .ref n1, .ref n2, .ref n3, .ref n4, .int (nI l.length), .int (nI ic)])), (n1, .inl (cyI, (1 + 64 + 400), .inl lf)), (n2, .inl (cyI, (1 + 64 + 400), .inl of)), (n3, .inl (cyI, 64, .inl nf)), (n4, .inl (cyJ, (1 + 64 + 400), .inr (.inl wf))), (ht, .inr (0, [.int (nI 128), .int (nI 1500), .ref t1, .ref t2, .ref t3, .ref t4, .int (nI tn.length), .int (nI tic)])), (t1, .inl (cyI, (1 + 128 + 1500), .inl tlf)), (t2, .inl (cyI, (1 + 128 + 1500), .inl tof)), (t3, .inl (cyI, 128, .inl tnf)), (t4, .inl (cyJ, (1 + 128 + 1500), .inr (.inl (vp_updL (vp_updL w (1 + k) (wob (bb k))) (1 + (ic + k)) (wob (tt k)))))), (av, .inl (cyI, 465, .inl vl)), (au, .inl (cyI, 465, .inl tl)), (ab, .inl (cyI, 64, .inl bb)), (ai, .inl (cyI, 64, .inl tt)), (aw, .inl (cyJ, 465, .inr (.inl ww)))] := hD
        refine lv_iinc (v := nI (k + 1)) (lv' := [(2, .int (nI (k + 1))), (1, .int (nI ic)), (0, .ref x)]) hx hb dX1_spreadTwin_69 hl (k := 0) rfl (n_inc _) (by decide) rfl (fun ls hl => ?_)
        refine lv_goto (tgt := 10) hx hb dX1_spreadTwin_72 (by decide) ?_
        exact ih (k + 1) (vp_updL (vp_updL w (1 + k) (wob (bb k))) (1 + (ic + k)) (wob (tt k))) (by omega) (by rw [hw]; rfl) (by omega) _ _ _ hP hD hS (lv_sub hl [0, 1, 2] rfl)
  exact lp10 _ 0 twf (Nat.zero_le _) rfl (Nat.lt_succ_self _) _ _ _ hP hD hS (lv_sub hl [0, 1, 2] rfl)
set_option maxHeartbeats 4000000 in
set_option maxRecDepth 100000 in
theorem c_X1_spreadTaints (lch : Launch) (D : va_G) (cyI cyJ : ClassId) (sz : Nat) (x : Nat) (hn : Nat) (n1 : Nat) (n2 : Nat) (n3 : Nat) (n4 : Nat) (ht : Nat) (t1 : Nat) (t2 : Nat) (t3 : Nat) (t4 : Nat) (av : Nat) (au : Nat) (ab : Nat) (ai : Nat) (aw : Nat) (lf : Nat → Int32) (of : Nat → Int32) (nf : Nat → Int32) (wf : Nat → Int64) (ic : Nat) (tlf : Nat → Int32) (tof : Nat → Int32) (tnf : Nat → Int32) (twf : Nat → Int64) (tnc : Nat) (tic : Nat) (tw : Int32) (vl : Nat → Int32) (tl : Nat → Int32) (bb : Nat → Int32) (tt : Nat → Int32) (ww : Nat → Int64) (l : NT) (inp : Nat → Nat) (hok : nOK l) (hrp : rpN l lf of) (hg : nGates l + 1 + ic = l.length) (hgM : nGates l ≤ 400) (hic : ic ≤ 64) (hin : ∀ i, i < ic → nf i = nI (inp i) ∧ inp i < l.length) : Met lch yX1_spreadTaints wsX1_spreadTaints ({ frames := 1, cells := 0, slots := 0, locals := 23 } : Room) (va_Pc [.ref x] (xA D (xTy cyI cyJ) sz [(x, .inr (1, [.ref hn, .ref ht, .int tw, .ref av, .ref au, .ref ab, .ref ai, .ref aw])), (hn, .inr (0, [.int (nI 64), .int (nI 400), .ref n1, .ref n2, .ref n3, .ref n4, .int (nI l.length), .int (nI ic)])), (n1, .inl (cyI, (1 + 64 + 400), .inl lf)), (n2, .inl (cyI, (1 + 64 + 400), .inl of)), (n3, .inl (cyI, 64, .inl nf)), (n4, .inl (cyJ, (1 + 64 + 400), .inr (.inl wf))), (ht, .inr (0, [.int (nI 128), .int (nI 1500), .ref t1, .ref t2, .ref t3, .ref t4, .int (nI tnc), .int (nI tic)])), (t1, .inl (cyI, (1 + 128 + 1500), .inl tlf)), (t2, .inl (cyI, (1 + 128 + 1500), .inl tof)), (t3, .inl (cyI, 128, .inl tnf)), (t4, .inl (cyJ, (1 + 128 + 1500), .inr (.inl twf))), (av, .inl (cyI, 465, .inl vl)), (au, .inl (cyI, 465, .inl tl)), (ab, .inl (cyI, 64, .inl bb)), (ai, .inl (cyI, 64, .inl tt)), (aw, .inl (cyJ, 465, .inr (.inl ww)))])) (va_Qv (fun (u : Unit) => True) (fun (u : Unit) t => xB D (xTy cyI cyJ) sz [(x, .inr (1, [.ref hn, .ref ht, .int tw, .ref av, .ref au, .ref ab, .ref ai, .ref aw])), (hn, .inr (0, [.int (nI 64), .int (nI 400), .ref n1, .ref n2, .ref n3, .ref n4, .int (nI l.length), .int (nI ic)])), (n1, .inl (cyI, (1 + 64 + 400), .inl lf)), (n2, .inl (cyI, (1 + 64 + 400), .inl of)), (n3, .inl (cyI, 64, .inl nf)), (n4, .inl (cyJ, (1 + 64 + 400), .inr (.inl wf))), (ht, .inr (0, [.int (nI 128), .int (nI 1500), .ref t1, .ref t2, .ref t3, .ref t4, .int (nI tnc), .int (nI tic)])), (t1, .inl (cyI, (1 + 128 + 1500), .inl tlf)), (t2, .inl (cyI, (1 + 128 + 1500), .inl tof)), (t3, .inl (cyI, 128, .inl tnf)), (t4, .inl (cyJ, (1 + 128 + 1500), .inr (.inl twf))), (av, .inl (cyI, 465, .inl vl)), (au, .inl (cyI, 465, .inl tl)), (ab, .inl (cyI, 64, .inl bb)), (ai, .inl (cyI, 64, .inl tt)), (aw, .inl (cyJ, 465, .inr (.inl ww)))] [(x, .inr (1, [.ref hn, .ref ht, .int tw, .ref av, .ref au, .ref ab, .ref ai, .ref aw])), (hn, .inr (0, [.int (nI 64), .int (nI 400), .ref n1, .ref n2, .ref n3, .ref n4, .int (nI l.length), .int (nI ic)])), (n1, .inl (cyI, (1 + 64 + 400), .inl lf)), (n2, .inl (cyI, (1 + 64 + 400), .inl of)), (n3, .inl (cyI, 64, .inl nf)), (n4, .inl (cyJ, (1 + 64 + 400), .inr (.inl wf))), (ht, .inr (0, [.int (nI 128), .int (nI 1500), .ref t1, .ref t2, .ref t3, .ref t4, .int (nI tnc), .int (nI tic)])), (t1, .inl (cyI, (1 + 128 + 1500), .inl tlf)), (t2, .inl (cyI, (1 + 128 + 1500), .inl tof)), (t3, .inl (cyI, 128, .inl tnf)), (t4, .inl (cyJ, (1 + 128 + 1500), .inr (.inl twf))), (av, .inl (cyI, 465, .inl vl)), (au, .inl (cyI, 465, .inl tl)), (ab, .inl (cyI, 64, .inl bb)), (ai, .inl (cyI, 64, .inl tt)), (aw, .inl (cyJ, 465, .inr (.inl (tspr l wf (setW inp tt ww ic) l.length))))] t) (va_A [(x, .inr (1, [.ref hn, .ref ht, .int tw, .ref av, .ref au, .ref ab, .ref ai, .ref aw])), (hn, .inr (0, [.int (nI 64), .int (nI 400), .ref n1, .ref n2, .ref n3, .ref n4, .int (nI l.length), .int (nI ic)])), (n1, .inl (cyI, (1 + 64 + 400), .inl lf)), (n2, .inl (cyI, (1 + 64 + 400), .inl of)), (n3, .inl (cyI, 64, .inl nf)), (n4, .inl (cyJ, (1 + 64 + 400), .inr (.inl wf))), (ht, .inr (0, [.int (nI 128), .int (nI 1500), .ref t1, .ref t2, .ref t3, .ref t4, .int (nI tnc), .int (nI tic)])), (t1, .inl (cyI, (1 + 128 + 1500), .inl tlf)), (t2, .inl (cyI, (1 + 128 + 1500), .inl tof)), (t3, .inl (cyI, 128, .inl tnf)), (t4, .inl (cyJ, (1 + 128 + 1500), .inr (.inl twf))), (av, .inl (cyI, 465, .inl vl)), (au, .inl (cyI, 465, .inl tl)), (ab, .inl (cyI, 64, .inl bb)), (ai, .inl (cyI, 64, .inl tt)), (aw, .inl (cyJ, 465, .inr (.inl ww)))] sz)) 0 0 (va_A [(x, .inr (1, [.ref hn, .ref ht, .int tw, .ref av, .ref au, .ref ab, .ref ai, .ref aw])), (hn, .inr (0, [.int (nI 64), .int (nI 400), .ref n1, .ref n2, .ref n3, .ref n4, .int (nI l.length), .int (nI ic)])), (n1, .inl (cyI, (1 + 64 + 400), .inl lf)), (n2, .inl (cyI, (1 + 64 + 400), .inl of)), (n3, .inl (cyI, 64, .inl nf)), (n4, .inl (cyJ, (1 + 64 + 400), .inr (.inl wf))), (ht, .inr (0, [.int (nI 128), .int (nI 1500), .ref t1, .ref t2, .ref t3, .ref t4, .int (nI tnc), .int (nI tic)])), (t1, .inl (cyI, (1 + 128 + 1500), .inl tlf)), (t2, .inl (cyI, (1 + 128 + 1500), .inl tof)), (t3, .inl (cyI, 128, .inl tnf)), (t4, .inl (cyJ, (1 + 128 + 1500), .inr (.inl twf))), (av, .inl (cyI, 465, .inl vl)), (au, .inl (cyI, 465, .inl tl)), (ab, .inl (cyI, 64, .inl bb)), (ai, .inl (cyI, 64, .inl tt)), (aw, .inl (cyJ, 465, .inr (.inl ww)))] sz) := by
  refine x_met RX1 (by decide) rfl rfl (Nat.le_of_ble_eq_true rfl) ?_
  intro p e s m below meth c A Q hAe hQ hx hb hr hlocks hml hnm hts hown hNN hK hsz hP hD hS hA ls hl
  have wf14 := hts (.fieldLink RX1 14 "NetTwin" "net" "LNetTwin$Net;") (by decide +kernel)
  have hiX1 : ∀ w ∈ u_ws RX1 TX1 8, w ∈ wsX1_spreadTaints := by decide +kernel
  have wn84 := hNN.get (args := ([.ref x] : List Value).toArray) (.fieldLinkNest "NetTwin" 84 "NetTwin$Net" "inputCount" "I" "NetTwin") (by decide +kernel)
  have hiX0 : ∀ w ∈ u_ws RX0 TX0 8, w ∈ wsX1_spreadTaints := by decide +kernel
  have wn61 := hNN.get (args := ([.ref x] : List Value).toArray) (.fieldLinkNest "NetTwin" 61 "NetTwin$Net" "nodeCount" "I" "NetTwin") (by decide +kernel)
  have wzX0 := hts (.initialized RX0) (by decide +kernel)
  have wm_yX0_isGate := hts (.instanceMethod yX0_isGate) (by decide +kernel)
  have we_yX0_isGate := hts (.selects RX0 yX0_isGate yX0_isGate) (by decide +kernel)
  have wn72 := hNN.get (args := ([.ref x] : List Value).toArray) (.fieldLinkNest "NetTwin" 72 "NetTwin$Net" "lesser" "[I" "NetTwin") (by decide +kernel)
  have wn75 := hNN.get (args := ([.ref x] : List Value).toArray) (.fieldLinkNest "NetTwin" 75 "NetTwin$Net" "other" "[I" "NetTwin") (by decide +kernel)
  have wf38 := hts (.fieldLink RX1 38 "NetTwin" "taintWord" "[J") (by decide +kernel)
  have wm_yX0_wordOf := hts (.instanceMethod yX0_wordOf) (by decide +kernel)
  have we_yX0_wordOf := hts (.selects RX0 yX0_wordOf yX0_wordOf) (by decide +kernel)
  have wn126 := hNN.get (args := ([.ref x] : List Value).toArray) (.fieldLinkNest "NetTwin" 126 "NetTwin$Net" "inputNode" "[I" "NetTwin") (by decide +kernel)
  have wf35 := hts (.fieldLink RX1 35 "NetTwin" "inputTaint" "[I") (by decide +kernel)
  have hP : va_P D vwCl [(x, .inr (1, [.ref hn, .ref ht, .int tw, .ref av, .ref au, .ref ab, .ref ai, .ref aw])), (hn, .inr (0, [.int (nI 64), .int (nI 400), .ref n1, .ref n2, .ref n3, .ref n4, .int (nI l.length), .int (nI ic)])), (n1, .inl (cyI, (1 + 64 + 400), .inl lf)), (n2, .inl (cyI, (1 + 64 + 400), .inl of)), (n3, .inl (cyI, 64, .inl nf)), (n4, .inl (cyJ, (1 + 64 + 400), .inr (.inl wf))), (ht, .inr (0, [.int (nI 128), .int (nI 1500), .ref t1, .ref t2, .ref t3, .ref t4, .int (nI tnc), .int (nI tic)])), (t1, .inl (cyI, (1 + 128 + 1500), .inl tlf)), (t2, .inl (cyI, (1 + 128 + 1500), .inl tof)), (t3, .inl (cyI, 128, .inl tnf)), (t4, .inl (cyJ, (1 + 128 + 1500), .inr (.inl twf))), (av, .inl (cyI, 465, .inl vl)), (au, .inl (cyI, 465, .inl tl)), (ab, .inl (cyI, 64, .inl bb)), (ai, .inl (cyI, 64, .inl tt)), (aw, .inl (cyJ, 465, .inr (.inl ww)))] s.heap := hP
  have hD : va_D A [(x, .inr (1, [.ref hn, .ref ht, .int tw, .ref av, .ref au, .ref ab, .ref ai, .ref aw])), (hn, .inr (0, [.int (nI 64), .int (nI 400), .ref n1, .ref n2, .ref n3, .ref n4, .int (nI l.length), .int (nI ic)])), (n1, .inl (cyI, (1 + 64 + 400), .inl lf)), (n2, .inl (cyI, (1 + 64 + 400), .inl of)), (n3, .inl (cyI, 64, .inl nf)), (n4, .inl (cyJ, (1 + 64 + 400), .inr (.inl wf))), (ht, .inr (0, [.int (nI 128), .int (nI 1500), .ref t1, .ref t2, .ref t3, .ref t4, .int (nI tnc), .int (nI tic)])), (t1, .inl (cyI, (1 + 128 + 1500), .inl tlf)), (t2, .inl (cyI, (1 + 128 + 1500), .inl tof)), (t3, .inl (cyI, 128, .inl tnf)), (t4, .inl (cyJ, (1 + 128 + 1500), .inr (.inl twf))), (av, .inl (cyI, 465, .inl vl)), (au, .inl (cyI, 465, .inl tl)), (ab, .inl (cyI, 64, .inl bb)), (ai, .inl (cyI, 64, .inl tt)), (aw, .inl (cyJ, 465, .inr (.inl ww)))] := hD
  have hl : lv_has ls 8 [(0, .ref x)] := hl
  refine lv_iconst (v := nI 0) hx hb dX1_spreadTaints_0 (by decide) ?_
  refine lv_istore_n (lv' := [(1, .int (nI 0)), (0, .ref x)]) hx hb dX1_spreadTaints_1 rfl hl (by decide) rfl (fun ls hl => ?_)
  have lp2 : ∀ n : Nat, ∀ (k : Nat) (w : Nat → Int64) (hk : k ≤ ic) (hw : w = setW inp tt ww k) (hme : ic - k < n) (H : Heap) (locs : List Loc) (ls : Array Slot), va_P D vwCl [(x, .inr (1, [.ref hn, .ref ht, .int tw, .ref av, .ref au, .ref ab, .ref ai, .ref aw])), (hn, .inr (0, [.int (nI 64), .int (nI 400), .ref n1, .ref n2, .ref n3, .ref n4, .int (nI l.length), .int (nI ic)])), (n1, .inl (cyI, (1 + 64 + 400), .inl lf)), (n2, .inl (cyI, (1 + 64 + 400), .inl of)), (n3, .inl (cyI, 64, .inl nf)), (n4, .inl (cyJ, (1 + 64 + 400), .inr (.inl wf))), (ht, .inr (0, [.int (nI 128), .int (nI 1500), .ref t1, .ref t2, .ref t3, .ref t4, .int (nI tnc), .int (nI tic)])), (t1, .inl (cyI, (1 + 128 + 1500), .inl tlf)), (t2, .inl (cyI, (1 + 128 + 1500), .inl tof)), (t3, .inl (cyI, 128, .inl tnf)), (t4, .inl (cyJ, (1 + 128 + 1500), .inr (.inl twf))), (av, .inl (cyI, 465, .inl vl)), (au, .inl (cyI, 465, .inl tl)), (ab, .inl (cyI, 64, .inl bb)), (ai, .inl (cyI, 64, .inl tt)), (aw, .inl (cyJ, 465, .inr (.inl w)))] H → va_D A [(x, .inr (1, [.ref hn, .ref ht, .int tw, .ref av, .ref au, .ref ab, .ref ai, .ref aw])), (hn, .inr (0, [.int (nI 64), .int (nI 400), .ref n1, .ref n2, .ref n3, .ref n4, .int (nI l.length), .int (nI ic)])), (n1, .inl (cyI, (1 + 64 + 400), .inl lf)), (n2, .inl (cyI, (1 + 64 + 400), .inl of)), (n3, .inl (cyI, 64, .inl nf)), (n4, .inl (cyJ, (1 + 64 + 400), .inr (.inl wf))), (ht, .inr (0, [.int (nI 128), .int (nI 1500), .ref t1, .ref t2, .ref t3, .ref t4, .int (nI tnc), .int (nI tic)])), (t1, .inl (cyI, (1 + 128 + 1500), .inl tlf)), (t2, .inl (cyI, (1 + 128 + 1500), .inl tof)), (t3, .inl (cyI, 128, .inl tnf)), (t4, .inl (cyJ, (1 + 128 + 1500), .inr (.inl twf))), (av, .inl (cyI, 465, .inl vl)), (au, .inl (cyI, 465, .inl tl)), (ab, .inl (cyI, 64, .inl bb)), (ai, .inl (cyI, 64, .inl tt)), (aw, .inl (cyJ, 465, .inr (.inl w)))] → va_S A s.heap H locs → lv_has ls 8 [(1, .int (nI k)), (0, .ref x)] → W p lch e ({ frames := 1, cells := 0, slots := 0, locals := 23 } : Room) s m ([.ref x] : List Value).toArray below meth c H locs 0 0 Q (F0 m 2 ls []) := by
    intro n
    induction n with
    | zero => intro k w hk hw hme H locs ls hP hD hS hl; exact absurd hme (Nat.not_lt_zero _)
    | succ n ih =>
      intro k w hk hw hme H locs ls hP hD hS hl
      refine lv_iload_n hx hb dX1_spreadTaints_2 rfl (lv_at hl 0 rfl) ?_
      refine lv_aload_n hx hb dX1_spreadTaints_3 rfl (lv_at hl 1 rfl) ?_
      refine va_get (D := D) (ci := 1) (v := .ref hn) (C := RX1) (T := TX1) (N := 8) hx hb hts hiX1 hown hK hP 0 rfl rfl 0 (by decide) wf14 (fun _ h9 => h9) rfl dX1_spreadTaints_4 ?_
      refine va_getN (D := D) (ci := 0) (v := .int (nI ic)) (C := RX0) (T := TX0) (N := 8) hx hb hts hiX0 hown hK hP 1 rfl rfl 7 (by decide) wn84 (fun _ h9 => h9) rfl dX1_spreadTaints_7 ?_
      refine lv_icmp_ge (tgt := 42) hx hb dX1_spreadTaints_10 (by decide) (fun c10 => ?_) (fun c10 => ?_)
      · have c10 := (nI_leI (by omega) (by omega)).mp c10
        refine lv_iconst (v := nI 0) hx hb dX1_spreadTaints_42 (by decide) ?_
        refine lv_istore_n (lv' := [(1, .int (nI 0)), (0, .ref x)]) hx hb dX1_spreadTaints_43 rfl hl (by decide) rfl (fun ls hl => ?_)
        have lp44 : ∀ n : Nat, ∀ (j : Nat) (v : Nat → Int64) (hj1 : j ≤ l.length) (hv : v = tspr l wf (setW inp tt ww ic) j) (hme : l.length - j < n) (H : Heap) (locs : List Loc) (ls : Array Slot), va_P D vwCl [(x, .inr (1, [.ref hn, .ref ht, .int tw, .ref av, .ref au, .ref ab, .ref ai, .ref aw])), (hn, .inr (0, [.int (nI 64), .int (nI 400), .ref n1, .ref n2, .ref n3, .ref n4, .int (nI l.length), .int (nI ic)])), (n1, .inl (cyI, (1 + 64 + 400), .inl lf)), (n2, .inl (cyI, (1 + 64 + 400), .inl of)), (n3, .inl (cyI, 64, .inl nf)), (n4, .inl (cyJ, (1 + 64 + 400), .inr (.inl wf))), (ht, .inr (0, [.int (nI 128), .int (nI 1500), .ref t1, .ref t2, .ref t3, .ref t4, .int (nI tnc), .int (nI tic)])), (t1, .inl (cyI, (1 + 128 + 1500), .inl tlf)), (t2, .inl (cyI, (1 + 128 + 1500), .inl tof)), (t3, .inl (cyI, 128, .inl tnf)), (t4, .inl (cyJ, (1 + 128 + 1500), .inr (.inl twf))), (av, .inl (cyI, 465, .inl vl)), (au, .inl (cyI, 465, .inl tl)), (ab, .inl (cyI, 64, .inl bb)), (ai, .inl (cyI, 64, .inl tt)), (aw, .inl (cyJ, 465, .inr (.inl v)))] H → va_D A [(x, .inr (1, [.ref hn, .ref ht, .int tw, .ref av, .ref au, .ref ab, .ref ai, .ref aw])), (hn, .inr (0, [.int (nI 64), .int (nI 400), .ref n1, .ref n2, .ref n3, .ref n4, .int (nI l.length), .int (nI ic)])), (n1, .inl (cyI, (1 + 64 + 400), .inl lf)), (n2, .inl (cyI, (1 + 64 + 400), .inl of)), (n3, .inl (cyI, 64, .inl nf)), (n4, .inl (cyJ, (1 + 64 + 400), .inr (.inl wf))), (ht, .inr (0, [.int (nI 128), .int (nI 1500), .ref t1, .ref t2, .ref t3, .ref t4, .int (nI tnc), .int (nI tic)])), (t1, .inl (cyI, (1 + 128 + 1500), .inl tlf)), (t2, .inl (cyI, (1 + 128 + 1500), .inl tof)), (t3, .inl (cyI, 128, .inl tnf)), (t4, .inl (cyJ, (1 + 128 + 1500), .inr (.inl twf))), (av, .inl (cyI, 465, .inl vl)), (au, .inl (cyI, 465, .inl tl)), (ab, .inl (cyI, 64, .inl bb)), (ai, .inl (cyI, 64, .inl tt)), (aw, .inl (cyJ, 465, .inr (.inl v)))] → va_S A s.heap H locs → lv_has ls 8 [(1, .int (nI j)), (0, .ref x)] → W p lch e ({ frames := 1, cells := 0, slots := 0, locals := 23 } : Room) s m ([.ref x] : List Value).toArray below meth c H locs 0 0 Q (F0 m 44 ls []) := by
          intro n
          induction n with
          | zero => intro j v hj1 hv hme H locs ls hP hD hS hl; exact absurd hme (Nat.not_lt_zero _)
          | succ n ih =>
            intro j v hj1 hv hme H locs ls hP hD hS hl
            refine lv_iload_n hx hb dX1_spreadTaints_44 rfl (lv_at hl 0 rfl) ?_
            refine lv_aload_n hx hb dX1_spreadTaints_45 rfl (lv_at hl 1 rfl) ?_
            refine va_get (D := D) (ci := 1) (v := .ref hn) (C := RX1) (T := TX1) (N := 8) hx hb hts hiX1 hown hK hP 0 rfl rfl 0 (by decide) wf14 (fun _ h9 => h9) rfl dX1_spreadTaints_46 ?_
            refine va_getN (D := D) (ci := 0) (v := .int (nI l.length)) (C := RX0) (T := TX0) (N := 8) hx hb hts hiX0 hown hK hP 1 rfl rfl 6 (by decide) wn61 (fun _ h9 => h9) rfl dX1_spreadTaints_49 ?_
            refine lv_icmp_ge (tgt := 147) hx hb dX1_spreadTaints_52 (by decide) (fun c52 => ?_) (fun c52 => ?_)
            · have c52 := (nI_leI (by omega) (by omega)).mp c52
              have hjl : j = l.length := by omega
              rw [hjl] at hv
              rw [hv] at hP hD
              exact x_vret hQ hAe hx hb hr hlocks hS hK (Nat.le_of_ble_eq_true rfl) (Nat.le_of_ble_eq_true rfl) dX1_spreadTaints_147 () hP hD (trivial)
            · have c52 := mt (nI_leI (by omega) (by omega)).mpr c52
              refine lv_aload_n hx hb dX1_spreadTaints_55 rfl (lv_at hl 1 rfl) ?_
              refine va_get (D := D) (ci := 1) (v := .ref hn) (C := RX1) (T := TX1) (N := 8) hx hb hts hiX1 hown hK hP 0 rfl rfl 0 (by decide) wf14 (fun _ h9 => h9) rfl dX1_spreadTaints_56 ?_
              refine lv_iload_n hx hb dX1_spreadTaints_59 rfl (lv_at hl 0 rfl) ?_
              refine x_calli (wc := [(hn, .inr (0, [.int (nI 64), .int (nI 400), .ref n1, .ref n2, .ref n3, .ref n4, .int (nI l.length), .int (nI ic)])), (n1, .inl (cyI, (1 + 64 + 400), .inl lf)), (n2, .inl (cyI, (1 + 64 + 400), .inl of)), (n3, .inl (cyI, 64, .inl nf)), (n4, .inl (cyJ, (1 + 64 + 400), .inr (.inl wf)))]) (wr := [(x, .inr (1, [.ref hn, .ref ht, .int tw, .ref av, .ref au, .ref ab, .ref ai, .ref aw])), (ht, .inr (0, [.int (nI 128), .int (nI 1500), .ref t1, .ref t2, .ref t3, .ref t4, .int (nI tnc), .int (nI tic)])), (t1, .inl (cyI, (1 + 128 + 1500), .inl tlf)), (t2, .inl (cyI, (1 + 128 + 1500), .inl tof)), (t3, .inl (cyI, 128, .inl tnf)), (t4, .inl (cyJ, (1 + 128 + 1500), .inr (.inl twf))), (av, .inl (cyI, 465, .inl vl)), (au, .inl (cyI, 465, .inl tl)), (ab, .inl (cyI, 64, .inl bb)), (ai, .inl (cyI, 64, .inl tt)), (aw, .inl (cyJ, 465, .inr (.inl v)))]) (w2 := fun (u : Unit) => [(x, .inr (1, [.ref hn, .ref ht, .int tw, .ref av, .ref au, .ref ab, .ref ai, .ref aw])), (hn, .inr (0, [.int (nI 64), .int (nI 400), .ref n1, .ref n2, .ref n3, .ref n4, .int (nI l.length), .int (nI ic)])), (n1, .inl (cyI, (1 + 64 + 400), .inl lf)), (n2, .inl (cyI, (1 + 64 + 400), .inl of)), (n3, .inl (cyI, 64, .inl nf)), (n4, .inl (cyJ, (1 + 64 + 400), .inr (.inl wf))), (ht, .inr (0, [.int (nI 128), .int (nI 1500), .ref t1, .ref t2, .ref t3, .ref t4, .int (nI tnc), .int (nI tic)])), (t1, .inl (cyI, (1 + 128 + 1500), .inl tlf)), (t2, .inl (cyI, (1 + 128 + 1500), .inl tof)), (t3, .inl (cyI, 128, .inl tnf)), (t4, .inl (cyJ, (1 + 128 + 1500), .inr (.inl twf))), (av, .inl (cyI, 465, .inl vl)), (au, .inl (cyI, 465, .inl tl)), (ab, .inl (cyI, 64, .inl bb)), (ai, .inl (cyI, 64, .inl tt)), (aw, .inl (cyJ, 465, .inr (.inl v)))]) [1, 2, 3, 4, 5] [0, 6, 7, 8, 9, 10, 11, 12, 13, 14, 15] [0, 11, 12, 13, 14, 15, 1, 2, 3, 4, 5, 6, 7, 8, 9, 10] (va_runVN (As := [.int (nI j)]) (rest := []) ⟨hx, hb, hml, hown, hts⟩ (c_X0_isGate lch D cyI cyJ _ hn n1 n2 n3 n4 64 400 lf of nf wf l.length ic j (by first | assumption | omega) (by first | assumption | omega)) ⟨va_cnB 1 hts gX1_spreadTaints_X0_isGate_n120 rfl rfl rfl (hNN.at (.methodLinkNest "NetTwin" 120 yX0_isGate "NetTwin") (by decide +kernel)) wzX0 (by decide +kernel) ⟨Nat.le_of_ble_eq_true rfl, Nat.le_of_ble_eq_true rfl⟩, wm_yX0_isGate, we_yX0_isGate⟩ (x_preV hK hNN (hP.sub (ws' := [(hn, .inr (0, [.int (nI 64), .int (nI 400), .ref n1, .ref n2, .ref n3, .ref n4, .int (nI l.length), .int (nI ic)])), (n1, .inl (cyI, (1 + 64 + 400), .inl lf)), (n2, .inl (cyI, (1 + 64 + 400), .inl of)), (n3, .inl (cyI, 64, .inl nf)), (n4, .inl (cyJ, (1 + 64 + 400), .inr (.inl wf)))]) [1, 2, 3, 4, 5] rfl) (hD.sub (ws' := [(hn, .inr (0, [.int (nI 64), .int (nI 400), .ref n1, .ref n2, .ref n3, .ref n4, .int (nI l.length), .int (nI ic)])), (n1, .inl (cyI, (1 + 64 + 400), .inl lf)), (n2, .inl (cyI, (1 + 64 + 400), .inl of)), (n3, .inl (cyI, 64, .inl nf)), (n4, .inl (cyJ, (1 + 64 + 400), .inr (.inl wf)))]) [1, 2, 3, 4, 5] (by decide) rfl) rfl rfl (ci := 0) (q0 := 0) rfl rfl rfl) rfl rfl hl.1 rfl (lv_room (Nat.le_of_ble_eq_true rfl)) dX1_spreadTaints_60 ⟨Nat.le_of_ble_eq_true rfl, Nat.le_of_ble_eq_true rfl⟩) rfl hP hD hS hA rfl rfl (by decide) (by decide) (fun _ => rfl) (by decide) (fun r60 u60 H locs hw60 hP hD hS hz60 => ?_)
              have hP : va_P D vwCl [(x, .inr (1, [.ref hn, .ref ht, .int tw, .ref av, .ref au, .ref ab, .ref ai, .ref aw])), (hn, .inr (0, [.int (nI 64), .int (nI 400), .ref n1, .ref n2, .ref n3, .ref n4, .int (nI l.length), .int (nI ic)])), (n1, .inl (cyI, (1 + 64 + 400), .inl lf)), (n2, .inl (cyI, (1 + 64 + 400), .inl of)), (n3, .inl (cyI, 64, .inl nf)), (n4, .inl (cyJ, (1 + 64 + 400), .inr (.inl wf))), (ht, .inr (0, [.int (nI 128), .int (nI 1500), .ref t1, .ref t2, .ref t3, .ref t4, .int (nI tnc), .int (nI tic)])), (t1, .inl (cyI, (1 + 128 + 1500), .inl tlf)), (t2, .inl (cyI, (1 + 128 + 1500), .inl tof)), (t3, .inl (cyI, 128, .inl tnf)), (t4, .inl (cyJ, (1 + 128 + 1500), .inr (.inl twf))), (av, .inl (cyI, 465, .inl vl)), (au, .inl (cyI, 465, .inl tl)), (ab, .inl (cyI, 64, .inl bb)), (ai, .inl (cyI, 64, .inl tt)), (aw, .inl (cyJ, 465, .inr (.inl v)))] H := hP
              have hD : va_D A [(x, .inr (1, [.ref hn, .ref ht, .int tw, .ref av, .ref au, .ref ab, .ref ai, .ref aw])), (hn, .inr (0, [.int (nI 64), .int (nI 400), .ref n1, .ref n2, .ref n3, .ref n4, .int (nI l.length), .int (nI ic)])), (n1, .inl (cyI, (1 + 64 + 400), .inl lf)), (n2, .inl (cyI, (1 + 64 + 400), .inl of)), (n3, .inl (cyI, 64, .inl nf)), (n4, .inl (cyJ, (1 + 64 + 400), .inr (.inl wf))), (ht, .inr (0, [.int (nI 128), .int (nI 1500), .ref t1, .ref t2, .ref t3, .ref t4, .int (nI tnc), .int (nI tic)])), (t1, .inl (cyI, (1 + 128 + 1500), .inl tlf)), (t2, .inl (cyI, (1 + 128 + 1500), .inl tof)), (t3, .inl (cyI, 128, .inl tnf)), (t4, .inl (cyJ, (1 + 128 + 1500), .inr (.inl twf))), (av, .inl (cyI, 465, .inl vl)), (au, .inl (cyI, 465, .inl tl)), (ab, .inl (cyI, 64, .inl bb)), (ai, .inl (cyI, 64, .inl tt)), (aw, .inl (cyJ, 465, .inr (.inl v)))] := hD
              have hw60 : r60 = bI (¬ lf j = -1) := hw60
              subst hw60
              refine W.widen (k := 0) (n := 0) (Nat.le_refl _) (Nat.le_refl _) ?_
              refine lv_if_eq (tgt := 141) hx hb dX1_spreadTaints_63 (by decide) (fun c63 => ?_) (fun c63 => ?_)
              · have c63 := bI_0.mp c63
                have hz : nAt l j = none := gL_no hok (by omega) (by rw [← (hrp j (by omega)).1]; exact Decidable.not_not.mp c63)
                refine lv_iinc (v := nI (j + 1)) (lv' := [(1, .int (nI (j + 1))), (0, .ref x)]) hx hb dX1_spreadTaints_141 hl (k := 0) rfl (n_inc _) (by decide) rfl (fun ls hl => ?_)
                refine lv_goto (tgt := 44) hx hb dX1_spreadTaints_144 (by decide) ?_
                exact ih (j + 1) v (by omega) (by rw [tspr_n hz]; exact hv) (by omega) _ _ _ hP hD hS (lv_sub hl [0, 1] rfl)
              · have c63 := Decidable.not_not.mp (mt bI_0.mpr c63)
                obtain ⟨ga, gb, hg2⟩ := gL_yes (g := nAt l j) (by rw [← (hrp j (by omega)).1]; exact c63)
                have hgk := hok.2.2 j ga gb hg2
                have e1 : lf j = nI ga := by rw [(hrp j (by omega)).1, hg2]; rfl
                have e2 : of j = nI gb := by rw [(hrp j (by omega)).2, hg2]; rfl
                refine lv_aload_n hx hb dX1_spreadTaints_66 rfl (lv_at hl 1 rfl) ?_
                refine va_get (D := D) (ci := 1) (v := .ref hn) (C := RX1) (T := TX1) (N := 8) hx hb hts hiX1 hown hK hP 0 rfl rfl 0 (by decide) wf14 (fun _ h9 => h9) rfl dX1_spreadTaints_67 ?_
                refine va_getN (D := D) (ci := 0) (v := .ref n1) (C := RX0) (T := TX0) (N := 8) hx hb hts hiX0 hown hK hP 1 rfl rfl 2 (by decide) wn72 (fun _ h9 => h9) rfl dX1_spreadTaints_70 ?_
                refine lv_iload_n hx hb dX1_spreadTaints_73 rfl (lv_at hl 0 rfl) ?_
                refine x_iald hx hb hK hP 2 0 rfl rfl (by omega) (by omega) dX1_spreadTaints_74 ?_
                refine x_top (show lf j = nI ga from e1) ?_
                refine lv_istore_n (lv' := [(2, .int (nI ga)), (1, .int (nI j)), (0, .ref x)]) hx hb dX1_spreadTaints_75 rfl hl (by decide) rfl (fun ls hl => ?_)
                refine lv_aload_n hx hb dX1_spreadTaints_76 rfl (lv_at hl 2 rfl) ?_
                refine va_get (D := D) (ci := 1) (v := .ref hn) (C := RX1) (T := TX1) (N := 8) hx hb hts hiX1 hown hK hP 0 rfl rfl 0 (by decide) wf14 (fun _ h9 => h9) rfl dX1_spreadTaints_77 ?_
                refine va_getN (D := D) (ci := 0) (v := .ref n2) (C := RX0) (T := TX0) (N := 8) hx hb hts hiX0 hown hK hP 1 rfl rfl 3 (by decide) wn75 (fun _ h9 => h9) rfl dX1_spreadTaints_80 ?_
                refine lv_iload_n hx hb dX1_spreadTaints_83 rfl (lv_at hl 1 rfl) ?_
                refine x_iald hx hb hK hP 3 0 rfl rfl (by omega) (by omega) dX1_spreadTaints_84 ?_
                refine x_top (show of j = nI gb from e2) ?_
                refine lv_istore_n (lv' := [(3, .int (nI gb)), (2, .int (nI ga)), (1, .int (nI j)), (0, .ref x)]) hx hb dX1_spreadTaints_85 rfl hl (by decide) rfl (fun ls hl => ?_)
                refine lv_aload_n hx hb dX1_spreadTaints_86 rfl (lv_at hl 3 rfl) ?_
                refine va_get (D := D) (ci := 1) (v := .ref aw) (C := RX1) (T := TX1) (N := 8) hx hb hts hiX1 hown hK hP 0 rfl rfl 7 (by decide) wf38 (fun _ h9 => h9) rfl dX1_spreadTaints_87 ?_
                refine lv_iload_n hx hb dX1_spreadTaints_90 rfl (lv_at hl 1 rfl) ?_
                refine lv_iconst (v := nI 1) hx hb dX1_spreadTaints_91 (by decide) ?_
                refine lv_ishr hx hb dX1_spreadTaints_92 ?_
                refine x_top (n_shr1 (by omega)) ?_
                refine x_lald hx hb hK hP 15 1 rfl rfl (by omega) (by omega) dX1_spreadTaints_93 ?_
                refine lv_lstore (lv' := [(4, .long (v (ga / 2))), (3, .int (nI gb)), (2, .int (nI ga)), (1, .int (nI j)), (0, .ref x)]) hx hb dX1_spreadTaints_94 hl (by decide) rfl (fun ls hl => ?_)
                refine lv_aload_n hx hb dX1_spreadTaints_96 rfl (lv_at hl 4 rfl) ?_
                refine va_get (D := D) (ci := 1) (v := .ref aw) (C := RX1) (T := TX1) (N := 8) hx hb hts hiX1 hown hK hP 0 rfl rfl 7 (by decide) wf38 (fun _ h9 => h9) rfl dX1_spreadTaints_97 ?_
                refine lv_iload_n hx hb dX1_spreadTaints_100 rfl (lv_at hl 1 rfl) ?_
                refine lv_iconst (v := nI 1) hx hb dX1_spreadTaints_101 (by decide) ?_
                refine lv_ishr hx hb dX1_spreadTaints_102 ?_
                refine x_top (n_shr1 (by omega)) ?_
                refine x_lald hx hb hK hP 15 1 rfl rfl (by omega) (by omega) dX1_spreadTaints_103 ?_
                refine lv_lstore (lv' := [(6, .long (v (gb / 2))), (4, .long (v (ga / 2))), (3, .int (nI gb)), (2, .int (nI ga)), (1, .int (nI j)), (0, .ref x)]) hx hb dX1_spreadTaints_104 hl (by decide) rfl (fun ls hl => ?_)
                refine lv_aload_n hx hb dX1_spreadTaints_106 rfl (lv_at hl 5 rfl) ?_
                refine va_get (D := D) (ci := 1) (v := .ref aw) (C := RX1) (T := TX1) (N := 8) hx hb hts hiX1 hown hK hP 0 rfl rfl 7 (by decide) wf38 (fun _ h9 => h9) rfl dX1_spreadTaints_107 ?_
                refine lv_iload_n hx hb dX1_spreadTaints_110 rfl (lv_at hl 4 rfl) ?_
                refine lv_lload hx hb dX1_spreadTaints_111 (lv_at hl 1 rfl) ?_
                refine lv_aload_n hx hb dX1_spreadTaints_113 rfl (lv_at hl 5 rfl) ?_
                refine va_get (D := D) (ci := 1) (v := .ref hn) (C := RX1) (T := TX1) (N := 8) hx hb hts hiX1 hown hK hP 0 rfl rfl 0 (by decide) wf14 (fun _ h9 => h9) rfl dX1_spreadTaints_114 ?_
                refine lv_iload_n hx hb dX1_spreadTaints_117 rfl (lv_at hl 2 rfl) ?_
                refine x_calll (wc := [(hn, .inr (0, [.int (nI 64), .int (nI 400), .ref n1, .ref n2, .ref n3, .ref n4, .int (nI l.length), .int (nI ic)])), (n1, .inl (cyI, (1 + 64 + 400), .inl lf)), (n2, .inl (cyI, (1 + 64 + 400), .inl of)), (n3, .inl (cyI, 64, .inl nf)), (n4, .inl (cyJ, (1 + 64 + 400), .inr (.inl wf)))]) (wr := [(x, .inr (1, [.ref hn, .ref ht, .int tw, .ref av, .ref au, .ref ab, .ref ai, .ref aw])), (ht, .inr (0, [.int (nI 128), .int (nI 1500), .ref t1, .ref t2, .ref t3, .ref t4, .int (nI tnc), .int (nI tic)])), (t1, .inl (cyI, (1 + 128 + 1500), .inl tlf)), (t2, .inl (cyI, (1 + 128 + 1500), .inl tof)), (t3, .inl (cyI, 128, .inl tnf)), (t4, .inl (cyJ, (1 + 128 + 1500), .inr (.inl twf))), (av, .inl (cyI, 465, .inl vl)), (au, .inl (cyI, 465, .inl tl)), (ab, .inl (cyI, 64, .inl bb)), (ai, .inl (cyI, 64, .inl tt)), (aw, .inl (cyJ, 465, .inr (.inl v)))]) (w2 := fun (u : Unit) => [(x, .inr (1, [.ref hn, .ref ht, .int tw, .ref av, .ref au, .ref ab, .ref ai, .ref aw])), (hn, .inr (0, [.int (nI 64), .int (nI 400), .ref n1, .ref n2, .ref n3, .ref n4, .int (nI l.length), .int (nI ic)])), (n1, .inl (cyI, (1 + 64 + 400), .inl lf)), (n2, .inl (cyI, (1 + 64 + 400), .inl of)), (n3, .inl (cyI, 64, .inl nf)), (n4, .inl (cyJ, (1 + 64 + 400), .inr (.inl wf))), (ht, .inr (0, [.int (nI 128), .int (nI 1500), .ref t1, .ref t2, .ref t3, .ref t4, .int (nI tnc), .int (nI tic)])), (t1, .inl (cyI, (1 + 128 + 1500), .inl tlf)), (t2, .inl (cyI, (1 + 128 + 1500), .inl tof)), (t3, .inl (cyI, 128, .inl tnf)), (t4, .inl (cyJ, (1 + 128 + 1500), .inr (.inl twf))), (av, .inl (cyI, 465, .inl vl)), (au, .inl (cyI, 465, .inl tl)), (ab, .inl (cyI, 64, .inl bb)), (ai, .inl (cyI, 64, .inl tt)), (aw, .inl (cyJ, 465, .inr (.inl v)))]) [1, 2, 3, 4, 5] [0, 6, 7, 8, 9, 10, 11, 12, 13, 14, 15] [0, 11, 12, 13, 14, 15, 1, 2, 3, 4, 5, 6, 7, 8, 9, 10] (va_runVN (As := [.int (nI gb)]) (rest := [.long (v (ga / 2)), .int (nI j), .ref aw]) ⟨hx, hb, hml, hown, hts⟩ (c_X0_wordOf lch D cyI cyJ _ hn n1 n2 n3 n4 64 400 lf of nf wf l.length ic gb (by first | assumption | omega) (by first | assumption | omega)) ⟨va_cnB 1 hts gX1_spreadTaints_X0_wordOf_n90 rfl rfl rfl (hNN.at (.methodLinkNest "NetTwin" 90 yX0_wordOf "NetTwin") (by decide +kernel)) wzX0 (by decide +kernel) ⟨Nat.le_of_ble_eq_true rfl, Nat.le_of_ble_eq_true rfl⟩, wm_yX0_wordOf, we_yX0_wordOf⟩ (x_preV hK hNN (hP.sub (ws' := [(hn, .inr (0, [.int (nI 64), .int (nI 400), .ref n1, .ref n2, .ref n3, .ref n4, .int (nI l.length), .int (nI ic)])), (n1, .inl (cyI, (1 + 64 + 400), .inl lf)), (n2, .inl (cyI, (1 + 64 + 400), .inl of)), (n3, .inl (cyI, 64, .inl nf)), (n4, .inl (cyJ, (1 + 64 + 400), .inr (.inl wf)))]) [1, 2, 3, 4, 5] rfl) (hD.sub (ws' := [(hn, .inr (0, [.int (nI 64), .int (nI 400), .ref n1, .ref n2, .ref n3, .ref n4, .int (nI l.length), .int (nI ic)])), (n1, .inl (cyI, (1 + 64 + 400), .inl lf)), (n2, .inl (cyI, (1 + 64 + 400), .inl of)), (n3, .inl (cyI, 64, .inl nf)), (n4, .inl (cyJ, (1 + 64 + 400), .inr (.inl wf)))]) [1, 2, 3, 4, 5] (by decide) rfl) rfl rfl (ci := 0) (q0 := 0) rfl rfl rfl) rfl rfl hl.1 rfl (lv_room (Nat.le_of_ble_eq_true rfl)) dX1_spreadTaints_118 ⟨Nat.le_of_ble_eq_true rfl, Nat.le_of_ble_eq_true rfl⟩) rfl hP hD hS hA rfl rfl (by decide) (by decide) (fun _ => rfl) (by decide) (fun r118 u118 H locs hw118 hP hD hS hz118 => ?_)
                have hP : va_P D vwCl [(x, .inr (1, [.ref hn, .ref ht, .int tw, .ref av, .ref au, .ref ab, .ref ai, .ref aw])), (hn, .inr (0, [.int (nI 64), .int (nI 400), .ref n1, .ref n2, .ref n3, .ref n4, .int (nI l.length), .int (nI ic)])), (n1, .inl (cyI, (1 + 64 + 400), .inl lf)), (n2, .inl (cyI, (1 + 64 + 400), .inl of)), (n3, .inl (cyI, 64, .inl nf)), (n4, .inl (cyJ, (1 + 64 + 400), .inr (.inl wf))), (ht, .inr (0, [.int (nI 128), .int (nI 1500), .ref t1, .ref t2, .ref t3, .ref t4, .int (nI tnc), .int (nI tic)])), (t1, .inl (cyI, (1 + 128 + 1500), .inl tlf)), (t2, .inl (cyI, (1 + 128 + 1500), .inl tof)), (t3, .inl (cyI, 128, .inl tnf)), (t4, .inl (cyJ, (1 + 128 + 1500), .inr (.inl twf))), (av, .inl (cyI, 465, .inl vl)), (au, .inl (cyI, 465, .inl tl)), (ab, .inl (cyI, 64, .inl bb)), (ai, .inl (cyI, 64, .inl tt)), (aw, .inl (cyJ, 465, .inr (.inl v)))] H := hP
                have hD : va_D A [(x, .inr (1, [.ref hn, .ref ht, .int tw, .ref av, .ref au, .ref ab, .ref ai, .ref aw])), (hn, .inr (0, [.int (nI 64), .int (nI 400), .ref n1, .ref n2, .ref n3, .ref n4, .int (nI l.length), .int (nI ic)])), (n1, .inl (cyI, (1 + 64 + 400), .inl lf)), (n2, .inl (cyI, (1 + 64 + 400), .inl of)), (n3, .inl (cyI, 64, .inl nf)), (n4, .inl (cyJ, (1 + 64 + 400), .inr (.inl wf))), (ht, .inr (0, [.int (nI 128), .int (nI 1500), .ref t1, .ref t2, .ref t3, .ref t4, .int (nI tnc), .int (nI tic)])), (t1, .inl (cyI, (1 + 128 + 1500), .inl tlf)), (t2, .inl (cyI, (1 + 128 + 1500), .inl tof)), (t3, .inl (cyI, 128, .inl tnf)), (t4, .inl (cyJ, (1 + 128 + 1500), .inr (.inl twf))), (av, .inl (cyI, 465, .inl vl)), (au, .inl (cyI, 465, .inl tl)), (ab, .inl (cyI, 64, .inl bb)), (ai, .inl (cyI, 64, .inl tt)), (aw, .inl (cyJ, 465, .inr (.inl v)))] := hD
                have hw118 : r118 = litW wf gb := hw118
                subst hw118
                refine W.widen (k := 0) (n := 0) (Nat.le_refl _) (Nat.le_refl _) ?_
                refine lv_land hx hb dX1_spreadTaints_121 ?_
                refine lv_lload hx hb dX1_spreadTaints_122 (lv_at hl 0 rfl) ?_
                refine lv_aload_n hx hb dX1_spreadTaints_124 rfl (lv_at hl 5 rfl) ?_
                refine va_get (D := D) (ci := 1) (v := .ref hn) (C := RX1) (T := TX1) (N := 8) hx hb hts hiX1 hown hK hP 0 rfl rfl 0 (by decide) wf14 (fun _ h9 => h9) rfl dX1_spreadTaints_125 ?_
                refine lv_iload_n hx hb dX1_spreadTaints_128 rfl (lv_at hl 3 rfl) ?_
                refine x_calll (wc := [(hn, .inr (0, [.int (nI 64), .int (nI 400), .ref n1, .ref n2, .ref n3, .ref n4, .int (nI l.length), .int (nI ic)])), (n1, .inl (cyI, (1 + 64 + 400), .inl lf)), (n2, .inl (cyI, (1 + 64 + 400), .inl of)), (n3, .inl (cyI, 64, .inl nf)), (n4, .inl (cyJ, (1 + 64 + 400), .inr (.inl wf)))]) (wr := [(x, .inr (1, [.ref hn, .ref ht, .int tw, .ref av, .ref au, .ref ab, .ref ai, .ref aw])), (ht, .inr (0, [.int (nI 128), .int (nI 1500), .ref t1, .ref t2, .ref t3, .ref t4, .int (nI tnc), .int (nI tic)])), (t1, .inl (cyI, (1 + 128 + 1500), .inl tlf)), (t2, .inl (cyI, (1 + 128 + 1500), .inl tof)), (t3, .inl (cyI, 128, .inl tnf)), (t4, .inl (cyJ, (1 + 128 + 1500), .inr (.inl twf))), (av, .inl (cyI, 465, .inl vl)), (au, .inl (cyI, 465, .inl tl)), (ab, .inl (cyI, 64, .inl bb)), (ai, .inl (cyI, 64, .inl tt)), (aw, .inl (cyJ, 465, .inr (.inl v)))]) (w2 := fun (u : Unit) => [(x, .inr (1, [.ref hn, .ref ht, .int tw, .ref av, .ref au, .ref ab, .ref ai, .ref aw])), (hn, .inr (0, [.int (nI 64), .int (nI 400), .ref n1, .ref n2, .ref n3, .ref n4, .int (nI l.length), .int (nI ic)])), (n1, .inl (cyI, (1 + 64 + 400), .inl lf)), (n2, .inl (cyI, (1 + 64 + 400), .inl of)), (n3, .inl (cyI, 64, .inl nf)), (n4, .inl (cyJ, (1 + 64 + 400), .inr (.inl wf))), (ht, .inr (0, [.int (nI 128), .int (nI 1500), .ref t1, .ref t2, .ref t3, .ref t4, .int (nI tnc), .int (nI tic)])), (t1, .inl (cyI, (1 + 128 + 1500), .inl tlf)), (t2, .inl (cyI, (1 + 128 + 1500), .inl tof)), (t3, .inl (cyI, 128, .inl tnf)), (t4, .inl (cyJ, (1 + 128 + 1500), .inr (.inl twf))), (av, .inl (cyI, 465, .inl vl)), (au, .inl (cyI, 465, .inl tl)), (ab, .inl (cyI, 64, .inl bb)), (ai, .inl (cyI, 64, .inl tt)), (aw, .inl (cyJ, 465, .inr (.inl v)))]) [1, 2, 3, 4, 5] [0, 6, 7, 8, 9, 10, 11, 12, 13, 14, 15] [0, 11, 12, 13, 14, 15, 1, 2, 3, 4, 5, 6, 7, 8, 9, 10] (va_runVN (As := [.int (nI ga)]) (rest := [.long (v (gb / 2)), .long ((v (ga / 2)) &&& (litW wf gb)), .int (nI j), .ref aw]) ⟨hx, hb, hml, hown, hts⟩ (c_X0_wordOf lch D cyI cyJ _ hn n1 n2 n3 n4 64 400 lf of nf wf l.length ic ga (by first | assumption | omega) (by first | assumption | omega)) ⟨va_cnB 1 hts gX1_spreadTaints_X0_wordOf_n90 rfl rfl rfl (hNN.at (.methodLinkNest "NetTwin" 90 yX0_wordOf "NetTwin") (by decide +kernel)) wzX0 (by decide +kernel) ⟨Nat.le_of_ble_eq_true rfl, Nat.le_of_ble_eq_true rfl⟩, wm_yX0_wordOf, we_yX0_wordOf⟩ (x_preV hK hNN (hP.sub (ws' := [(hn, .inr (0, [.int (nI 64), .int (nI 400), .ref n1, .ref n2, .ref n3, .ref n4, .int (nI l.length), .int (nI ic)])), (n1, .inl (cyI, (1 + 64 + 400), .inl lf)), (n2, .inl (cyI, (1 + 64 + 400), .inl of)), (n3, .inl (cyI, 64, .inl nf)), (n4, .inl (cyJ, (1 + 64 + 400), .inr (.inl wf)))]) [1, 2, 3, 4, 5] rfl) (hD.sub (ws' := [(hn, .inr (0, [.int (nI 64), .int (nI 400), .ref n1, .ref n2, .ref n3, .ref n4, .int (nI l.length), .int (nI ic)])), (n1, .inl (cyI, (1 + 64 + 400), .inl lf)), (n2, .inl (cyI, (1 + 64 + 400), .inl of)), (n3, .inl (cyI, 64, .inl nf)), (n4, .inl (cyJ, (1 + 64 + 400), .inr (.inl wf)))]) [1, 2, 3, 4, 5] (by decide) rfl) rfl rfl (ci := 0) (q0 := 0) rfl rfl rfl) rfl rfl hl.1 rfl (lv_room (Nat.le_of_ble_eq_true rfl)) dX1_spreadTaints_129 ⟨Nat.le_of_ble_eq_true rfl, Nat.le_of_ble_eq_true rfl⟩) rfl hP hD hS hA rfl rfl (by decide) (by decide) (fun _ => rfl) (by decide) (fun r129 u129 H locs hw129 hP hD hS hz129 => ?_)
                have hP : va_P D vwCl [(x, .inr (1, [.ref hn, .ref ht, .int tw, .ref av, .ref au, .ref ab, .ref ai, .ref aw])), (hn, .inr (0, [.int (nI 64), .int (nI 400), .ref n1, .ref n2, .ref n3, .ref n4, .int (nI l.length), .int (nI ic)])), (n1, .inl (cyI, (1 + 64 + 400), .inl lf)), (n2, .inl (cyI, (1 + 64 + 400), .inl of)), (n3, .inl (cyI, 64, .inl nf)), (n4, .inl (cyJ, (1 + 64 + 400), .inr (.inl wf))), (ht, .inr (0, [.int (nI 128), .int (nI 1500), .ref t1, .ref t2, .ref t3, .ref t4, .int (nI tnc), .int (nI tic)])), (t1, .inl (cyI, (1 + 128 + 1500), .inl tlf)), (t2, .inl (cyI, (1 + 128 + 1500), .inl tof)), (t3, .inl (cyI, 128, .inl tnf)), (t4, .inl (cyJ, (1 + 128 + 1500), .inr (.inl twf))), (av, .inl (cyI, 465, .inl vl)), (au, .inl (cyI, 465, .inl tl)), (ab, .inl (cyI, 64, .inl bb)), (ai, .inl (cyI, 64, .inl tt)), (aw, .inl (cyJ, 465, .inr (.inl v)))] H := hP
                have hD : va_D A [(x, .inr (1, [.ref hn, .ref ht, .int tw, .ref av, .ref au, .ref ab, .ref ai, .ref aw])), (hn, .inr (0, [.int (nI 64), .int (nI 400), .ref n1, .ref n2, .ref n3, .ref n4, .int (nI l.length), .int (nI ic)])), (n1, .inl (cyI, (1 + 64 + 400), .inl lf)), (n2, .inl (cyI, (1 + 64 + 400), .inl of)), (n3, .inl (cyI, 64, .inl nf)), (n4, .inl (cyJ, (1 + 64 + 400), .inr (.inl wf))), (ht, .inr (0, [.int (nI 128), .int (nI 1500), .ref t1, .ref t2, .ref t3, .ref t4, .int (nI tnc), .int (nI tic)])), (t1, .inl (cyI, (1 + 128 + 1500), .inl tlf)), (t2, .inl (cyI, (1 + 128 + 1500), .inl tof)), (t3, .inl (cyI, 128, .inl tnf)), (t4, .inl (cyJ, (1 + 128 + 1500), .inr (.inl twf))), (av, .inl (cyI, 465, .inl vl)), (au, .inl (cyI, 465, .inl tl)), (ab, .inl (cyI, 64, .inl bb)), (ai, .inl (cyI, 64, .inl tt)), (aw, .inl (cyJ, 465, .inr (.inl v)))] := hD
                have hw129 : r129 = litW wf ga := hw129
                subst hw129
                refine W.widen (k := 0) (n := 0) (Nat.le_refl _) (Nat.le_refl _) ?_
                refine lv_land hx hb dX1_spreadTaints_132 ?_
                refine lv_lor hx hb dX1_spreadTaints_133 ?_
                refine lv_lload hx hb dX1_spreadTaints_134 (lv_at hl 1 rfl) ?_
                refine lv_lload hx hb dX1_spreadTaints_136 (lv_at hl 0 rfl) ?_
                refine lv_land hx hb dX1_spreadTaints_138 ?_
                refine lv_lor hx hb dX1_spreadTaints_139 ?_
                refine x_last hx hb hK hP hD hS 15 1 rfl rfl (by omega) (by omega) dX1_spreadTaints_140 (fun H locs hP hD hS => ?_)
                have hP : va_P D vwCl [(x, .inr (1, [.ref hn, .ref ht, .int tw, .ref av, .ref au, .ref ab, .ref ai, .ref aw])), (hn, .inr (0, [.int (nI 64), .int (nI 400), .ref n1, .ref n2, .ref n3, .ref n4, .int (nI l.length), .int (nI ic)])), (n1, .inl (cyI, (1 + 64 + 400), .inl lf)), (n2, .inl (cyI, (1 + 64 + 400), .inl of)), (n3, .inl (cyI, 64, .inl nf)), (n4, .inl (cyJ, (1 + 64 + 400), .inr (.inl wf))), (ht, .inr (0, [.int (nI 128), .int (nI 1500), .ref t1, .ref t2, .ref t3, .ref t4, .int (nI tnc), .int (nI tic)])), (t1, .inl (cyI, (1 + 128 + 1500), .inl tlf)), (t2, .inl (cyI, (1 + 128 + 1500), .inl tof)), (t3, .inl (cyI, 128, .inl tnf)), (t4, .inl (cyJ, (1 + 128 + 1500), .inr (.inl twf))), (av, .inl (cyI, 465, .inl vl)), (au, .inl (cyI, 465, .inl tl)), (ab, .inl (cyI, 64, .inl bb)), (ai, .inl (cyI, 64, .inl tt)), (aw, .inl (cyJ, 465, .inr (.inl (vp_updL v j ((((v (ga / 2)) &&& (litW wf gb)) ||| ((v (gb / 2)) &&& (litW wf ga))) ||| ((v (ga / 2)) &&& (v (gb / 2))))))))] H := hP
                have hD : va_D A [(x, .inr (1, [.ref hn, .ref ht, .int tw, .ref av, .ref au, .ref ab, .ref ai, .ref aw])), (hn, .inr (0, [.int (nI 64), .int (nI 400), .ref n1, .ref n2, .ref n3, .ref n4, .int (nI l.length), .int (nI ic)])), (n1, .inl (cyI, (1 + 64 + 400), .inl lf)), (n2, .inl (cyI, (1 + 64 + 400), .inl of)), (n3, .inl (cyI, 64, .inl nf)), (n4, .inl (cyJ, (1 + 64 + 400), .inr (.inl wf))), (ht, .inr (0, [.int (nI 128), .int (nI 1500), .ref t1, .ref t2, .ref t3, .ref t4, .int (nI tnc), .int (nI tic)])), (t1, .inl (cyI, (1 + 128 + 1500), .inl tlf)), (t2, .inl (cyI, (1 + 128 + 1500), .inl tof)), (t3, .inl (cyI, 128, .inl tnf)), (t4, .inl (cyJ, (1 + 128 + 1500), .inr (.inl twf))), (av, .inl (cyI, 465, .inl vl)), (au, .inl (cyI, 465, .inl tl)), (ab, .inl (cyI, 64, .inl bb)), (ai, .inl (cyI, 64, .inl tt)), (aw, .inl (cyJ, 465, .inr (.inl (vp_updL v j ((((v (ga / 2)) &&& (litW wf gb)) ||| ((v (gb / 2)) &&& (litW wf ga))) ||| ((v (ga / 2)) &&& (v (gb / 2))))))))] := hD
                refine lv_iinc (v := nI (j + 1)) (lv' := [(1, .int (nI (j + 1))), (6, .long (v (gb / 2))), (4, .long (v (ga / 2))), (3, .int (nI gb)), (2, .int (nI ga)), (0, .ref x)]) hx hb dX1_spreadTaints_141 hl (k := 4) rfl (n_inc _) (by decide) rfl (fun ls hl => ?_)
                refine lv_goto (tgt := 44) hx hb dX1_spreadTaints_144 (by decide) ?_
                exact ih (j + 1) (vp_updL v j (((v (ga / 2) &&& litW wf gb) ||| (v (gb / 2) &&& litW wf ga)) ||| (v (ga / 2) &&& v (gb / 2)))) (by omega) (by rw [tspr_g hg2, ← hv]) (by omega) _ _ _ hP hD hS (lv_sub hl [0, 5] rfl)
        exact lp44 _ 0 w (Nat.zero_le _) (by rw [hw, show k = ic by omega]; rfl) (Nat.lt_succ_self _) _ _ _ hP hD hS (lv_sub hl [0, 1] rfl)
      · have c10 := mt (nI_leI (by omega) (by omega)).mpr c10
        have hj := hin k (by omega)
        refine lv_aload_n hx hb dX1_spreadTaints_13 rfl (lv_at hl 1 rfl) ?_
        refine va_get (D := D) (ci := 1) (v := .ref aw) (C := RX1) (T := TX1) (N := 8) hx hb hts hiX1 hown hK hP 0 rfl rfl 7 (by decide) wf38 (fun _ h9 => h9) rfl dX1_spreadTaints_14 ?_
        refine lv_aload_n hx hb dX1_spreadTaints_17 rfl (lv_at hl 1 rfl) ?_
        refine va_get (D := D) (ci := 1) (v := .ref hn) (C := RX1) (T := TX1) (N := 8) hx hb hts hiX1 hown hK hP 0 rfl rfl 0 (by decide) wf14 (fun _ h9 => h9) rfl dX1_spreadTaints_18 ?_
        refine va_getN (D := D) (ci := 0) (v := .ref n3) (C := RX0) (T := TX0) (N := 8) hx hb hts hiX0 hown hK hP 1 rfl rfl 4 (by decide) wn126 (fun _ h9 => h9) rfl dX1_spreadTaints_21 ?_
        refine lv_iload_n hx hb dX1_spreadTaints_24 rfl (lv_at hl 0 rfl) ?_
        refine x_iald hx hb hK hP 4 0 rfl rfl (by omega) (by omega) dX1_spreadTaints_25 ?_
        refine x_top (show nf k = nI (inp k) from hj.1) ?_
        refine lv_aload_n hx hb dX1_spreadTaints_26 rfl (lv_at hl 1 rfl) ?_
        refine va_get (D := D) (ci := 1) (v := .ref ai) (C := RX1) (T := TX1) (N := 8) hx hb hts hiX1 hown hK hP 0 rfl rfl 6 (by decide) wf35 (fun _ h9 => h9) rfl dX1_spreadTaints_27 ?_
        refine lv_iload_n hx hb dX1_spreadTaints_30 rfl (lv_at hl 0 rfl) ?_
        refine x_iald hx hb hK hP 14 0 rfl rfl (by omega) (by omega) dX1_spreadTaints_31 ?_
        refine x_calll (wc := []) (wr := [(x, .inr (1, [.ref hn, .ref ht, .int tw, .ref av, .ref au, .ref ab, .ref ai, .ref aw])), (hn, .inr (0, [.int (nI 64), .int (nI 400), .ref n1, .ref n2, .ref n3, .ref n4, .int (nI l.length), .int (nI ic)])), (n1, .inl (cyI, (1 + 64 + 400), .inl lf)), (n2, .inl (cyI, (1 + 64 + 400), .inl of)), (n3, .inl (cyI, 64, .inl nf)), (n4, .inl (cyJ, (1 + 64 + 400), .inr (.inl wf))), (ht, .inr (0, [.int (nI 128), .int (nI 1500), .ref t1, .ref t2, .ref t3, .ref t4, .int (nI tnc), .int (nI tic)])), (t1, .inl (cyI, (1 + 128 + 1500), .inl tlf)), (t2, .inl (cyI, (1 + 128 + 1500), .inl tof)), (t3, .inl (cyI, 128, .inl tnf)), (t4, .inl (cyJ, (1 + 128 + 1500), .inr (.inl twf))), (av, .inl (cyI, 465, .inl vl)), (au, .inl (cyI, 465, .inl tl)), (ab, .inl (cyI, 64, .inl bb)), (ai, .inl (cyI, 64, .inl tt)), (aw, .inl (cyJ, 465, .inr (.inl w)))]) (w2 := fun (u : Unit) => [(x, .inr (1, [.ref hn, .ref ht, .int tw, .ref av, .ref au, .ref ab, .ref ai, .ref aw])), (hn, .inr (0, [.int (nI 64), .int (nI 400), .ref n1, .ref n2, .ref n3, .ref n4, .int (nI l.length), .int (nI ic)])), (n1, .inl (cyI, (1 + 64 + 400), .inl lf)), (n2, .inl (cyI, (1 + 64 + 400), .inl of)), (n3, .inl (cyI, 64, .inl nf)), (n4, .inl (cyJ, (1 + 64 + 400), .inr (.inl wf))), (ht, .inr (0, [.int (nI 128), .int (nI 1500), .ref t1, .ref t2, .ref t3, .ref t4, .int (nI tnc), .int (nI tic)])), (t1, .inl (cyI, (1 + 128 + 1500), .inl tlf)), (t2, .inl (cyI, (1 + 128 + 1500), .inl tof)), (t3, .inl (cyI, 128, .inl tnf)), (t4, .inl (cyJ, (1 + 128 + 1500), .inr (.inl twf))), (av, .inl (cyI, 465, .inl vl)), (au, .inl (cyI, 465, .inl tl)), (ab, .inl (cyI, 64, .inl bb)), (ai, .inl (cyI, 64, .inl tt)), (aw, .inl (cyJ, 465, .inr (.inl w)))]) [] [0, 1, 2, 3, 4, 5, 6, 7, 8, 9, 10, 11, 12, 13, 14, 15] [0, 1, 2, 3, 4, 5, 6, 7, 8, 9, 10, 11, 12, 13, 14, 15] (va_runS (As := [.int (tt k)]) (rest := [.int (nI (inp k)), .ref aw]) ⟨hx, hb, hml, hown, hts⟩ (c_X1_wordOfBit lch D cyI cyJ _ (tt k) ) (va_cwS 1 hts gX1_spreadTaints_X1_wordOfBit rfl rfl rfl (by decide +kernel) ⟨Nat.le_of_ble_eq_true rfl, Nat.le_of_ble_eq_true rfl⟩) (x_pre hK hNN (hP.sub (ws' := []) [] rfl) (hD.sub (ws' := []) [] (by decide) rfl) rfl rfl) rfl rfl hl.1 rfl (lv_room (Nat.le_of_ble_eq_true rfl)) dX1_spreadTaints_32 ⟨Nat.le_of_ble_eq_true rfl, Nat.le_of_ble_eq_true rfl⟩) rfl hP hD hS hA rfl rfl (by decide) (by decide) (fun _ => rfl) (by decide) (fun r32 u32 H locs hw32 hP hD hS hz32 => ?_)
        have hP : va_P D vwCl [(x, .inr (1, [.ref hn, .ref ht, .int tw, .ref av, .ref au, .ref ab, .ref ai, .ref aw])), (hn, .inr (0, [.int (nI 64), .int (nI 400), .ref n1, .ref n2, .ref n3, .ref n4, .int (nI l.length), .int (nI ic)])), (n1, .inl (cyI, (1 + 64 + 400), .inl lf)), (n2, .inl (cyI, (1 + 64 + 400), .inl of)), (n3, .inl (cyI, 64, .inl nf)), (n4, .inl (cyJ, (1 + 64 + 400), .inr (.inl wf))), (ht, .inr (0, [.int (nI 128), .int (nI 1500), .ref t1, .ref t2, .ref t3, .ref t4, .int (nI tnc), .int (nI tic)])), (t1, .inl (cyI, (1 + 128 + 1500), .inl tlf)), (t2, .inl (cyI, (1 + 128 + 1500), .inl tof)), (t3, .inl (cyI, 128, .inl tnf)), (t4, .inl (cyJ, (1 + 128 + 1500), .inr (.inl twf))), (av, .inl (cyI, 465, .inl vl)), (au, .inl (cyI, 465, .inl tl)), (ab, .inl (cyI, 64, .inl bb)), (ai, .inl (cyI, 64, .inl tt)), (aw, .inl (cyJ, 465, .inr (.inl w)))] H := hP
        have hD : va_D A [(x, .inr (1, [.ref hn, .ref ht, .int tw, .ref av, .ref au, .ref ab, .ref ai, .ref aw])), (hn, .inr (0, [.int (nI 64), .int (nI 400), .ref n1, .ref n2, .ref n3, .ref n4, .int (nI l.length), .int (nI ic)])), (n1, .inl (cyI, (1 + 64 + 400), .inl lf)), (n2, .inl (cyI, (1 + 64 + 400), .inl of)), (n3, .inl (cyI, 64, .inl nf)), (n4, .inl (cyJ, (1 + 64 + 400), .inr (.inl wf))), (ht, .inr (0, [.int (nI 128), .int (nI 1500), .ref t1, .ref t2, .ref t3, .ref t4, .int (nI tnc), .int (nI tic)])), (t1, .inl (cyI, (1 + 128 + 1500), .inl tlf)), (t2, .inl (cyI, (1 + 128 + 1500), .inl tof)), (t3, .inl (cyI, 128, .inl tnf)), (t4, .inl (cyJ, (1 + 128 + 1500), .inr (.inl twf))), (av, .inl (cyI, 465, .inl vl)), (au, .inl (cyI, 465, .inl tl)), (ab, .inl (cyI, 64, .inl bb)), (ai, .inl (cyI, 64, .inl tt)), (aw, .inl (cyJ, 465, .inr (.inl w)))] := hD
        have hw32 : r32 = wob (tt k) := hw32
        subst hw32
        refine W.widen (k := 0) (n := 0) (Nat.le_refl _) (Nat.le_refl _) ?_
        refine x_last hx hb hK hP hD hS 15 1 rfl rfl (by omega) (by omega) dX1_spreadTaints_35 (fun H locs hP hD hS => ?_)
        have hP : va_P D vwCl [(x, .inr (1, [.ref hn, .ref ht, .int tw, .ref av, .ref au, .ref ab, .ref ai, .ref aw])), (hn, .inr (0, [.int (nI 64), .int (nI 400), .ref n1, .ref n2, .ref n3, .ref n4, .int (nI l.length), .int (nI ic)])), (n1, .inl (cyI, (1 + 64 + 400), .inl lf)), (n2, .inl (cyI, (1 + 64 + 400), .inl of)), (n3, .inl (cyI, 64, .inl nf)), (n4, .inl (cyJ, (1 + 64 + 400), .inr (.inl wf))), (ht, .inr (0, [.int (nI 128), .int (nI 1500), .ref t1, .ref t2, .ref t3, .ref t4, .int (nI tnc), .int (nI tic)])), (t1, .inl (cyI, (1 + 128 + 1500), .inl tlf)), (t2, .inl (cyI, (1 + 128 + 1500), .inl tof)), (t3, .inl (cyI, 128, .inl tnf)), (t4, .inl (cyJ, (1 + 128 + 1500), .inr (.inl twf))), (av, .inl (cyI, 465, .inl vl)), (au, .inl (cyI, 465, .inl tl)), (ab, .inl (cyI, 64, .inl bb)), (ai, .inl (cyI, 64, .inl tt)), (aw, .inl (cyJ, 465, .inr (.inl (vp_updL w (inp k) (wob (tt k))))))] H := hP
        have hD : va_D A [(x, .inr (1, [.ref hn, .ref ht, .int tw, .ref av, .ref au, .ref ab, .ref ai, .ref aw])), (hn, .inr (0, [.int (nI 64), .int (nI 400), .ref n1, .ref n2, .ref n3, .ref n4, .int (nI l.length), .int (nI ic)])), (n1, .inl (cyI, (1 + 64 + 400), .inl lf)), (n2, .inl (cyI, (1 + 64 + 400), .inl of)), (n3, .inl (cyI, 64, .inl nf)), (n4, .inl (cyJ, (1 + 64 + 400), .inr (.inl wf))), (ht, .inr (0, [.int (nI 128), .int (nI 1500), .ref t1, .ref t2, .ref t3, .ref t4, .int (nI tnc), .int (nI tic)])), (t1, .inl (cyI, (1 + 128 + 1500), .inl tlf)), (t2, .inl (cyI, (1 + 128 + 1500), .inl tof)), (t3, .inl (cyI, 128, .inl tnf)), (t4, .inl (cyJ, (1 + 128 + 1500), .inr (.inl twf))), (av, .inl (cyI, 465, .inl vl)), (au, .inl (cyI, 465, .inl tl)), (ab, .inl (cyI, 64, .inl bb)), (ai, .inl (cyI, 64, .inl tt)), (aw, .inl (cyJ, 465, .inr (.inl (vp_updL w (inp k) (wob (tt k))))))] := hD
        refine lv_iinc (v := nI (k + 1)) (lv' := [(1, .int (nI (k + 1))), (0, .ref x)]) hx hb dX1_spreadTaints_36 hl (k := 0) rfl (n_inc _) (by decide) rfl (fun ls hl => ?_)
        refine lv_goto (tgt := 2) hx hb dX1_spreadTaints_39 (by decide) ?_
        exact ih (k + 1) (vp_updL w (inp k) (wob (tt k))) (by omega) (by rw [hw]; rfl) (by omega) _ _ _ hP hD hS (lv_sub hl [0, 1] rfl)
  exact lp2 _ 0 ww (Nat.zero_le _) rfl (Nat.lt_succ_self _) _ _ _ hP hD hS (lv_sub hl [0, 1] rfl)
set_option maxRecDepth 100000 in
theorem c_X0_bothO (lch : Launch) (D : va_G) (cyI cyJ : ClassId) (sz : Nat) (h : Nat) (a1 : Nat) (a2 : Nat) (a3 : Nat) (a4 : Nat) (M1 : Nat) (M2 : Nat) (lf : Nat → Int32) (of : Nat → Int32) (nf : Nat → Int32) (wf : Nat → Int64) (ic : Nat) (l : NT) (xo : Option Nat) (yo : Option Nat) (hok : nOK l) (hrp : rpN l lf of) (hg : nGates l + 1 + ic = l.length) (hgM : nGates l ≤ M2) (hic : ic ≤ M1) (hMM : M1 + M2 < 10000) (hxo : vO l.length xo) (hyo : vO l.length yo) : Met lch yX0_both wsX0_both ({ frames := 2, cells := 0, slots := 0, locals := 46 } : Room) (va_Pc [.ref h, .int (eO xo), .int (eO yo)] (xA D (xTy cyI cyJ) sz [(h, .inr (0, [.int (nI M1), .int (nI M2), .ref a1, .ref a2, .ref a3, .ref a4, .int (nI l.length), .int (nI ic)])), (a1, .inl (cyI, (1 + M1 + M2), .inl lf)), (a2, .inl (cyI, (1 + M1 + M2), .inl of)), (a3, .inl (cyI, M1, .inl nf)), (a4, .inl (cyJ, (1 + M1 + M2), .inr (.inl wf)))])) (va_Qi (fun (r : Int32) (u : (Nat → Int32) × (Nat → Int32)) => r = eO (nAnd M2 l xo yo).1 ∧ rpN (nAnd M2 l xo yo).2 u.1 u.2) (fun (u : (Nat → Int32) × (Nat → Int32)) t => xB D (xTy cyI cyJ) sz [(h, .inr (0, [.int (nI M1), .int (nI M2), .ref a1, .ref a2, .ref a3, .ref a4, .int (nI l.length), .int (nI ic)])), (a1, .inl (cyI, (1 + M1 + M2), .inl lf)), (a2, .inl (cyI, (1 + M1 + M2), .inl of)), (a3, .inl (cyI, M1, .inl nf)), (a4, .inl (cyJ, (1 + M1 + M2), .inr (.inl wf)))] [(h, .inr (0, [.int (nI M1), .int (nI M2), .ref a1, .ref a2, .ref a3, .ref a4, .int (nI ((nAnd M2 l xo yo).2.length)), .int (nI ic)])), (a1, .inl (cyI, (1 + M1 + M2), .inl u.1)), (a2, .inl (cyI, (1 + M1 + M2), .inl u.2)), (a3, .inl (cyI, M1, .inl nf)), (a4, .inl (cyJ, (1 + M1 + M2), .inr (.inl wf)))] t) (va_A [(h, .inr (0, [.int (nI M1), .int (nI M2), .ref a1, .ref a2, .ref a3, .ref a4, .int (nI l.length), .int (nI ic)])), (a1, .inl (cyI, (1 + M1 + M2), .inl lf)), (a2, .inl (cyI, (1 + M1 + M2), .inl of)), (a3, .inl (cyI, M1, .inl nf)), (a4, .inl (cyJ, (1 + M1 + M2), .inr (.inl wf)))] sz)) 0 0 (va_A [(h, .inr (0, [.int (nI M1), .int (nI M2), .ref a1, .ref a2, .ref a3, .ref a4, .int (nI l.length), .int (nI ic)])), (a1, .inl (cyI, (1 + M1 + M2), .inl lf)), (a2, .inl (cyI, (1 + M1 + M2), .inl of)), (a3, .inl (cyI, M1, .inl nf)), (a4, .inl (cyJ, (1 + M1 + M2), .inr (.inl wf)))] sz) := by
  have hN5 : l.length < 100000 := by omega
  have hc := c_X0_both lch D cyI cyJ sz h a1 a2 a3 a4 M1 M2 lf of nf wf ic l (eO xo) (eO yo) hok hrp hg hgM hic hMM
  rw [dO_eO hN5 hxo, dO_eO hN5 hyo] at hc
  exact hc
set_option maxRecDepth 100000 in
theorem c_X0_eitherO (lch : Launch) (D : va_G) (cyI cyJ : ClassId) (sz : Nat) (h : Nat) (a1 : Nat) (a2 : Nat) (a3 : Nat) (a4 : Nat) (M1 : Nat) (M2 : Nat) (lf : Nat → Int32) (of : Nat → Int32) (nf : Nat → Int32) (wf : Nat → Int64) (ic : Nat) (l : NT) (xo : Option Nat) (yo : Option Nat) (hok : nOK l) (hrp : rpN l lf of) (hg : nGates l + 1 + ic = l.length) (hgM : nGates l ≤ M2) (hic : ic ≤ M1) (hMM : M1 + M2 < 10000) (hxo : vO l.length xo) (hyo : vO l.length yo) : Met lch yX0_either wsX0_either ({ frames := 3, cells := 0, slots := 0, locals := 68 } : Room) (va_Pc [.ref h, .int (eO xo), .int (eO yo)] (xA D (xTy cyI cyJ) sz [(h, .inr (0, [.int (nI M1), .int (nI M2), .ref a1, .ref a2, .ref a3, .ref a4, .int (nI l.length), .int (nI ic)])), (a1, .inl (cyI, (1 + M1 + M2), .inl lf)), (a2, .inl (cyI, (1 + M1 + M2), .inl of)), (a3, .inl (cyI, M1, .inl nf)), (a4, .inl (cyJ, (1 + M1 + M2), .inr (.inl wf)))])) (va_Qi (fun (r : Int32) (u : (Nat → Int32) × (Nat → Int32)) => r = eO (nOr M2 l xo yo).1 ∧ rpN (nOr M2 l xo yo).2 u.1 u.2) (fun (u : (Nat → Int32) × (Nat → Int32)) t => xB D (xTy cyI cyJ) sz [(h, .inr (0, [.int (nI M1), .int (nI M2), .ref a1, .ref a2, .ref a3, .ref a4, .int (nI l.length), .int (nI ic)])), (a1, .inl (cyI, (1 + M1 + M2), .inl lf)), (a2, .inl (cyI, (1 + M1 + M2), .inl of)), (a3, .inl (cyI, M1, .inl nf)), (a4, .inl (cyJ, (1 + M1 + M2), .inr (.inl wf)))] [(h, .inr (0, [.int (nI M1), .int (nI M2), .ref a1, .ref a2, .ref a3, .ref a4, .int (nI ((nOr M2 l xo yo).2.length)), .int (nI ic)])), (a1, .inl (cyI, (1 + M1 + M2), .inl u.1)), (a2, .inl (cyI, (1 + M1 + M2), .inl u.2)), (a3, .inl (cyI, M1, .inl nf)), (a4, .inl (cyJ, (1 + M1 + M2), .inr (.inl wf)))] t) (va_A [(h, .inr (0, [.int (nI M1), .int (nI M2), .ref a1, .ref a2, .ref a3, .ref a4, .int (nI l.length), .int (nI ic)])), (a1, .inl (cyI, (1 + M1 + M2), .inl lf)), (a2, .inl (cyI, (1 + M1 + M2), .inl of)), (a3, .inl (cyI, M1, .inl nf)), (a4, .inl (cyJ, (1 + M1 + M2), .inr (.inl wf)))] sz)) 0 0 (va_A [(h, .inr (0, [.int (nI M1), .int (nI M2), .ref a1, .ref a2, .ref a3, .ref a4, .int (nI l.length), .int (nI ic)])), (a1, .inl (cyI, (1 + M1 + M2), .inl lf)), (a2, .inl (cyI, (1 + M1 + M2), .inl of)), (a3, .inl (cyI, M1, .inl nf)), (a4, .inl (cyJ, (1 + M1 + M2), .inr (.inl wf)))] sz) := by
  have hN5 : l.length < 100000 := by omega
  have hc := c_X0_either lch D cyI cyJ sz h a1 a2 a3 a4 M1 M2 lf of nf wf ic l (eO xo) (eO yo) hok hrp hg hgM hic hMM
  rw [dO_eO hN5 hxo, dO_eO hN5 hyo] at hc
  exact hc
end
section
/-! the twin, as a pure thing: built gate by gate; none when it would have too many gates -/
def kept (M : Nat) (l : NT) (R : Option Nat × NT) : Prop := nOK R.2 ∧ vO R.2.length R.1 ∧ nGates R.2 ≤ M ∧ nGates R.2 + l.length = nGates l + R.2.length ∧ l.length ≤ R.2.length ∧ ∃ r, R.2 = l ++ r
theorem kept_and {M : Nat} {l : NT} {x y : Option Nat} (hok : nOK l) (hx : vO l.length x) (hy : vO l.length y) (hM : nGates l ≤ M) : kept M l (nAnd M l x y) := by
  obtain ⟨h1, h2, h3, ⟨r, h4, h5, h6⟩, h7⟩ := nAnd_keeps (M := M) hok hx hy hM
  refine ⟨h1, h2, h3, ?_, h7, r, h4⟩
  have := congrArg List.length h4
  rw [List.length_append] at this
  omega
theorem kept_or {M : Nat} {l : NT} {x y : Option Nat} (hok : nOK l) (hx : vO l.length x) (hy : vO l.length y) (hM : nGates l ≤ M) : kept M l (nOr M l x y) := by
  obtain ⟨h1, h2, h3, h4, h5, h6⟩ := kept_and (M := M) hok (vO_not hx) (vO_not hy) hM
  exact ⟨h1, vO_not h2, h3, h4, h5, h6⟩
theorem kept_tr {M : Nat} {l : NT} {R S : Option Nat × NT} (h : kept M l R) (k : kept M R.2 S) : kept M l S := by
  obtain ⟨-, -, -, h4, h5, r, h6⟩ := h
  obtain ⟨k1, k2, k3, k4, k5, q, k6⟩ := k
  exact ⟨k1, k2, k3, by omega, by omega, r ++ q, by rw [k6, h6, List.append_assoc]⟩
def G1 (t : NT) (va vb _ta _tb : Nat) : Option Nat × NT := nAnd 1500 t (some va) (some vb)
def G2 (t : NT) (va vb ta tb : Nat) : Option Nat × NT := nAnd 1500 (G1 t va vb ta tb).2 (some ta) (some vb)
def G3 (t : NT) (va vb ta tb : Nat) : Option Nat × NT := nAnd 1500 (G2 t va vb ta tb).2 (some tb) (some va)
def G4 (t : NT) (va vb ta tb : Nat) : Option Nat × NT := nOr 1500 (G3 t va vb ta tb).2 (G2 t va vb ta tb).1 (G3 t va vb ta tb).1
def G5 (t : NT) (va vb ta tb : Nat) : Option Nat × NT := nAnd 1500 (G4 t va vb ta tb).2 (some ta) (some tb)
def G6 (t : NT) (va vb ta tb : Nat) : Option Nat × NT := nOr 1500 (G5 t va vb ta tb).2 (G4 t va vb ta tb).1 (G5 t va vb ta tb).1
def tGate (t : NT) (va vb ta tb : Nat) : Option (NT × Nat × Nat) := match (G1 t va vb ta tb).1, (G6 t va vb ta tb).1 with
  | some v, some u => some ((G6 t va vb ta tb).2, v, u)
  | _, _ => none
theorem vO_some {n k : Nat} (h : k < 2 * n) : vO n (some k) := fun j hj => by cases hj; exact h
theorem G_ok {t : NT} {va vb ta tb : Nat} (tok : nOK t) (tgM : nGates t ≤ 1500) (h1 : va < 2 * t.length) (h2 : vb < 2 * t.length) (h3 : ta < 2 * t.length) (h4 : tb < 2 * t.length) :
    kept 1500 t (G1 t va vb ta tb) ∧ kept 1500 t (G2 t va vb ta tb) ∧ kept 1500 t (G3 t va vb ta tb) ∧ kept 1500 t (G4 t va vb ta tb) ∧ kept 1500 t (G5 t va vb ta tb) ∧ kept 1500 t (G6 t va vb ta tb) ∧
    vO (G3 t va vb ta tb).2.length (G2 t va vb ta tb).1 ∧ vO (G5 t va vb ta tb).2.length (G4 t va vb ta tb).1 ∧ vO (G6 t va vb ta tb).2.length (G1 t va vb ta tb).1 := by
  have k1 : kept 1500 t (G1 t va vb ta tb) := kept_and tok (vO_some h1) (vO_some h2) tgM
  have l1 := k1.2.2.2.2.1
  have k2' : kept 1500 (G1 t va vb ta tb).2 (G2 t va vb ta tb) := kept_and k1.1 (vO_some (by omega)) (vO_some (by omega)) k1.2.2.1
  have k2 := kept_tr k1 k2'
  have l2 := k2'.2.2.2.2.1
  have k3' : kept 1500 (G2 t va vb ta tb).2 (G3 t va vb ta tb) := kept_and k2.1 (vO_some (by omega)) (vO_some (by omega)) k2.2.2.1
  have k3 := kept_tr k2 k3'
  have l3 := k3'.2.2.2.2.1
  have v2 := vO_mono k2.2.1 l3
  have k4' : kept 1500 (G3 t va vb ta tb).2 (G4 t va vb ta tb) := kept_or k3.1 v2 k3.2.1 k3.2.2.1
  have k4 := kept_tr k3 k4'
  have l4 := k4'.2.2.2.2.1
  have k5' : kept 1500 (G4 t va vb ta tb).2 (G5 t va vb ta tb) := kept_and k4.1 (vO_some (by omega)) (vO_some (by omega)) k4.2.2.1
  have k5 := kept_tr k4 k5'
  have l5 := k5'.2.2.2.2.1
  have v4 := vO_mono k4.2.1 l5
  have k6' : kept 1500 (G5 t va vb ta tb).2 (G6 t va vb ta tb) := kept_or k5.1 v4 k5.2.1 k5.2.2.1
  have k6 := kept_tr k5 k6'
  have l6 := k6'.2.2.2.2.1
  exact ⟨k1, k2, k3, k4, k5, k6, v2, v4, vO_mono k1.2.1 (by omega)⟩
theorem eO_m1 {o : Option Nat} {n : Nat} (hn : n < 100000) (h : vO n o) : eO o = -1 ↔ o = none := by
  cases o with
  | none => simp [eO]
  | some k =>
    have := h k rfl
    constructor
    · intro z; exact absurd z (n_m1 (by omega))
    · intro z; cases z
theorem tGate_b (t : NT) (va vb ta tb : Nat) : (tGate t va vb ta tb).isSome = true ↔ ((G1 t va vb ta tb).1 ≠ none ∧ (G6 t va vb ta tb).1 ≠ none) := by
  unfold tGate
  cases (G1 t va vb ta tb).1 <;> cases (G6 t va vb ta tb).1 <;> simp
theorem tGate_s {t : NT} {va vb ta tb : Nat} {R : NT × Nat × Nat} (h : tGate t va vb ta tb = some R) : (G1 t va vb ta tb).1 = some R.2.1 ∧ (G6 t va vb ta tb).1 = some R.2.2 ∧ R.1 = (G6 t va vb ta tb).2 := by
  unfold tGate at h
  cases h1 : (G1 t va vb ta tb).1 with
  | none => rw [h1] at h; simp at h
  | some v =>
    cases h6 : (G6 t va vb ta tb).1 with
    | none => rw [h1, h6] at h; simp at h
    | some u =>
      rw [h1, h6] at h
      simp at h
      subst h
      exact ⟨rfl, rfl, rfl⟩
def updN (f : Nat → Nat) (k x : Nat) : Nat → Nat := fun j => if j = k then x else f j
theorem updN_s {f : Nat → Nat} {k x : Nat} : updN f k x k = x := by simp [updN]
theorem updN_n {f : Nat → Nat} {k x j : Nat} (h : j ≠ k) : updN f k x j = f j := by simp [updN, h]
def litN (V : Nat → Nat) (k : Nat) : Nat := if k % 2 = 0 then V (k / 2) else nNeg (V (k / 2))
theorem litN_lt {V : Nat → Nat} {k n : Nat} (h : V (k / 2) < 2 * n) : litN V k < 2 * n := by
  unfold litN; split
  · exact h
  · exact nNeg_lt h
theorem vit_N {vl : Nat → Int32} {V : Nat → Nat} {k : Nat} (h : vl (k / 2) = nI (V (k / 2))) (hb : V (k / 2) < 2 ^ 31) : vit vl k = nI (litN V k) := by
  unfold vit litN
  rw [h]
  split
  · rfl
  · exact notI_nI hb
def setN (inp g f : Nat → Nat) : Nat → (Nat → Nat)
  | 0 => f
  | i + 1 => updN (setN inp g f i) (inp i) (g i)
def setI (inp g : Nat → Nat) (f : Nat → Int32) : Nat → (Nat → Int32)
  | 0 => f
  | i + 1 => upd (setI inp g f i) (inp i) (nI (g i))
def tStep (l : NT) (S : Option (NT × (Nat → Nat) × (Nat → Nat))) (k : Nat) : Option (NT × (Nat → Nat) × (Nat → Nat)) := match S with
  | none => none
  | some S => match nAt l k with
    | none => some S
    | some q => (tGate S.1 (litN S.2.1 q.1) (litN S.2.1 q.2) (S.2.2 (q.1 / 2)) (S.2.2 (q.2 / 2))).map (fun R => (R.1, updN S.2.1 k R.2.1, updN S.2.2 k R.2.2))
def tLoop (l : NT) (S0 : NT × (Nat → Nat) × (Nat → Nat)) : Nat → Option (NT × (Nat → Nat) × (Nat → Nat))
  | 0 => some S0
  | k + 1 => tStep l (tLoop l S0 k) k
def tInit (inp : Nat → Nat) (ic : Nat) : NT × (Nat → Nat) × (Nat → Nat) := (List.replicate (1 + (ic + ic)) none, setN inp (fun i => 2 * (1 + i)) (fun _ => 0) ic, setN inp (fun i => 2 * (1 + (ic + i))) (fun _ => 0) ic)
def tBuild (l : NT) (inp : Nat → Nat) (ic : Nat) : Option (NT × (Nat → Nat) × (Nat → Nat)) := tLoop l (tInit inp ic) l.length
/-- a net with its inputs: what class and reference have in common -/
def NI (l : NT) (inp : Nat → Nat) (ic : Nat) : Prop := nOK l ∧ nGates l + 1 + ic = l.length ∧ nGates l ≤ 400 ∧ ic ≤ 64 ∧ (∀ i, i < ic → inp i < l.length ∧ 0 < inp i ∧ nAt l (inp i) = none) ∧ (∀ i j, i < ic → j < ic → inp i = inp j → i = j) ∧ (∀ k, k < l.length → nAt l k = none → k = 0 ∨ ∃ i, i < ic ∧ inp i = k)
theorem setN_in {inp g f : Nat → Nat} {ic : Nat} (hinj : ∀ i j, i < ic → j < ic → inp i = inp j → i = j) : ∀ n, n ≤ ic → ∀ i, i < n → setN inp g f n (inp i) = g i := by
  intro n
  induction n with
  | zero => intro _ i hi; omega
  | succ n ih =>
    intro hn i hi
    show updN (setN inp g f n) (inp n) (g n) (inp i) = g i
    by_cases e : i = n
    · subst e; exact updN_s
    · rw [updN_n (fun z => e (hinj i n (by omega) (by omega) z))]
      exact ih (by omega) i (by omega)
theorem setN_out {inp g f : Nat → Nat} {n k : Nat} (h : ∀ i, i < n → inp i ≠ k) : setN inp g f n k = f k := by
  induction n with
  | zero => rfl
  | succ n ih =>
    show updN (setN inp g f n) (inp n) (g n) k = f k
    rw [updN_n (fun z => h n (by omega) z.symm)]
    exact ih (fun i hi => h i (by omega))
theorem setI_in {inp g : Nat → Nat} {f : Nat → Int32} {ic : Nat} (hinj : ∀ i j, i < ic → j < ic → inp i = inp j → i = j) : ∀ n, n ≤ ic → ∀ i, i < n → setI inp g f n (inp i) = nI (g i) := by
  intro n
  induction n with
  | zero => intro _ i hi; omega
  | succ n ih =>
    intro hn i hi
    show upd (setI inp g f n) (inp n) (nI (g n)) (inp i) = nI (g i)
    by_cases e : i = n
    · subst e; exact pk_us
    · rw [pk_un (fun z => e (hinj i n (by omega) (by omega) z))]
      exact ih (by omega) i (by omega)
theorem setI_out {inp g : Nat → Nat} {f : Nat → Int32} {n k : Nat} (h : ∀ i, i < n → inp i ≠ k) : setI inp g f n k = f k := by
  induction n with
  | zero => rfl
  | succ n ih =>
    show upd (setI inp g f n) (inp n) (nI (g n)) k = f k
    rw [pk_un (fun z => h n (by omega) z.symm)]
    exact ih (fun i hi => h i (by omega))
theorem nGates_rep (n : Nat) : nGates (List.replicate n none) = 0 := by
  induction n with
  | zero => rfl
  | succ n ih => rw [List.replicate_succ', nGates_none, ih]
theorem nAt_rep (n k : Nat) : nAt (List.replicate n none) k = none := by
  unfold nAt
  rw [List.getD_eq_getElem?_getD, List.getElem?_replicate]
  split <;> rfl
theorem nOK_rep (n : Nat) (h : 0 < n) : nOK (List.replicate n none) := ⟨by rw [List.length_replicate]; exact h, nAt_rep n 0, fun k a b hk => by rw [nAt_rep] at hk; cases hk⟩
/-- what holds of the twin while it is built -/
def tOK (l : NT) (ic k : Nat) (S : NT × (Nat → Nat) × (Nat → Nat)) : Prop := nOK S.1 ∧ nGates S.1 ≤ 1500 ∧ nGates S.1 + 1 + (ic + ic) = S.1.length ∧ ∀ j, j < l.length → (j < k ∨ nAt l j = none) → S.2.1 j < 2 * S.1.length ∧ S.2.2 j < 2 * S.1.length
theorem tInit_ok {l : NT} {inp : Nat → Nat} {ic : Nat} (h : NI l inp ic) : tOK l ic 0 (tInit inp ic) := by
  obtain ⟨-, -, -, -, hin, hinj, hcov⟩ := h
  refine ⟨nOK_rep _ (by omega), by show nGates (List.replicate (1 + (ic + ic)) none) ≤ 1500; rw [nGates_rep]; exact Nat.zero_le _, by show nGates (List.replicate (1 + (ic + ic)) none) + 1 + (ic + ic) = (List.replicate (1 + (ic + ic)) none).length; rw [nGates_rep, List.length_replicate, Nat.zero_add], fun j hj hz => ?_⟩
  have hz : nAt l j = none := hz.elim (fun z => absurd z (Nat.not_lt_zero j)) id
  show setN inp (fun i => 2 * (1 + i)) (fun _ => 0) ic j < 2 * (List.replicate (1 + (ic + ic)) (none : Option (Nat × Nat))).length ∧ setN inp (fun i => 2 * (1 + (ic + i))) (fun _ => 0) ic j < 2 * (List.replicate (1 + (ic + ic)) (none : Option (Nat × Nat))).length
  rw [List.length_replicate]
  rcases hcov j hj hz with rfl | ⟨i, hi, rfl⟩
  · have h0 : ∀ i, i < ic → inp i ≠ 0 := fun i hi z => by have := (hin i hi).2.1; omega
    rw [setN_out h0, setN_out h0]; omega
  · rw [setN_in hinj ic (Nat.le_refl _) i hi, setN_in hinj ic (Nat.le_refl _) i hi]; omega
theorem tStep_ok {l : NT} {ic k : Nat} {S S' : NT × (Nat → Nat) × (Nat → Nat)} (hok : nOK l) (hk : k < l.length) (h : tOK l ic k S) (e : tStep l (some S) k = some S') : tOK l ic (k + 1) S' := by
  obtain ⟨h1, h2, h3, h4⟩ := h
  cases hg : nAt l k with
  | none =>
    simp only [tStep, hg] at e
    cases e
    refine ⟨h1, h2, h3, fun j hj hz => h4 j hj ?_⟩
    by_cases ej : j = k
    · subst ej; exact Or.inr hg
    · exact hz.imp (fun z => by omega) id
  | some q =>
    simp only [tStep, hg, Option.map_eq_some_iff] at e
    obtain ⟨R, hR, rfl⟩ := e
    obtain ⟨a, b⟩ := q
    have hR : tGate S.1 (litN S.2.1 a) (litN S.2.1 b) (S.2.2 (a / 2)) (S.2.2 (b / 2)) = some R := hR
    have hq := hok.2.2 k a b hg
    have ha := h4 (a / 2) (by omega) (Or.inl (by omega))
    have hb := h4 (b / 2) (by omega) (Or.inl (by omega))
    obtain ⟨k1, -, -, -, -, k6, -, -, v1⟩ := G_ok h1 h2 (litN_lt ha.1) (litN_lt hb.1) ha.2 hb.2
    obtain ⟨e1, e6, eR⟩ := tGate_s hR
    obtain ⟨c1, c2, c3, c4, c5, -⟩ := k6
    refine ⟨by show nOK R.1; rw [eR]; exact c1, by show nGates R.1 ≤ 1500; rw [eR]; exact c3, by show nGates R.1 + 1 + (ic + ic) = R.1.length; rw [eR]; omega, fun j hj hz => ?_⟩
    show updN S.2.1 k R.2.1 j < 2 * R.1.length ∧ updN S.2.2 k R.2.2 j < 2 * R.1.length
    rw [eR]
    by_cases ej : j = k
    · subst ej
      rw [updN_s, updN_s]
      exact ⟨v1 _ e1, c2 _ e6⟩
    · rw [updN_n ej, updN_n ej]
      have h5 := h4 j hj (hz.imp (fun z => by omega) id)
      omega
theorem tLoop_ok {l : NT} {inp : Nat → Nat} {ic : Nat} (h : NI l inp ic) : ∀ k, k ≤ l.length → ∀ S, tLoop l (tInit inp ic) k = some S → tOK l ic k S := by
  intro k
  induction k with
  | zero => intro _ S e; cases e; exact tInit_ok h
  | succ k ih =>
    intro hk S e
    have e : tStep l (tLoop l (tInit inp ic) k) k = some S := e
    cases e2 : tLoop l (tInit inp ic) k with
    | none => rw [e2] at e; cases e
    | some S2 => rw [e2] at e; exact tStep_ok h.1 (by omega) (ih (by omega) S2 e2) e
theorem tLoop_none {l : NT} {S0 : NT × (Nat → Nat) × (Nat → Nat)} {k : Nat} (h : tLoop l S0 k = none) : ∀ n, k ≤ n → tLoop l S0 n = none := by
  intro n hn
  induction n with
  | zero => have : k = 0 := by omega
            subst this; exact h
  | succ n ih =>
    by_cases e : k = n + 1
    · subst e; exact h
    · show tStep l (tLoop l S0 n) n = none
      rw [ih (by omega)]
      rfl
end
section
/-! the twin's making: contracts by program (wip/whole/spec_x.py), and what their loops need -/
def twH (l : NT) (ic : Nat) (S : NT × (Nat → Nat) × (Nat → Nat)) (vl tl tlf tof tnf : Nat → Int32) (tnc tic : Nat) : Prop := rpN S.1 tlf tof ∧ tnc = S.1.length ∧ tic = ic + ic ∧ (∀ i, i < ic + ic → tnf i = nI (1 + i)) ∧ ∀ j, j < l.length → vl j = nI (S.2.1 j) ∧ tl j = nI (S.2.2 j)
theorem rp_one {f g : Nat → Int32} (h1 : f 0 = -1) (h2 : g 0 = -1) : rpN (List.replicate (1 + 0) none) f g := by
  intro k hk
  rw [List.length_replicate] at hk
  have e : k = 0 := by omega
  subst e
  rw [nAt_rep]
  exact ⟨h1, h2⟩
theorem rp_rep {n : Nat} {f g : Nat → Int32} (h : rpN (List.replicate n none) f g) : rpN (List.replicate (n + 1) none) (upd f n (-1)) (upd g n (-1)) := by
  have h2 := rpN_snoc h none
  rw [List.length_replicate] at h2
  rw [List.replicate_succ']
  exact h2
theorem rp_f3 {n : Nat} {f : Nat → Int32} (h : ∀ i, i < n → f i = nI (1 + i)) : ∀ i, i < n + 1 → upd f n (nI (1 + n)) i = nI (1 + i) := by
  intro i hi
  by_cases e : i = n
  · subst e; exact pk_us
  · rw [pk_un e]; exact h i (by omega)
theorem tI_val {l : NT} {inp : Nat → Nat} {ic : Nat} {vl tl : Nat → Int32} (h : NI l inp ic) : ∀ j, j < l.length → (j < 0 ∨ nAt l j = none) → setI inp (fun i => 2 * (1 + i)) (upd vl 0 (nI 0)) ic j = nI (setN inp (fun i => 2 * (1 + i)) (fun _ => 0) ic j) ∧ setI inp (fun i => 2 * (1 + (ic + i))) (upd tl 0 (nI 0)) ic j = nI (setN inp (fun i => 2 * (1 + (ic + i))) (fun _ => 0) ic j) := by
  obtain ⟨-, -, -, -, hin, hinj, hcov⟩ := h
  intro j hj hz
  have hz : nAt l j = none := hz.elim (fun z => absurd z (Nat.not_lt_zero j)) id
  rcases hcov j hj hz with rfl | ⟨i, hi, rfl⟩
  · have h0 : ∀ i, i < ic → inp i ≠ 0 := fun i hi z => by have := (hin i hi).2.1; omega
    rw [setN_out h0, setN_out h0, setI_out h0, setI_out h0, pk_us, pk_us]
    exact ⟨rfl, rfl⟩
  · rw [setN_in hinj ic (Nat.le_refl _) i hi, setN_in hinj ic (Nat.le_refl _) i hi, setI_in hinj ic (Nat.le_refl _) i hi, setI_in hinj ic (Nat.le_refl _) i hi]
    exact ⟨rfl, rfl⟩
theorem tL_n {l : NT} {S0 S : NT × (Nat → Nat) × (Nat → Nat)} {k : Nat} (hz : nAt l k = none) (hS : tLoop l S0 k = some S) : tLoop l S0 (k + 1) = some S := by
  show tStep l (tLoop l S0 k) k = some S
  rw [hS]
  simp only [tStep, hz]
theorem tL_g {l tn t3 : NT} {S0 : NT × (Nat → Nat) × (Nat → Nat)} {V T : Nat → Nat} {k a b v2 u2 : Nat} (hlk : nAt l k = some (a, b)) (hS : tLoop l S0 k = some (tn, V, T)) (hR : tGate tn (litN V a) (litN V b) (T (a / 2)) (T (b / 2)) = some (t3, v2, u2)) : tLoop l S0 (k + 1) = some ((G6 tn (litN V a) (litN V b) (T (a / 2)) (T (b / 2))).2, updN V k v2, updN T k u2) := by
  show tStep l (tLoop l S0 k) k = _
  rw [hS]
  simp only [tStep, hlk, hR, Option.map_some]
  have := (tGate_s hR).2.2
  rw [← this]
theorem tL_v {l tn t3 : NT} {V T : Nat → Nat} {v w : Nat → Int32} {k a b v2 u2 : Nat} (hV : ∀ j, j < l.length → (j < k ∨ nAt l j = none) → v j = nI (V j) ∧ w j = nI (T j)) (hR : tGate tn (litN V a) (litN V b) (T (a / 2)) (T (b / 2)) = some (t3, v2, u2)) : ∀ j, j < l.length → (j < k + 1 ∨ nAt l j = none) → upd v k (eO (G1 tn (litN V a) (litN V b) (T (a / 2)) (T (b / 2))).1) j = nI (updN V k v2 j) ∧ upd w k (eO (G6 tn (litN V a) (litN V b) (T (a / 2)) (T (b / 2))).1) j = nI (updN T k u2 j) := by
  intro j hj hz
  obtain ⟨e1, e6, -⟩ := tGate_s hR
  rw [e1, e6]
  by_cases e : j = k
  · subst e
    rw [pk_us, pk_us, updN_s, updN_s]
    exact ⟨rfl, rfl⟩
  · rw [pk_un e, pk_un e, updN_n e, updN_n e]
    exact hV j hj (hz.imp (fun z => by omega) id)
theorem tL_no {l tn : NT} {S0 : NT × (Nat → Nat) × (Nat → Nat)} {V T : Nat → Nat} {k a b : Nat} (hlk : nAt l k = some (a, b)) (hS : tLoop l S0 k = some (tn, V, T)) (hR : ¬ (tGate tn (litN V a) (litN V b) (T (a / 2)) (T (b / 2))).isSome = true) : ∀ n, k + 1 ≤ n → tLoop l S0 n = none := by
  refine tLoop_none ?_
  show tStep l (tLoop l S0 k) k = none
  have e : tGate tn (litN V a) (litN V b) (T (a / 2)) (T (b / 2)) = none := by
    cases h : tGate tn (litN V a) (litN V b) (T (a / 2)) (T (b / 2)) with
    | none => rfl
    | some R => rw [h] at hR; exact absurd rfl hR
  rw [hS]
  simp only [tStep, hlk, e, Option.map_none]
theorem tL_0 {l tn : NT} {V T : Nat → Nat} {k a b : Nat} {p q : Nat → Int32} (hok : nOK l) (tok : nOK tn) (tgM : nGates tn ≤ 1500) (hlk : nAt l k = some (a, b)) (hV : ∀ j, j < k → V j < 2 * tn.length ∧ T j < 2 * tn.length) (hR : rpN (G6 tn (litN V a) (litN V b) (T (a / 2)) (T (b / 2))).2 p q) : p 0 = -1 ∧ q 0 = -1 := by
  have hab := hok.2.2 k a b hlk
  have ha := hV (a / 2) (by omega)
  have hb := hV (b / 2) (by omega)
  obtain ⟨-, -, -, -, -, K6, -⟩ := G_ok tok tgM (litN_lt ha.1) (litN_lt hb.1) ha.2 hb.2
  have h := hR 0 K6.1.1
  rw [K6.1.2.1] at h
  exact h
set_option maxHeartbeats 4000000 in
set_option maxRecDepth 100000 in
theorem c_X1_twinInputs (lch : Launch) (D : va_G) (cyI cyJ : ClassId) (sz : Nat) (x : Nat) (hn : Nat) (n1 : Nat) (n2 : Nat) (n3 : Nat) (n4 : Nat) (ht : Nat) (t1 : Nat) (t2 : Nat) (t3 : Nat) (t4 : Nat) (av : Nat) (au : Nat) (ab : Nat) (ai : Nat) (aw : Nat) (lf : Nat → Int32) (of : Nat → Int32) (nf : Nat → Int32) (wf : Nat → Int64) (nc : Nat) (ic : Nat) (tlf : Nat → Int32) (tof : Nat → Int32) (tnf : Nat → Int32) (twf : Nat → Int64) (tw : Int32) (vl : Nat → Int32) (tl : Nat → Int32) (bb : Nat → Int32) (tt : Nat → Int32) (ww : Nat → Int64) (inp : Nat → Nat) (hin : ∀ i, i < ic → nf i = nI (inp i) ∧ inp i < 465) (hic : ic ≤ 64) (hz1 : tlf 0 = -1) (hz2 : tof 0 = -1) : Met lch yX1_twinInputs wsX1_twinInputs ({ frames := 2, cells := 0, slots := 0, locals := 43 } : Room) (va_Pc [.ref x] (xA D (xTy cyI cyJ) sz [(x, .inr (1, [.ref hn, .ref ht, .int tw, .ref av, .ref au, .ref ab, .ref ai, .ref aw])), (hn, .inr (0, [.int (nI 64), .int (nI 400), .ref n1, .ref n2, .ref n3, .ref n4, .int (nI nc), .int (nI ic)])), (n1, .inl (cyI, (1 + 64 + 400), .inl lf)), (n2, .inl (cyI, (1 + 64 + 400), .inl of)), (n3, .inl (cyI, 64, .inl nf)), (n4, .inl (cyJ, (1 + 64 + 400), .inr (.inl wf))), (ht, .inr (0, [.int (nI 128), .int (nI 1500), .ref t1, .ref t2, .ref t3, .ref t4, .int (nI 1), .int (nI 0)])), (t1, .inl (cyI, (1 + 128 + 1500), .inl tlf)), (t2, .inl (cyI, (1 + 128 + 1500), .inl tof)), (t3, .inl (cyI, 128, .inl tnf)), (t4, .inl (cyJ, (1 + 128 + 1500), .inr (.inl twf))), (av, .inl (cyI, 465, .inl vl)), (au, .inl (cyI, 465, .inl tl)), (ab, .inl (cyI, 64, .inl bb)), (ai, .inl (cyI, 64, .inl tt)), (aw, .inl (cyJ, 465, .inr (.inl ww)))])) (va_Qv (fun (u : (Nat → Int32) × (Nat → Int32) × (Nat → Int32)) => rpN (List.replicate (1 + (ic + ic)) none) u.1 u.2.1 ∧ (∀ i, i < ic + ic → u.2.2 i = nI (1 + i))) (fun (u : (Nat → Int32) × (Nat → Int32) × (Nat → Int32)) t => xB D (xTy cyI cyJ) sz [(x, .inr (1, [.ref hn, .ref ht, .int tw, .ref av, .ref au, .ref ab, .ref ai, .ref aw])), (hn, .inr (0, [.int (nI 64), .int (nI 400), .ref n1, .ref n2, .ref n3, .ref n4, .int (nI nc), .int (nI ic)])), (n1, .inl (cyI, (1 + 64 + 400), .inl lf)), (n2, .inl (cyI, (1 + 64 + 400), .inl of)), (n3, .inl (cyI, 64, .inl nf)), (n4, .inl (cyJ, (1 + 64 + 400), .inr (.inl wf))), (ht, .inr (0, [.int (nI 128), .int (nI 1500), .ref t1, .ref t2, .ref t3, .ref t4, .int (nI 1), .int (nI 0)])), (t1, .inl (cyI, (1 + 128 + 1500), .inl tlf)), (t2, .inl (cyI, (1 + 128 + 1500), .inl tof)), (t3, .inl (cyI, 128, .inl tnf)), (t4, .inl (cyJ, (1 + 128 + 1500), .inr (.inl twf))), (av, .inl (cyI, 465, .inl vl)), (au, .inl (cyI, 465, .inl tl)), (ab, .inl (cyI, 64, .inl bb)), (ai, .inl (cyI, 64, .inl tt)), (aw, .inl (cyJ, 465, .inr (.inl ww)))] [(x, .inr (1, [.ref hn, .ref ht, .int tw, .ref av, .ref au, .ref ab, .ref ai, .ref aw])), (hn, .inr (0, [.int (nI 64), .int (nI 400), .ref n1, .ref n2, .ref n3, .ref n4, .int (nI nc), .int (nI ic)])), (n1, .inl (cyI, (1 + 64 + 400), .inl lf)), (n2, .inl (cyI, (1 + 64 + 400), .inl of)), (n3, .inl (cyI, 64, .inl nf)), (n4, .inl (cyJ, (1 + 64 + 400), .inr (.inl wf))), (ht, .inr (0, [.int (nI 128), .int (nI 1500), .ref t1, .ref t2, .ref t3, .ref t4, .int (nI (1 + (ic + ic))), .int (nI (ic + ic))])), (t1, .inl (cyI, (1 + 128 + 1500), .inl u.1)), (t2, .inl (cyI, (1 + 128 + 1500), .inl u.2.1)), (t3, .inl (cyI, 128, .inl u.2.2)), (t4, .inl (cyJ, (1 + 128 + 1500), .inr (.inl twf))), (av, .inl (cyI, 465, .inl (setI inp (fun i => 2 * (1 + i)) (upd vl 0 (nI 0)) ic))), (au, .inl (cyI, 465, .inl (setI inp (fun i => 2 * (1 + (ic + i))) (upd tl 0 (nI 0)) ic))), (ab, .inl (cyI, 64, .inl bb)), (ai, .inl (cyI, 64, .inl tt)), (aw, .inl (cyJ, 465, .inr (.inl ww)))] t) (va_A [(x, .inr (1, [.ref hn, .ref ht, .int tw, .ref av, .ref au, .ref ab, .ref ai, .ref aw])), (hn, .inr (0, [.int (nI 64), .int (nI 400), .ref n1, .ref n2, .ref n3, .ref n4, .int (nI nc), .int (nI ic)])), (n1, .inl (cyI, (1 + 64 + 400), .inl lf)), (n2, .inl (cyI, (1 + 64 + 400), .inl of)), (n3, .inl (cyI, 64, .inl nf)), (n4, .inl (cyJ, (1 + 64 + 400), .inr (.inl wf))), (ht, .inr (0, [.int (nI 128), .int (nI 1500), .ref t1, .ref t2, .ref t3, .ref t4, .int (nI 1), .int (nI 0)])), (t1, .inl (cyI, (1 + 128 + 1500), .inl tlf)), (t2, .inl (cyI, (1 + 128 + 1500), .inl tof)), (t3, .inl (cyI, 128, .inl tnf)), (t4, .inl (cyJ, (1 + 128 + 1500), .inr (.inl twf))), (av, .inl (cyI, 465, .inl vl)), (au, .inl (cyI, 465, .inl tl)), (ab, .inl (cyI, 64, .inl bb)), (ai, .inl (cyI, 64, .inl tt)), (aw, .inl (cyJ, 465, .inr (.inl ww)))] sz)) 0 0 (va_A [(x, .inr (1, [.ref hn, .ref ht, .int tw, .ref av, .ref au, .ref ab, .ref ai, .ref aw])), (hn, .inr (0, [.int (nI 64), .int (nI 400), .ref n1, .ref n2, .ref n3, .ref n4, .int (nI nc), .int (nI ic)])), (n1, .inl (cyI, (1 + 64 + 400), .inl lf)), (n2, .inl (cyI, (1 + 64 + 400), .inl of)), (n3, .inl (cyI, 64, .inl nf)), (n4, .inl (cyJ, (1 + 64 + 400), .inr (.inl wf))), (ht, .inr (0, [.int (nI 128), .int (nI 1500), .ref t1, .ref t2, .ref t3, .ref t4, .int (nI 1), .int (nI 0)])), (t1, .inl (cyI, (1 + 128 + 1500), .inl tlf)), (t2, .inl (cyI, (1 + 128 + 1500), .inl tof)), (t3, .inl (cyI, 128, .inl tnf)), (t4, .inl (cyJ, (1 + 128 + 1500), .inr (.inl twf))), (av, .inl (cyI, 465, .inl vl)), (au, .inl (cyI, 465, .inl tl)), (ab, .inl (cyI, 64, .inl bb)), (ai, .inl (cyI, 64, .inl tt)), (aw, .inl (cyJ, 465, .inr (.inl ww)))] sz) := by
  refine x_met RX1 (by decide) rfl rfl (Nat.le_of_ble_eq_true rfl) ?_
  intro p e s m below meth c A Q hAe hQ hx hb hr hlocks hml hnm hts hown hNN hK hsz hP hD hS hA ls hl
  have wf25 := hts (.fieldLink RX1 25 "NetTwin" "valueLiteral" "[I") (by decide +kernel)
  have hiX1 : ∀ w ∈ u_ws RX1 TX1 8, w ∈ wsX1_twinInputs := by decide +kernel
  have wf29 := hts (.fieldLink RX1 29 "NetTwin" "taintLiteral" "[I") (by decide +kernel)
  have wf14 := hts (.fieldLink RX1 14 "NetTwin" "net" "LNetTwin$Net;") (by decide +kernel)
  have wn84 := hNN.get (args := ([.ref x] : List Value).toArray) (.fieldLinkNest "NetTwin" 84 "NetTwin$Net" "inputCount" "I" "NetTwin") (by decide +kernel)
  have hiX0 : ∀ w ∈ u_ws RX0 TX0 8, w ∈ wsX1_twinInputs := by decide +kernel
  have wn126 := hNN.get (args := ([.ref x] : List Value).toArray) (.fieldLinkNest "NetTwin" 126 "NetTwin$Net" "inputNode" "[I" "NetTwin") (by decide +kernel)
  have wf18 := hts (.fieldLink RX1 18 "NetTwin" "twin" "LNetTwin$Net;") (by decide +kernel)
  have wzX0 := hts (.initialized RX0) (by decide +kernel)
  have wm_yX0_addInput := hts (.instanceMethod yX0_addInput) (by decide +kernel)
  have we_yX0_addInput := hts (.selects RX0 yX0_addInput yX0_addInput) (by decide +kernel)
  have hP : va_P D vwCl [(x, .inr (1, [.ref hn, .ref ht, .int tw, .ref av, .ref au, .ref ab, .ref ai, .ref aw])), (hn, .inr (0, [.int (nI 64), .int (nI 400), .ref n1, .ref n2, .ref n3, .ref n4, .int (nI nc), .int (nI ic)])), (n1, .inl (cyI, (1 + 64 + 400), .inl lf)), (n2, .inl (cyI, (1 + 64 + 400), .inl of)), (n3, .inl (cyI, 64, .inl nf)), (n4, .inl (cyJ, (1 + 64 + 400), .inr (.inl wf))), (ht, .inr (0, [.int (nI 128), .int (nI 1500), .ref t1, .ref t2, .ref t3, .ref t4, .int (nI 1), .int (nI 0)])), (t1, .inl (cyI, (1 + 128 + 1500), .inl tlf)), (t2, .inl (cyI, (1 + 128 + 1500), .inl tof)), (t3, .inl (cyI, 128, .inl tnf)), (t4, .inl (cyJ, (1 + 128 + 1500), .inr (.inl twf))), (av, .inl (cyI, 465, .inl vl)), (au, .inl (cyI, 465, .inl tl)), (ab, .inl (cyI, 64, .inl bb)), (ai, .inl (cyI, 64, .inl tt)), (aw, .inl (cyJ, 465, .inr (.inl ww)))] s.heap := hP
  have hD : va_D A [(x, .inr (1, [.ref hn, .ref ht, .int tw, .ref av, .ref au, .ref ab, .ref ai, .ref aw])), (hn, .inr (0, [.int (nI 64), .int (nI 400), .ref n1, .ref n2, .ref n3, .ref n4, .int (nI nc), .int (nI ic)])), (n1, .inl (cyI, (1 + 64 + 400), .inl lf)), (n2, .inl (cyI, (1 + 64 + 400), .inl of)), (n3, .inl (cyI, 64, .inl nf)), (n4, .inl (cyJ, (1 + 64 + 400), .inr (.inl wf))), (ht, .inr (0, [.int (nI 128), .int (nI 1500), .ref t1, .ref t2, .ref t3, .ref t4, .int (nI 1), .int (nI 0)])), (t1, .inl (cyI, (1 + 128 + 1500), .inl tlf)), (t2, .inl (cyI, (1 + 128 + 1500), .inl tof)), (t3, .inl (cyI, 128, .inl tnf)), (t4, .inl (cyJ, (1 + 128 + 1500), .inr (.inl twf))), (av, .inl (cyI, 465, .inl vl)), (au, .inl (cyI, 465, .inl tl)), (ab, .inl (cyI, 64, .inl bb)), (ai, .inl (cyI, 64, .inl tt)), (aw, .inl (cyJ, 465, .inr (.inl ww)))] := hD
  have hl : lv_has ls 2 [(0, .ref x)] := hl
  refine lv_aload_n hx hb dX1_twinInputs_0 rfl (lv_at hl 0 rfl) ?_
  refine va_get (D := D) (ci := 1) (v := .ref av) (C := RX1) (T := TX1) (N := 8) hx hb hts hiX1 hown hK hP 0 rfl rfl 3 (by decide) wf25 (fun _ h9 => h9) rfl dX1_twinInputs_1 ?_
  refine lv_iconst (v := nI 0) hx hb dX1_twinInputs_4 (by decide) ?_
  refine lv_iconst (v := nI 0) hx hb dX1_twinInputs_5 (by decide) ?_
  refine x_iast hx hb hK hP hD hS 11 0 rfl rfl (by omega) (by omega) dX1_twinInputs_6 (fun H locs hP hD hS => ?_)
  have hP : va_P D vwCl [(x, .inr (1, [.ref hn, .ref ht, .int tw, .ref av, .ref au, .ref ab, .ref ai, .ref aw])), (hn, .inr (0, [.int (nI 64), .int (nI 400), .ref n1, .ref n2, .ref n3, .ref n4, .int (nI nc), .int (nI ic)])), (n1, .inl (cyI, (1 + 64 + 400), .inl lf)), (n2, .inl (cyI, (1 + 64 + 400), .inl of)), (n3, .inl (cyI, 64, .inl nf)), (n4, .inl (cyJ, (1 + 64 + 400), .inr (.inl wf))), (ht, .inr (0, [.int (nI 128), .int (nI 1500), .ref t1, .ref t2, .ref t3, .ref t4, .int (nI 1), .int (nI 0)])), (t1, .inl (cyI, (1 + 128 + 1500), .inl tlf)), (t2, .inl (cyI, (1 + 128 + 1500), .inl tof)), (t3, .inl (cyI, 128, .inl tnf)), (t4, .inl (cyJ, (1 + 128 + 1500), .inr (.inl twf))), (av, .inl (cyI, 465, .inl (upd vl 0 (nI 0)))), (au, .inl (cyI, 465, .inl tl)), (ab, .inl (cyI, 64, .inl bb)), (ai, .inl (cyI, 64, .inl tt)), (aw, .inl (cyJ, 465, .inr (.inl ww)))] H := hP
  have hD : va_D A [(x, .inr (1, [.ref hn, .ref ht, .int tw, .ref av, .ref au, .ref ab, .ref ai, .ref aw])), (hn, .inr (0, [.int (nI 64), .int (nI 400), .ref n1, .ref n2, .ref n3, .ref n4, .int (nI nc), .int (nI ic)])), (n1, .inl (cyI, (1 + 64 + 400), .inl lf)), (n2, .inl (cyI, (1 + 64 + 400), .inl of)), (n3, .inl (cyI, 64, .inl nf)), (n4, .inl (cyJ, (1 + 64 + 400), .inr (.inl wf))), (ht, .inr (0, [.int (nI 128), .int (nI 1500), .ref t1, .ref t2, .ref t3, .ref t4, .int (nI 1), .int (nI 0)])), (t1, .inl (cyI, (1 + 128 + 1500), .inl tlf)), (t2, .inl (cyI, (1 + 128 + 1500), .inl tof)), (t3, .inl (cyI, 128, .inl tnf)), (t4, .inl (cyJ, (1 + 128 + 1500), .inr (.inl twf))), (av, .inl (cyI, 465, .inl (upd vl 0 (nI 0)))), (au, .inl (cyI, 465, .inl tl)), (ab, .inl (cyI, 64, .inl bb)), (ai, .inl (cyI, 64, .inl tt)), (aw, .inl (cyJ, 465, .inr (.inl ww)))] := hD
  refine lv_aload_n hx hb dX1_twinInputs_7 rfl (lv_at hl 0 rfl) ?_
  refine va_get (D := D) (ci := 1) (v := .ref au) (C := RX1) (T := TX1) (N := 8) hx hb hts hiX1 hown hK hP 0 rfl rfl 4 (by decide) wf29 (fun _ h9 => h9) rfl dX1_twinInputs_8 ?_
  refine lv_iconst (v := nI 0) hx hb dX1_twinInputs_11 (by decide) ?_
  refine lv_iconst (v := nI 0) hx hb dX1_twinInputs_12 (by decide) ?_
  refine x_iast hx hb hK hP hD hS 12 0 rfl rfl (by omega) (by omega) dX1_twinInputs_13 (fun H locs hP hD hS => ?_)
  have hP : va_P D vwCl [(x, .inr (1, [.ref hn, .ref ht, .int tw, .ref av, .ref au, .ref ab, .ref ai, .ref aw])), (hn, .inr (0, [.int (nI 64), .int (nI 400), .ref n1, .ref n2, .ref n3, .ref n4, .int (nI nc), .int (nI ic)])), (n1, .inl (cyI, (1 + 64 + 400), .inl lf)), (n2, .inl (cyI, (1 + 64 + 400), .inl of)), (n3, .inl (cyI, 64, .inl nf)), (n4, .inl (cyJ, (1 + 64 + 400), .inr (.inl wf))), (ht, .inr (0, [.int (nI 128), .int (nI 1500), .ref t1, .ref t2, .ref t3, .ref t4, .int (nI 1), .int (nI 0)])), (t1, .inl (cyI, (1 + 128 + 1500), .inl tlf)), (t2, .inl (cyI, (1 + 128 + 1500), .inl tof)), (t3, .inl (cyI, 128, .inl tnf)), (t4, .inl (cyJ, (1 + 128 + 1500), .inr (.inl twf))), (av, .inl (cyI, 465, .inl (upd vl 0 (nI 0)))), (au, .inl (cyI, 465, .inl (upd tl 0 (nI 0)))), (ab, .inl (cyI, 64, .inl bb)), (ai, .inl (cyI, 64, .inl tt)), (aw, .inl (cyJ, 465, .inr (.inl ww)))] H := hP
  have hD : va_D A [(x, .inr (1, [.ref hn, .ref ht, .int tw, .ref av, .ref au, .ref ab, .ref ai, .ref aw])), (hn, .inr (0, [.int (nI 64), .int (nI 400), .ref n1, .ref n2, .ref n3, .ref n4, .int (nI nc), .int (nI ic)])), (n1, .inl (cyI, (1 + 64 + 400), .inl lf)), (n2, .inl (cyI, (1 + 64 + 400), .inl of)), (n3, .inl (cyI, 64, .inl nf)), (n4, .inl (cyJ, (1 + 64 + 400), .inr (.inl wf))), (ht, .inr (0, [.int (nI 128), .int (nI 1500), .ref t1, .ref t2, .ref t3, .ref t4, .int (nI 1), .int (nI 0)])), (t1, .inl (cyI, (1 + 128 + 1500), .inl tlf)), (t2, .inl (cyI, (1 + 128 + 1500), .inl tof)), (t3, .inl (cyI, 128, .inl tnf)), (t4, .inl (cyJ, (1 + 128 + 1500), .inr (.inl twf))), (av, .inl (cyI, 465, .inl (upd vl 0 (nI 0)))), (au, .inl (cyI, 465, .inl (upd tl 0 (nI 0)))), (ab, .inl (cyI, 64, .inl bb)), (ai, .inl (cyI, 64, .inl tt)), (aw, .inl (cyJ, 465, .inr (.inl ww)))] := hD
  refine lv_iconst (v := nI 0) hx hb dX1_twinInputs_14 (by decide) ?_
  refine lv_istore_n (lv' := [(1, .int (nI 0)), (0, .ref x)]) hx hb dX1_twinInputs_15 rfl hl (by decide) rfl (fun ls hl => ?_)
  have lp16 : ∀ n : Nat, ∀ (k : Nat) (f1 : Nat → Int32) (f2 : Nat → Int32) (f3 : Nat → Int32) (v : Nat → Int32) (hk : k ≤ ic) (hrp : rpN (List.replicate (1 + k) none) f1 f2) (hf3 : ∀ i, i < k → f3 i = nI (1 + i)) (hv : v = setI inp (fun i => 2 * (1 + i)) (upd vl 0 (nI 0)) k) (hme : ic - k < n) (H : Heap) (locs : List Loc) (ls : Array Slot), va_P D vwCl [(x, .inr (1, [.ref hn, .ref ht, .int tw, .ref av, .ref au, .ref ab, .ref ai, .ref aw])), (hn, .inr (0, [.int (nI 64), .int (nI 400), .ref n1, .ref n2, .ref n3, .ref n4, .int (nI nc), .int (nI ic)])), (n1, .inl (cyI, (1 + 64 + 400), .inl lf)), (n2, .inl (cyI, (1 + 64 + 400), .inl of)), (n3, .inl (cyI, 64, .inl nf)), (n4, .inl (cyJ, (1 + 64 + 400), .inr (.inl wf))), (ht, .inr (0, [.int (nI 128), .int (nI 1500), .ref t1, .ref t2, .ref t3, .ref t4, .int (nI (1 + k)), .int (nI k)])), (t1, .inl (cyI, (1 + 128 + 1500), .inl f1)), (t2, .inl (cyI, (1 + 128 + 1500), .inl f2)), (t3, .inl (cyI, 128, .inl f3)), (t4, .inl (cyJ, (1 + 128 + 1500), .inr (.inl twf))), (av, .inl (cyI, 465, .inl v)), (au, .inl (cyI, 465, .inl (upd tl 0 (nI 0)))), (ab, .inl (cyI, 64, .inl bb)), (ai, .inl (cyI, 64, .inl tt)), (aw, .inl (cyJ, 465, .inr (.inl ww)))] H → va_D A [(x, .inr (1, [.ref hn, .ref ht, .int tw, .ref av, .ref au, .ref ab, .ref ai, .ref aw])), (hn, .inr (0, [.int (nI 64), .int (nI 400), .ref n1, .ref n2, .ref n3, .ref n4, .int (nI nc), .int (nI ic)])), (n1, .inl (cyI, (1 + 64 + 400), .inl lf)), (n2, .inl (cyI, (1 + 64 + 400), .inl of)), (n3, .inl (cyI, 64, .inl nf)), (n4, .inl (cyJ, (1 + 64 + 400), .inr (.inl wf))), (ht, .inr (0, [.int (nI 128), .int (nI 1500), .ref t1, .ref t2, .ref t3, .ref t4, .int (nI (1 + k)), .int (nI k)])), (t1, .inl (cyI, (1 + 128 + 1500), .inl f1)), (t2, .inl (cyI, (1 + 128 + 1500), .inl f2)), (t3, .inl (cyI, 128, .inl f3)), (t4, .inl (cyJ, (1 + 128 + 1500), .inr (.inl twf))), (av, .inl (cyI, 465, .inl v)), (au, .inl (cyI, 465, .inl (upd tl 0 (nI 0)))), (ab, .inl (cyI, 64, .inl bb)), (ai, .inl (cyI, 64, .inl tt)), (aw, .inl (cyJ, 465, .inr (.inl ww)))] → va_S A s.heap H locs → lv_has ls 2 [(1, .int (nI k)), (0, .ref x)] → W p lch e ({ frames := 2, cells := 0, slots := 0, locals := 43 } : Room) s m ([.ref x] : List Value).toArray below meth c H locs 0 0 Q (F0 m 16 ls []) := by
    intro n
    induction n with
    | zero => intro k f1 f2 f3 v hk hrp hf3 hv hme H locs ls hP hD hS hl; exact absurd hme (Nat.not_lt_zero _)
    | succ n ih =>
      intro k f1 f2 f3 v hk hrp hf3 hv hme H locs ls hP hD hS hl
      refine lv_iload_n hx hb dX1_twinInputs_16 rfl (lv_at hl 0 rfl) ?_
      refine lv_aload_n hx hb dX1_twinInputs_17 rfl (lv_at hl 1 rfl) ?_
      refine va_get (D := D) (ci := 1) (v := .ref hn) (C := RX1) (T := TX1) (N := 8) hx hb hts hiX1 hown hK hP 0 rfl rfl 0 (by decide) wf14 (fun _ h9 => h9) rfl dX1_twinInputs_18 ?_
      refine va_getN (D := D) (ci := 0) (v := .int (nI ic)) (C := RX0) (T := TX0) (N := 8) hx hb hts hiX0 hown hK hP 1 rfl rfl 7 (by decide) wn84 (fun _ h9 => h9) rfl dX1_twinInputs_21 ?_
      refine lv_icmp_ge (tgt := 54) hx hb dX1_twinInputs_24 (by decide) (fun c24 => ?_) (fun c24 => ?_)
      · have c24 := (nI_leI (by omega) (by omega)).mp c24
        have hki : ic = k := by omega
        subst hki
        rw [hv] at hP hD
        refine lv_iconst (v := nI 0) hx hb dX1_twinInputs_54 (by decide) ?_
        refine lv_istore_n (lv' := [(1, .int (nI 0)), (0, .ref x)]) hx hb dX1_twinInputs_55 rfl hl (by decide) rfl (fun ls hl => ?_)
        have lp56 : ∀ n : Nat, ∀ (j : Nat) (f1 : Nat → Int32) (f2 : Nat → Int32) (f3 : Nat → Int32) (w : Nat → Int32) (hj : j ≤ ic) (hrp : rpN (List.replicate (1 + (ic + j)) none) f1 f2) (hf3 : ∀ i, i < ic + j → f3 i = nI (1 + i)) (hw : w = setI inp (fun i => 2 * (1 + (ic + i))) (upd tl 0 (nI 0)) j) (hme : ic - j < n) (H : Heap) (locs : List Loc) (ls : Array Slot), va_P D vwCl [(x, .inr (1, [.ref hn, .ref ht, .int tw, .ref av, .ref au, .ref ab, .ref ai, .ref aw])), (hn, .inr (0, [.int (nI 64), .int (nI 400), .ref n1, .ref n2, .ref n3, .ref n4, .int (nI nc), .int (nI ic)])), (n1, .inl (cyI, (1 + 64 + 400), .inl lf)), (n2, .inl (cyI, (1 + 64 + 400), .inl of)), (n3, .inl (cyI, 64, .inl nf)), (n4, .inl (cyJ, (1 + 64 + 400), .inr (.inl wf))), (ht, .inr (0, [.int (nI 128), .int (nI 1500), .ref t1, .ref t2, .ref t3, .ref t4, .int (nI (1 + (ic + j))), .int (nI (ic + j))])), (t1, .inl (cyI, (1 + 128 + 1500), .inl f1)), (t2, .inl (cyI, (1 + 128 + 1500), .inl f2)), (t3, .inl (cyI, 128, .inl f3)), (t4, .inl (cyJ, (1 + 128 + 1500), .inr (.inl twf))), (av, .inl (cyI, 465, .inl (setI inp (fun i => 2 * (1 + i)) (upd vl 0 (nI 0)) ic))), (au, .inl (cyI, 465, .inl w)), (ab, .inl (cyI, 64, .inl bb)), (ai, .inl (cyI, 64, .inl tt)), (aw, .inl (cyJ, 465, .inr (.inl ww)))] H → va_D A [(x, .inr (1, [.ref hn, .ref ht, .int tw, .ref av, .ref au, .ref ab, .ref ai, .ref aw])), (hn, .inr (0, [.int (nI 64), .int (nI 400), .ref n1, .ref n2, .ref n3, .ref n4, .int (nI nc), .int (nI ic)])), (n1, .inl (cyI, (1 + 64 + 400), .inl lf)), (n2, .inl (cyI, (1 + 64 + 400), .inl of)), (n3, .inl (cyI, 64, .inl nf)), (n4, .inl (cyJ, (1 + 64 + 400), .inr (.inl wf))), (ht, .inr (0, [.int (nI 128), .int (nI 1500), .ref t1, .ref t2, .ref t3, .ref t4, .int (nI (1 + (ic + j))), .int (nI (ic + j))])), (t1, .inl (cyI, (1 + 128 + 1500), .inl f1)), (t2, .inl (cyI, (1 + 128 + 1500), .inl f2)), (t3, .inl (cyI, 128, .inl f3)), (t4, .inl (cyJ, (1 + 128 + 1500), .inr (.inl twf))), (av, .inl (cyI, 465, .inl (setI inp (fun i => 2 * (1 + i)) (upd vl 0 (nI 0)) ic))), (au, .inl (cyI, 465, .inl w)), (ab, .inl (cyI, 64, .inl bb)), (ai, .inl (cyI, 64, .inl tt)), (aw, .inl (cyJ, 465, .inr (.inl ww)))] → va_S A s.heap H locs → lv_has ls 2 [(1, .int (nI j)), (0, .ref x)] → W p lch e ({ frames := 2, cells := 0, slots := 0, locals := 43 } : Room) s m ([.ref x] : List Value).toArray below meth c H locs 0 0 Q (F0 m 56 ls []) := by
          intro n
          induction n with
          | zero => intro j f1 f2 f3 w hj hrp hf3 hw hme H locs ls hP hD hS hl; exact absurd hme (Nat.not_lt_zero _)
          | succ n ih =>
            intro j f1 f2 f3 w hj hrp hf3 hw hme H locs ls hP hD hS hl
            refine lv_iload_n hx hb dX1_twinInputs_56 rfl (lv_at hl 0 rfl) ?_
            refine lv_aload_n hx hb dX1_twinInputs_57 rfl (lv_at hl 1 rfl) ?_
            refine va_get (D := D) (ci := 1) (v := .ref hn) (C := RX1) (T := TX1) (N := 8) hx hb hts hiX1 hown hK hP 0 rfl rfl 0 (by decide) wf14 (fun _ h9 => h9) rfl dX1_twinInputs_58 ?_
            refine va_getN (D := D) (ci := 0) (v := .int (nI ic)) (C := RX0) (T := TX0) (N := 8) hx hb hts hiX0 hown hK hP 1 rfl rfl 7 (by decide) wn84 (fun _ h9 => h9) rfl dX1_twinInputs_61 ?_
            refine lv_icmp_ge (tgt := 94) hx hb dX1_twinInputs_64 (by decide) (fun c64 => ?_) (fun c64 => ?_)
            · have c64 := (nI_leI (by omega) (by omega)).mp c64
              have hji : ic = j := by omega
              subst hji
              rw [hw] at hP hD
              exact x_vret hQ hAe hx hb hr hlocks hS hK (Nat.le_of_ble_eq_true rfl) (Nat.le_of_ble_eq_true rfl) dX1_twinInputs_94 (f1, f2, f3) hP hD (⟨hrp, hf3⟩)
            · have c64 := mt (nI_leI (by omega) (by omega)).mpr c64
              have hj2 := hin j (by omega)
              refine lv_aload_n hx hb dX1_twinInputs_67 rfl (lv_at hl 1 rfl) ?_
              refine va_get (D := D) (ci := 1) (v := .ref au) (C := RX1) (T := TX1) (N := 8) hx hb hts hiX1 hown hK hP 0 rfl rfl 4 (by decide) wf29 (fun _ h9 => h9) rfl dX1_twinInputs_68 ?_
              refine lv_aload_n hx hb dX1_twinInputs_71 rfl (lv_at hl 1 rfl) ?_
              refine va_get (D := D) (ci := 1) (v := .ref hn) (C := RX1) (T := TX1) (N := 8) hx hb hts hiX1 hown hK hP 0 rfl rfl 0 (by decide) wf14 (fun _ h9 => h9) rfl dX1_twinInputs_72 ?_
              refine va_getN (D := D) (ci := 0) (v := .ref n3) (C := RX0) (T := TX0) (N := 8) hx hb hts hiX0 hown hK hP 1 rfl rfl 4 (by decide) wn126 (fun _ h9 => h9) rfl dX1_twinInputs_75 ?_
              refine lv_iload_n hx hb dX1_twinInputs_78 rfl (lv_at hl 0 rfl) ?_
              refine x_iald hx hb hK hP 4 0 rfl rfl (by omega) (by omega) dX1_twinInputs_79 ?_
              refine x_top (show nf j = nI (inp j) from hj2.1) ?_
              refine lv_aload_n hx hb dX1_twinInputs_80 rfl (lv_at hl 1 rfl) ?_
              refine va_get (D := D) (ci := 1) (v := .ref ht) (C := RX1) (T := TX1) (N := 8) hx hb hts hiX1 hown hK hP 0 rfl rfl 1 (by decide) wf18 (fun _ h9 => h9) rfl dX1_twinInputs_81 ?_
              refine x_calli (wc := [(ht, .inr (0, [.int (nI 128), .int (nI 1500), .ref t1, .ref t2, .ref t3, .ref t4, .int (nI (1 + (ic + j))), .int (nI (ic + j))])), (t1, .inl (cyI, (1 + 128 + 1500), .inl f1)), (t2, .inl (cyI, (1 + 128 + 1500), .inl f2)), (t3, .inl (cyI, 128, .inl f3)), (t4, .inl (cyJ, (1 + 128 + 1500), .inr (.inl twf)))]) (wr := [(x, .inr (1, [.ref hn, .ref ht, .int tw, .ref av, .ref au, .ref ab, .ref ai, .ref aw])), (hn, .inr (0, [.int (nI 64), .int (nI 400), .ref n1, .ref n2, .ref n3, .ref n4, .int (nI nc), .int (nI ic)])), (n1, .inl (cyI, (1 + 64 + 400), .inl lf)), (n2, .inl (cyI, (1 + 64 + 400), .inl of)), (n3, .inl (cyI, 64, .inl nf)), (n4, .inl (cyJ, (1 + 64 + 400), .inr (.inl wf))), (av, .inl (cyI, 465, .inl (setI inp (fun i => 2 * (1 + i)) (upd vl 0 (nI 0)) ic))), (au, .inl (cyI, 465, .inl w)), (ab, .inl (cyI, 64, .inl bb)), (ai, .inl (cyI, 64, .inl tt)), (aw, .inl (cyJ, 465, .inr (.inl ww)))]) (w2 := fun (u : Unit) => [(x, .inr (1, [.ref hn, .ref ht, .int tw, .ref av, .ref au, .ref ab, .ref ai, .ref aw])), (hn, .inr (0, [.int (nI 64), .int (nI 400), .ref n1, .ref n2, .ref n3, .ref n4, .int (nI nc), .int (nI ic)])), (n1, .inl (cyI, (1 + 64 + 400), .inl lf)), (n2, .inl (cyI, (1 + 64 + 400), .inl of)), (n3, .inl (cyI, 64, .inl nf)), (n4, .inl (cyJ, (1 + 64 + 400), .inr (.inl wf))), (ht, .inr (0, [.int (nI 128), .int (nI 1500), .ref t1, .ref t2, .ref t3, .ref t4, .int (nI (1 + (ic + j) + 1)), .int (nI (ic + j + 1))])), (t1, .inl (cyI, (1 + 128 + 1500), .inl (upd f1 (1 + (ic + j)) (-1)))), (t2, .inl (cyI, (1 + 128 + 1500), .inl (upd f2 (1 + (ic + j)) (-1)))), (t3, .inl (cyI, 128, .inl (upd f3 (ic + j) (nI (1 + (ic + j)))))), (t4, .inl (cyJ, (1 + 128 + 1500), .inr (.inl twf))), (av, .inl (cyI, 465, .inl (setI inp (fun i => 2 * (1 + i)) (upd vl 0 (nI 0)) ic))), (au, .inl (cyI, 465, .inl w)), (ab, .inl (cyI, 64, .inl bb)), (ai, .inl (cyI, 64, .inl tt)), (aw, .inl (cyJ, 465, .inr (.inl ww)))]) [6, 7, 8, 9, 10] [0, 1, 2, 3, 4, 5, 11, 12, 13, 14, 15] [0, 1, 2, 3, 4, 5, 11, 12, 13, 14, 15, 6, 7, 8, 9, 10] (va_runVN (As := []) (rest := [.int (nI (inp j)), .ref au]) ⟨hx, hb, hml, hown, hts⟩ (c_X0_addInput lch D cyI cyJ _ ht t1 t2 t3 t4 128 1500 f1 f2 f3 twf (1 + (ic + j)) (ic + j) (by first | assumption | omega) (by first | assumption | omega) (by first | assumption | omega)) ⟨va_cnB 0 hts gX1_twinInputs_X0_addInput_n42 rfl rfl rfl (hNN.at (.methodLinkNest "NetTwin" 42 yX0_addInput "NetTwin") (by decide +kernel)) wzX0 (by decide +kernel) ⟨Nat.le_of_ble_eq_true rfl, Nat.le_of_ble_eq_true rfl⟩, wm_yX0_addInput, we_yX0_addInput⟩ (x_preV hK hNN (hP.sub (ws' := [(ht, .inr (0, [.int (nI 128), .int (nI 1500), .ref t1, .ref t2, .ref t3, .ref t4, .int (nI (1 + (ic + j))), .int (nI (ic + j))])), (t1, .inl (cyI, (1 + 128 + 1500), .inl f1)), (t2, .inl (cyI, (1 + 128 + 1500), .inl f2)), (t3, .inl (cyI, 128, .inl f3)), (t4, .inl (cyJ, (1 + 128 + 1500), .inr (.inl twf)))]) [6, 7, 8, 9, 10] rfl) (hD.sub (ws' := [(ht, .inr (0, [.int (nI 128), .int (nI 1500), .ref t1, .ref t2, .ref t3, .ref t4, .int (nI (1 + (ic + j))), .int (nI (ic + j))])), (t1, .inl (cyI, (1 + 128 + 1500), .inl f1)), (t2, .inl (cyI, (1 + 128 + 1500), .inl f2)), (t3, .inl (cyI, 128, .inl f3)), (t4, .inl (cyJ, (1 + 128 + 1500), .inr (.inl twf)))]) [6, 7, 8, 9, 10] (by decide) rfl) rfl rfl (ci := 0) (q0 := 0) rfl rfl rfl) rfl rfl hl.1 rfl (lv_room (Nat.le_of_ble_eq_true rfl)) dX1_twinInputs_84 ⟨Nat.le_of_ble_eq_true rfl, Nat.le_of_ble_eq_true rfl⟩) rfl hP hD hS hA rfl rfl (by decide) (by decide) (fun _ => rfl) (by decide) (fun r84 u84 H locs hw84 hP hD hS hz84 => ?_)
              have hP : va_P D vwCl [(x, .inr (1, [.ref hn, .ref ht, .int tw, .ref av, .ref au, .ref ab, .ref ai, .ref aw])), (hn, .inr (0, [.int (nI 64), .int (nI 400), .ref n1, .ref n2, .ref n3, .ref n4, .int (nI nc), .int (nI ic)])), (n1, .inl (cyI, (1 + 64 + 400), .inl lf)), (n2, .inl (cyI, (1 + 64 + 400), .inl of)), (n3, .inl (cyI, 64, .inl nf)), (n4, .inl (cyJ, (1 + 64 + 400), .inr (.inl wf))), (ht, .inr (0, [.int (nI 128), .int (nI 1500), .ref t1, .ref t2, .ref t3, .ref t4, .int (nI (1 + (ic + j) + 1)), .int (nI (ic + j + 1))])), (t1, .inl (cyI, (1 + 128 + 1500), .inl (upd f1 (1 + (ic + j)) (-1)))), (t2, .inl (cyI, (1 + 128 + 1500), .inl (upd f2 (1 + (ic + j)) (-1)))), (t3, .inl (cyI, 128, .inl (upd f3 (ic + j) (nI (1 + (ic + j)))))), (t4, .inl (cyJ, (1 + 128 + 1500), .inr (.inl twf))), (av, .inl (cyI, 465, .inl (setI inp (fun i => 2 * (1 + i)) (upd vl 0 (nI 0)) ic))), (au, .inl (cyI, 465, .inl w)), (ab, .inl (cyI, 64, .inl bb)), (ai, .inl (cyI, 64, .inl tt)), (aw, .inl (cyJ, 465, .inr (.inl ww)))] H := hP
              have hD : va_D A [(x, .inr (1, [.ref hn, .ref ht, .int tw, .ref av, .ref au, .ref ab, .ref ai, .ref aw])), (hn, .inr (0, [.int (nI 64), .int (nI 400), .ref n1, .ref n2, .ref n3, .ref n4, .int (nI nc), .int (nI ic)])), (n1, .inl (cyI, (1 + 64 + 400), .inl lf)), (n2, .inl (cyI, (1 + 64 + 400), .inl of)), (n3, .inl (cyI, 64, .inl nf)), (n4, .inl (cyJ, (1 + 64 + 400), .inr (.inl wf))), (ht, .inr (0, [.int (nI 128), .int (nI 1500), .ref t1, .ref t2, .ref t3, .ref t4, .int (nI (1 + (ic + j) + 1)), .int (nI (ic + j + 1))])), (t1, .inl (cyI, (1 + 128 + 1500), .inl (upd f1 (1 + (ic + j)) (-1)))), (t2, .inl (cyI, (1 + 128 + 1500), .inl (upd f2 (1 + (ic + j)) (-1)))), (t3, .inl (cyI, 128, .inl (upd f3 (ic + j) (nI (1 + (ic + j)))))), (t4, .inl (cyJ, (1 + 128 + 1500), .inr (.inl twf))), (av, .inl (cyI, 465, .inl (setI inp (fun i => 2 * (1 + i)) (upd vl 0 (nI 0)) ic))), (au, .inl (cyI, 465, .inl w)), (ab, .inl (cyI, 64, .inl bb)), (ai, .inl (cyI, 64, .inl tt)), (aw, .inl (cyJ, 465, .inr (.inl ww)))] := hD
              have hw84 : r84 = nI (2 * (1 + (ic + j))) := hw84
              subst hw84
              refine W.widen (k := 0) (n := 0) (Nat.le_refl _) (Nat.le_refl _) ?_
              refine x_iast hx hb hK hP hD hS 12 0 rfl rfl (by omega) (by omega) dX1_twinInputs_87 (fun H locs hP hD hS => ?_)
              have hP : va_P D vwCl [(x, .inr (1, [.ref hn, .ref ht, .int tw, .ref av, .ref au, .ref ab, .ref ai, .ref aw])), (hn, .inr (0, [.int (nI 64), .int (nI 400), .ref n1, .ref n2, .ref n3, .ref n4, .int (nI nc), .int (nI ic)])), (n1, .inl (cyI, (1 + 64 + 400), .inl lf)), (n2, .inl (cyI, (1 + 64 + 400), .inl of)), (n3, .inl (cyI, 64, .inl nf)), (n4, .inl (cyJ, (1 + 64 + 400), .inr (.inl wf))), (ht, .inr (0, [.int (nI 128), .int (nI 1500), .ref t1, .ref t2, .ref t3, .ref t4, .int (nI (1 + (ic + j) + 1)), .int (nI (ic + j + 1))])), (t1, .inl (cyI, (1 + 128 + 1500), .inl (upd f1 (1 + (ic + j)) (-1)))), (t2, .inl (cyI, (1 + 128 + 1500), .inl (upd f2 (1 + (ic + j)) (-1)))), (t3, .inl (cyI, 128, .inl (upd f3 (ic + j) (nI (1 + (ic + j)))))), (t4, .inl (cyJ, (1 + 128 + 1500), .inr (.inl twf))), (av, .inl (cyI, 465, .inl (setI inp (fun i => 2 * (1 + i)) (upd vl 0 (nI 0)) ic))), (au, .inl (cyI, 465, .inl (upd w (inp j) (nI (2 * (1 + (ic + j))))))), (ab, .inl (cyI, 64, .inl bb)), (ai, .inl (cyI, 64, .inl tt)), (aw, .inl (cyJ, 465, .inr (.inl ww)))] H := hP
              have hD : va_D A [(x, .inr (1, [.ref hn, .ref ht, .int tw, .ref av, .ref au, .ref ab, .ref ai, .ref aw])), (hn, .inr (0, [.int (nI 64), .int (nI 400), .ref n1, .ref n2, .ref n3, .ref n4, .int (nI nc), .int (nI ic)])), (n1, .inl (cyI, (1 + 64 + 400), .inl lf)), (n2, .inl (cyI, (1 + 64 + 400), .inl of)), (n3, .inl (cyI, 64, .inl nf)), (n4, .inl (cyJ, (1 + 64 + 400), .inr (.inl wf))), (ht, .inr (0, [.int (nI 128), .int (nI 1500), .ref t1, .ref t2, .ref t3, .ref t4, .int (nI (1 + (ic + j) + 1)), .int (nI (ic + j + 1))])), (t1, .inl (cyI, (1 + 128 + 1500), .inl (upd f1 (1 + (ic + j)) (-1)))), (t2, .inl (cyI, (1 + 128 + 1500), .inl (upd f2 (1 + (ic + j)) (-1)))), (t3, .inl (cyI, 128, .inl (upd f3 (ic + j) (nI (1 + (ic + j)))))), (t4, .inl (cyJ, (1 + 128 + 1500), .inr (.inl twf))), (av, .inl (cyI, 465, .inl (setI inp (fun i => 2 * (1 + i)) (upd vl 0 (nI 0)) ic))), (au, .inl (cyI, 465, .inl (upd w (inp j) (nI (2 * (1 + (ic + j))))))), (ab, .inl (cyI, 64, .inl bb)), (ai, .inl (cyI, 64, .inl tt)), (aw, .inl (cyJ, 465, .inr (.inl ww)))] := hD
              refine lv_iinc (v := nI (j + 1)) (lv' := [(1, .int (nI (j + 1))), (0, .ref x)]) hx hb dX1_twinInputs_88 hl (k := 0) rfl (n_inc _) (by decide) rfl (fun ls hl => ?_)
              refine lv_goto (tgt := 56) hx hb dX1_twinInputs_91 (by decide) ?_
              exact ih (j + 1) (upd f1 (1 + (ic + j)) (-1)) (upd f2 (1 + (ic + j)) (-1)) (upd f3 (ic + j) (nI (1 + (ic + j)))) (upd w (inp j) (nI (2 * (1 + (ic + j))))) (by omega) (rp_rep hrp) (rp_f3 hf3) (by rw [hw]; rfl) (by omega) _ _ _ hP hD hS (lv_sub hl [0, 1] rfl)
        exact lp56 _ 0 f1 f2 f3 (upd tl 0 (nI 0)) (Nat.zero_le _) hrp hf3 rfl (Nat.lt_succ_self _) _ _ _ hP hD hS (lv_sub hl [0, 1] rfl)
      · have c24 := mt (nI_leI (by omega) (by omega)).mpr c24
        have hj := hin k (by omega)
        refine lv_aload_n hx hb dX1_twinInputs_27 rfl (lv_at hl 1 rfl) ?_
        refine va_get (D := D) (ci := 1) (v := .ref av) (C := RX1) (T := TX1) (N := 8) hx hb hts hiX1 hown hK hP 0 rfl rfl 3 (by decide) wf25 (fun _ h9 => h9) rfl dX1_twinInputs_28 ?_
        refine lv_aload_n hx hb dX1_twinInputs_31 rfl (lv_at hl 1 rfl) ?_
        refine va_get (D := D) (ci := 1) (v := .ref hn) (C := RX1) (T := TX1) (N := 8) hx hb hts hiX1 hown hK hP 0 rfl rfl 0 (by decide) wf14 (fun _ h9 => h9) rfl dX1_twinInputs_32 ?_
        refine va_getN (D := D) (ci := 0) (v := .ref n3) (C := RX0) (T := TX0) (N := 8) hx hb hts hiX0 hown hK hP 1 rfl rfl 4 (by decide) wn126 (fun _ h9 => h9) rfl dX1_twinInputs_35 ?_
        refine lv_iload_n hx hb dX1_twinInputs_38 rfl (lv_at hl 0 rfl) ?_
        refine x_iald hx hb hK hP 4 0 rfl rfl (by omega) (by omega) dX1_twinInputs_39 ?_
        refine x_top (show nf k = nI (inp k) from hj.1) ?_
        refine lv_aload_n hx hb dX1_twinInputs_40 rfl (lv_at hl 1 rfl) ?_
        refine va_get (D := D) (ci := 1) (v := .ref ht) (C := RX1) (T := TX1) (N := 8) hx hb hts hiX1 hown hK hP 0 rfl rfl 1 (by decide) wf18 (fun _ h9 => h9) rfl dX1_twinInputs_41 ?_
        refine x_calli (wc := [(ht, .inr (0, [.int (nI 128), .int (nI 1500), .ref t1, .ref t2, .ref t3, .ref t4, .int (nI (1 + k)), .int (nI k)])), (t1, .inl (cyI, (1 + 128 + 1500), .inl f1)), (t2, .inl (cyI, (1 + 128 + 1500), .inl f2)), (t3, .inl (cyI, 128, .inl f3)), (t4, .inl (cyJ, (1 + 128 + 1500), .inr (.inl twf)))]) (wr := [(x, .inr (1, [.ref hn, .ref ht, .int tw, .ref av, .ref au, .ref ab, .ref ai, .ref aw])), (hn, .inr (0, [.int (nI 64), .int (nI 400), .ref n1, .ref n2, .ref n3, .ref n4, .int (nI nc), .int (nI ic)])), (n1, .inl (cyI, (1 + 64 + 400), .inl lf)), (n2, .inl (cyI, (1 + 64 + 400), .inl of)), (n3, .inl (cyI, 64, .inl nf)), (n4, .inl (cyJ, (1 + 64 + 400), .inr (.inl wf))), (av, .inl (cyI, 465, .inl v)), (au, .inl (cyI, 465, .inl (upd tl 0 (nI 0)))), (ab, .inl (cyI, 64, .inl bb)), (ai, .inl (cyI, 64, .inl tt)), (aw, .inl (cyJ, 465, .inr (.inl ww)))]) (w2 := fun (u : Unit) => [(x, .inr (1, [.ref hn, .ref ht, .int tw, .ref av, .ref au, .ref ab, .ref ai, .ref aw])), (hn, .inr (0, [.int (nI 64), .int (nI 400), .ref n1, .ref n2, .ref n3, .ref n4, .int (nI nc), .int (nI ic)])), (n1, .inl (cyI, (1 + 64 + 400), .inl lf)), (n2, .inl (cyI, (1 + 64 + 400), .inl of)), (n3, .inl (cyI, 64, .inl nf)), (n4, .inl (cyJ, (1 + 64 + 400), .inr (.inl wf))), (ht, .inr (0, [.int (nI 128), .int (nI 1500), .ref t1, .ref t2, .ref t3, .ref t4, .int (nI (1 + k + 1)), .int (nI (k + 1))])), (t1, .inl (cyI, (1 + 128 + 1500), .inl (upd f1 (1 + k) (-1)))), (t2, .inl (cyI, (1 + 128 + 1500), .inl (upd f2 (1 + k) (-1)))), (t3, .inl (cyI, 128, .inl (upd f3 k (nI (1 + k))))), (t4, .inl (cyJ, (1 + 128 + 1500), .inr (.inl twf))), (av, .inl (cyI, 465, .inl v)), (au, .inl (cyI, 465, .inl (upd tl 0 (nI 0)))), (ab, .inl (cyI, 64, .inl bb)), (ai, .inl (cyI, 64, .inl tt)), (aw, .inl (cyJ, 465, .inr (.inl ww)))]) [6, 7, 8, 9, 10] [0, 1, 2, 3, 4, 5, 11, 12, 13, 14, 15] [0, 1, 2, 3, 4, 5, 11, 12, 13, 14, 15, 6, 7, 8, 9, 10] (va_runVN (As := []) (rest := [.int (nI (inp k)), .ref av]) ⟨hx, hb, hml, hown, hts⟩ (c_X0_addInput lch D cyI cyJ _ ht t1 t2 t3 t4 128 1500 f1 f2 f3 twf (1 + k) k (by first | assumption | omega) (by first | assumption | omega) (by first | assumption | omega)) ⟨va_cnB 0 hts gX1_twinInputs_X0_addInput_n42 rfl rfl rfl (hNN.at (.methodLinkNest "NetTwin" 42 yX0_addInput "NetTwin") (by decide +kernel)) wzX0 (by decide +kernel) ⟨Nat.le_of_ble_eq_true rfl, Nat.le_of_ble_eq_true rfl⟩, wm_yX0_addInput, we_yX0_addInput⟩ (x_preV hK hNN (hP.sub (ws' := [(ht, .inr (0, [.int (nI 128), .int (nI 1500), .ref t1, .ref t2, .ref t3, .ref t4, .int (nI (1 + k)), .int (nI k)])), (t1, .inl (cyI, (1 + 128 + 1500), .inl f1)), (t2, .inl (cyI, (1 + 128 + 1500), .inl f2)), (t3, .inl (cyI, 128, .inl f3)), (t4, .inl (cyJ, (1 + 128 + 1500), .inr (.inl twf)))]) [6, 7, 8, 9, 10] rfl) (hD.sub (ws' := [(ht, .inr (0, [.int (nI 128), .int (nI 1500), .ref t1, .ref t2, .ref t3, .ref t4, .int (nI (1 + k)), .int (nI k)])), (t1, .inl (cyI, (1 + 128 + 1500), .inl f1)), (t2, .inl (cyI, (1 + 128 + 1500), .inl f2)), (t3, .inl (cyI, 128, .inl f3)), (t4, .inl (cyJ, (1 + 128 + 1500), .inr (.inl twf)))]) [6, 7, 8, 9, 10] (by decide) rfl) rfl rfl (ci := 0) (q0 := 0) rfl rfl rfl) rfl rfl hl.1 rfl (lv_room (Nat.le_of_ble_eq_true rfl)) dX1_twinInputs_44 ⟨Nat.le_of_ble_eq_true rfl, Nat.le_of_ble_eq_true rfl⟩) rfl hP hD hS hA rfl rfl (by decide) (by decide) (fun _ => rfl) (by decide) (fun r44 u44 H locs hw44 hP hD hS hz44 => ?_)
        have hP : va_P D vwCl [(x, .inr (1, [.ref hn, .ref ht, .int tw, .ref av, .ref au, .ref ab, .ref ai, .ref aw])), (hn, .inr (0, [.int (nI 64), .int (nI 400), .ref n1, .ref n2, .ref n3, .ref n4, .int (nI nc), .int (nI ic)])), (n1, .inl (cyI, (1 + 64 + 400), .inl lf)), (n2, .inl (cyI, (1 + 64 + 400), .inl of)), (n3, .inl (cyI, 64, .inl nf)), (n4, .inl (cyJ, (1 + 64 + 400), .inr (.inl wf))), (ht, .inr (0, [.int (nI 128), .int (nI 1500), .ref t1, .ref t2, .ref t3, .ref t4, .int (nI (1 + k + 1)), .int (nI (k + 1))])), (t1, .inl (cyI, (1 + 128 + 1500), .inl (upd f1 (1 + k) (-1)))), (t2, .inl (cyI, (1 + 128 + 1500), .inl (upd f2 (1 + k) (-1)))), (t3, .inl (cyI, 128, .inl (upd f3 k (nI (1 + k))))), (t4, .inl (cyJ, (1 + 128 + 1500), .inr (.inl twf))), (av, .inl (cyI, 465, .inl v)), (au, .inl (cyI, 465, .inl (upd tl 0 (nI 0)))), (ab, .inl (cyI, 64, .inl bb)), (ai, .inl (cyI, 64, .inl tt)), (aw, .inl (cyJ, 465, .inr (.inl ww)))] H := hP
        have hD : va_D A [(x, .inr (1, [.ref hn, .ref ht, .int tw, .ref av, .ref au, .ref ab, .ref ai, .ref aw])), (hn, .inr (0, [.int (nI 64), .int (nI 400), .ref n1, .ref n2, .ref n3, .ref n4, .int (nI nc), .int (nI ic)])), (n1, .inl (cyI, (1 + 64 + 400), .inl lf)), (n2, .inl (cyI, (1 + 64 + 400), .inl of)), (n3, .inl (cyI, 64, .inl nf)), (n4, .inl (cyJ, (1 + 64 + 400), .inr (.inl wf))), (ht, .inr (0, [.int (nI 128), .int (nI 1500), .ref t1, .ref t2, .ref t3, .ref t4, .int (nI (1 + k + 1)), .int (nI (k + 1))])), (t1, .inl (cyI, (1 + 128 + 1500), .inl (upd f1 (1 + k) (-1)))), (t2, .inl (cyI, (1 + 128 + 1500), .inl (upd f2 (1 + k) (-1)))), (t3, .inl (cyI, 128, .inl (upd f3 k (nI (1 + k))))), (t4, .inl (cyJ, (1 + 128 + 1500), .inr (.inl twf))), (av, .inl (cyI, 465, .inl v)), (au, .inl (cyI, 465, .inl (upd tl 0 (nI 0)))), (ab, .inl (cyI, 64, .inl bb)), (ai, .inl (cyI, 64, .inl tt)), (aw, .inl (cyJ, 465, .inr (.inl ww)))] := hD
        have hw44 : r44 = nI (2 * (1 + k)) := hw44
        subst hw44
        refine W.widen (k := 0) (n := 0) (Nat.le_refl _) (Nat.le_refl _) ?_
        refine x_iast hx hb hK hP hD hS 11 0 rfl rfl (by omega) (by omega) dX1_twinInputs_47 (fun H locs hP hD hS => ?_)
        have hP : va_P D vwCl [(x, .inr (1, [.ref hn, .ref ht, .int tw, .ref av, .ref au, .ref ab, .ref ai, .ref aw])), (hn, .inr (0, [.int (nI 64), .int (nI 400), .ref n1, .ref n2, .ref n3, .ref n4, .int (nI nc), .int (nI ic)])), (n1, .inl (cyI, (1 + 64 + 400), .inl lf)), (n2, .inl (cyI, (1 + 64 + 400), .inl of)), (n3, .inl (cyI, 64, .inl nf)), (n4, .inl (cyJ, (1 + 64 + 400), .inr (.inl wf))), (ht, .inr (0, [.int (nI 128), .int (nI 1500), .ref t1, .ref t2, .ref t3, .ref t4, .int (nI (1 + k + 1)), .int (nI (k + 1))])), (t1, .inl (cyI, (1 + 128 + 1500), .inl (upd f1 (1 + k) (-1)))), (t2, .inl (cyI, (1 + 128 + 1500), .inl (upd f2 (1 + k) (-1)))), (t3, .inl (cyI, 128, .inl (upd f3 k (nI (1 + k))))), (t4, .inl (cyJ, (1 + 128 + 1500), .inr (.inl twf))), (av, .inl (cyI, 465, .inl (upd v (inp k) (nI (2 * (1 + k)))))), (au, .inl (cyI, 465, .inl (upd tl 0 (nI 0)))), (ab, .inl (cyI, 64, .inl bb)), (ai, .inl (cyI, 64, .inl tt)), (aw, .inl (cyJ, 465, .inr (.inl ww)))] H := hP
        have hD : va_D A [(x, .inr (1, [.ref hn, .ref ht, .int tw, .ref av, .ref au, .ref ab, .ref ai, .ref aw])), (hn, .inr (0, [.int (nI 64), .int (nI 400), .ref n1, .ref n2, .ref n3, .ref n4, .int (nI nc), .int (nI ic)])), (n1, .inl (cyI, (1 + 64 + 400), .inl lf)), (n2, .inl (cyI, (1 + 64 + 400), .inl of)), (n3, .inl (cyI, 64, .inl nf)), (n4, .inl (cyJ, (1 + 64 + 400), .inr (.inl wf))), (ht, .inr (0, [.int (nI 128), .int (nI 1500), .ref t1, .ref t2, .ref t3, .ref t4, .int (nI (1 + k + 1)), .int (nI (k + 1))])), (t1, .inl (cyI, (1 + 128 + 1500), .inl (upd f1 (1 + k) (-1)))), (t2, .inl (cyI, (1 + 128 + 1500), .inl (upd f2 (1 + k) (-1)))), (t3, .inl (cyI, 128, .inl (upd f3 k (nI (1 + k))))), (t4, .inl (cyJ, (1 + 128 + 1500), .inr (.inl twf))), (av, .inl (cyI, 465, .inl (upd v (inp k) (nI (2 * (1 + k)))))), (au, .inl (cyI, 465, .inl (upd tl 0 (nI 0)))), (ab, .inl (cyI, 64, .inl bb)), (ai, .inl (cyI, 64, .inl tt)), (aw, .inl (cyJ, 465, .inr (.inl ww)))] := hD
        refine lv_iinc (v := nI (k + 1)) (lv' := [(1, .int (nI (k + 1))), (0, .ref x)]) hx hb dX1_twinInputs_48 hl (k := 0) rfl (n_inc _) (by decide) rfl (fun ls hl => ?_)
        refine lv_goto (tgt := 16) hx hb dX1_twinInputs_51 (by decide) ?_
        exact ih (k + 1) (upd f1 (1 + k) (-1)) (upd f2 (1 + k) (-1)) (upd f3 k (nI (1 + k))) (upd v (inp k) (nI (2 * (1 + k)))) (by omega) (rp_rep hrp) (rp_f3 hf3) (by rw [hv]; rfl) (by omega) _ _ _ hP hD hS (lv_sub hl [0, 1] rfl)
  exact lp16 _ 0 tlf tof tnf (upd vl 0 (nI 0)) (Nat.zero_le _) (rp_one hz1 hz2) (fun i hi => absurd hi (Nat.not_lt_zero i)) rfl (Nat.lt_succ_self _) _ _ _ hP hD hS (lv_sub hl [0, 1] rfl)
set_option maxHeartbeats 4000000 in
set_option maxRecDepth 100000 in
theorem c_X1_twinGate (lch : Launch) (D : va_G) (cyI cyJ : ClassId) (sz : Nat) (x : Nat) (hn : Nat) (n1 : Nat) (n2 : Nat) (n3 : Nat) (n4 : Nat) (ht : Nat) (t1 : Nat) (t2 : Nat) (t3 : Nat) (t4 : Nat) (av : Nat) (au : Nat) (ab : Nat) (ai : Nat) (aw : Nat) (lf : Nat → Int32) (of : Nat → Int32) (nf : Nat → Int32) (wf : Nat → Int64) (ic : Nat) (tlf : Nat → Int32) (tof : Nat → Int32) (tnf : Nat → Int32) (twf : Nat → Int64) (tic : Nat) (tw : Int32) (vl : Nat → Int32) (tl : Nat → Int32) (bb : Nat → Int32) (tt : Nat → Int32) (ww : Nat → Int64) (l : NT) (tn : NT) (V : Nat → Nat) (T : Nat → Nat) (k : Nat) (a : Nat) (b : Nat) (hok : nOK l) (hrp : rpN l lf of) (hg : nGates l + 1 + ic = l.length) (hgM : nGates l ≤ 400) (hic : ic ≤ 64) (tok : nOK tn) (trp : rpN tn tlf tof) (tg : nGates tn + 1 + tic = tn.length) (tgM : nGates tn ≤ 1500) (tic_ : tic ≤ 128) (hk : k < l.length) (hlk : nAt l k = some (a, b)) (hV : ∀ j, j < k → (vl j = nI (V j) ∧ tl j = nI (T j)) ∧ V j < 2 * tn.length ∧ T j < 2 * tn.length) : Met lch yX1_twinGate wsX1_twinGate ({ frames := 4, cells := 0, slots := 0, locals := 90 } : Room) (va_Pc [.ref x, .int (nI k)] (xA D (xTy cyI cyJ) sz [(x, .inr (1, [.ref hn, .ref ht, .int tw, .ref av, .ref au, .ref ab, .ref ai, .ref aw])), (hn, .inr (0, [.int (nI 64), .int (nI 400), .ref n1, .ref n2, .ref n3, .ref n4, .int (nI l.length), .int (nI ic)])), (n1, .inl (cyI, (1 + 64 + 400), .inl lf)), (n2, .inl (cyI, (1 + 64 + 400), .inl of)), (n3, .inl (cyI, 64, .inl nf)), (n4, .inl (cyJ, (1 + 64 + 400), .inr (.inl wf))), (ht, .inr (0, [.int (nI 128), .int (nI 1500), .ref t1, .ref t2, .ref t3, .ref t4, .int (nI tn.length), .int (nI tic)])), (t1, .inl (cyI, (1 + 128 + 1500), .inl tlf)), (t2, .inl (cyI, (1 + 128 + 1500), .inl tof)), (t3, .inl (cyI, 128, .inl tnf)), (t4, .inl (cyJ, (1 + 128 + 1500), .inr (.inl twf))), (av, .inl (cyI, 465, .inl vl)), (au, .inl (cyI, 465, .inl tl)), (ab, .inl (cyI, 64, .inl bb)), (ai, .inl (cyI, 64, .inl tt)), (aw, .inl (cyJ, 465, .inr (.inl ww)))])) (va_Qi (fun (r : Int32) (u : (Nat → Int32) × (Nat → Int32)) => r = bI ((tGate tn (litN V a) (litN V b) (T (a / 2)) (T (b / 2))).isSome = true) ∧ rpN (G6 tn (litN V a) (litN V b) (T (a / 2)) (T (b / 2))).2 u.1 u.2) (fun (u : (Nat → Int32) × (Nat → Int32)) t => xB D (xTy cyI cyJ) sz [(x, .inr (1, [.ref hn, .ref ht, .int tw, .ref av, .ref au, .ref ab, .ref ai, .ref aw])), (hn, .inr (0, [.int (nI 64), .int (nI 400), .ref n1, .ref n2, .ref n3, .ref n4, .int (nI l.length), .int (nI ic)])), (n1, .inl (cyI, (1 + 64 + 400), .inl lf)), (n2, .inl (cyI, (1 + 64 + 400), .inl of)), (n3, .inl (cyI, 64, .inl nf)), (n4, .inl (cyJ, (1 + 64 + 400), .inr (.inl wf))), (ht, .inr (0, [.int (nI 128), .int (nI 1500), .ref t1, .ref t2, .ref t3, .ref t4, .int (nI tn.length), .int (nI tic)])), (t1, .inl (cyI, (1 + 128 + 1500), .inl tlf)), (t2, .inl (cyI, (1 + 128 + 1500), .inl tof)), (t3, .inl (cyI, 128, .inl tnf)), (t4, .inl (cyJ, (1 + 128 + 1500), .inr (.inl twf))), (av, .inl (cyI, 465, .inl vl)), (au, .inl (cyI, 465, .inl tl)), (ab, .inl (cyI, 64, .inl bb)), (ai, .inl (cyI, 64, .inl tt)), (aw, .inl (cyJ, 465, .inr (.inl ww)))] [(x, .inr (1, [.ref hn, .ref ht, .int tw, .ref av, .ref au, .ref ab, .ref ai, .ref aw])), (hn, .inr (0, [.int (nI 64), .int (nI 400), .ref n1, .ref n2, .ref n3, .ref n4, .int (nI l.length), .int (nI ic)])), (n1, .inl (cyI, (1 + 64 + 400), .inl lf)), (n2, .inl (cyI, (1 + 64 + 400), .inl of)), (n3, .inl (cyI, 64, .inl nf)), (n4, .inl (cyJ, (1 + 64 + 400), .inr (.inl wf))), (ht, .inr (0, [.int (nI 128), .int (nI 1500), .ref t1, .ref t2, .ref t3, .ref t4, .int (nI ((G6 tn (litN V a) (litN V b) (T (a / 2)) (T (b / 2))).2.length)), .int (nI tic)])), (t1, .inl (cyI, (1 + 128 + 1500), .inl u.1)), (t2, .inl (cyI, (1 + 128 + 1500), .inl u.2)), (t3, .inl (cyI, 128, .inl tnf)), (t4, .inl (cyJ, (1 + 128 + 1500), .inr (.inl twf))), (av, .inl (cyI, 465, .inl (upd vl k (eO (G1 tn (litN V a) (litN V b) (T (a / 2)) (T (b / 2))).1)))), (au, .inl (cyI, 465, .inl (upd tl k (eO (G6 tn (litN V a) (litN V b) (T (a / 2)) (T (b / 2))).1)))), (ab, .inl (cyI, 64, .inl bb)), (ai, .inl (cyI, 64, .inl tt)), (aw, .inl (cyJ, 465, .inr (.inl ww)))] t) (va_A [(x, .inr (1, [.ref hn, .ref ht, .int tw, .ref av, .ref au, .ref ab, .ref ai, .ref aw])), (hn, .inr (0, [.int (nI 64), .int (nI 400), .ref n1, .ref n2, .ref n3, .ref n4, .int (nI l.length), .int (nI ic)])), (n1, .inl (cyI, (1 + 64 + 400), .inl lf)), (n2, .inl (cyI, (1 + 64 + 400), .inl of)), (n3, .inl (cyI, 64, .inl nf)), (n4, .inl (cyJ, (1 + 64 + 400), .inr (.inl wf))), (ht, .inr (0, [.int (nI 128), .int (nI 1500), .ref t1, .ref t2, .ref t3, .ref t4, .int (nI tn.length), .int (nI tic)])), (t1, .inl (cyI, (1 + 128 + 1500), .inl tlf)), (t2, .inl (cyI, (1 + 128 + 1500), .inl tof)), (t3, .inl (cyI, 128, .inl tnf)), (t4, .inl (cyJ, (1 + 128 + 1500), .inr (.inl twf))), (av, .inl (cyI, 465, .inl vl)), (au, .inl (cyI, 465, .inl tl)), (ab, .inl (cyI, 64, .inl bb)), (ai, .inl (cyI, 64, .inl tt)), (aw, .inl (cyJ, 465, .inr (.inl ww)))] sz)) 0 0 (va_A [(x, .inr (1, [.ref hn, .ref ht, .int tw, .ref av, .ref au, .ref ab, .ref ai, .ref aw])), (hn, .inr (0, [.int (nI 64), .int (nI 400), .ref n1, .ref n2, .ref n3, .ref n4, .int (nI l.length), .int (nI ic)])), (n1, .inl (cyI, (1 + 64 + 400), .inl lf)), (n2, .inl (cyI, (1 + 64 + 400), .inl of)), (n3, .inl (cyI, 64, .inl nf)), (n4, .inl (cyJ, (1 + 64 + 400), .inr (.inl wf))), (ht, .inr (0, [.int (nI 128), .int (nI 1500), .ref t1, .ref t2, .ref t3, .ref t4, .int (nI tn.length), .int (nI tic)])), (t1, .inl (cyI, (1 + 128 + 1500), .inl tlf)), (t2, .inl (cyI, (1 + 128 + 1500), .inl tof)), (t3, .inl (cyI, 128, .inl tnf)), (t4, .inl (cyJ, (1 + 128 + 1500), .inr (.inl twf))), (av, .inl (cyI, 465, .inl vl)), (au, .inl (cyI, 465, .inl tl)), (ab, .inl (cyI, 64, .inl bb)), (ai, .inl (cyI, 64, .inl tt)), (aw, .inl (cyJ, 465, .inr (.inl ww)))] sz) := by
  refine x_met RX1 (by decide) rfl rfl (Nat.le_of_ble_eq_true rfl) ?_
  intro p e s m below meth c A Q hAe hQ hx hb hr hlocks hml hnm hts hown hNN hK hsz hP hD hS hA ls hl
  have wf14 := hts (.fieldLink RX1 14 "NetTwin" "net" "LNetTwin$Net;") (by decide +kernel)
  have hiX1 : ∀ w ∈ u_ws RX1 TX1 8, w ∈ wsX1_twinGate := by decide +kernel
  have wn72 := hNN.get (args := ([.ref x, .int (nI k)] : List Value).toArray) (.fieldLinkNest "NetTwin" 72 "NetTwin$Net" "lesser" "[I" "NetTwin") (by decide +kernel)
  have hiX0 : ∀ w ∈ u_ws RX0 TX0 8, w ∈ wsX1_twinGate := by decide +kernel
  have wn75 := hNN.get (args := ([.ref x, .int (nI k)] : List Value).toArray) (.fieldLinkNest "NetTwin" 75 "NetTwin$Net" "other" "[I" "NetTwin") (by decide +kernel)
  have wf29 := hts (.fieldLink RX1 29 "NetTwin" "taintLiteral" "[I") (by decide +kernel)
  have wf18 := hts (.fieldLink RX1 18 "NetTwin" "twin" "LNetTwin$Net;") (by decide +kernel)
  have wzX0 := hts (.initialized RX0) (by decide +kernel)
  have wm_yX0_both := hts (.instanceMethod yX0_both) (by decide +kernel)
  have we_yX0_both := hts (.selects RX0 yX0_both yX0_both) (by decide +kernel)
  have wm_yX0_either := hts (.instanceMethod yX0_either) (by decide +kernel)
  have we_yX0_either := hts (.selects RX0 yX0_either yX0_either) (by decide +kernel)
  have wf25 := hts (.fieldLink RX1 25 "NetTwin" "valueLiteral" "[I") (by decide +kernel)
  have hP : va_P D vwCl [(x, .inr (1, [.ref hn, .ref ht, .int tw, .ref av, .ref au, .ref ab, .ref ai, .ref aw])), (hn, .inr (0, [.int (nI 64), .int (nI 400), .ref n1, .ref n2, .ref n3, .ref n4, .int (nI l.length), .int (nI ic)])), (n1, .inl (cyI, (1 + 64 + 400), .inl lf)), (n2, .inl (cyI, (1 + 64 + 400), .inl of)), (n3, .inl (cyI, 64, .inl nf)), (n4, .inl (cyJ, (1 + 64 + 400), .inr (.inl wf))), (ht, .inr (0, [.int (nI 128), .int (nI 1500), .ref t1, .ref t2, .ref t3, .ref t4, .int (nI tn.length), .int (nI tic)])), (t1, .inl (cyI, (1 + 128 + 1500), .inl tlf)), (t2, .inl (cyI, (1 + 128 + 1500), .inl tof)), (t3, .inl (cyI, 128, .inl tnf)), (t4, .inl (cyJ, (1 + 128 + 1500), .inr (.inl twf))), (av, .inl (cyI, 465, .inl vl)), (au, .inl (cyI, 465, .inl tl)), (ab, .inl (cyI, 64, .inl bb)), (ai, .inl (cyI, 64, .inl tt)), (aw, .inl (cyJ, 465, .inr (.inl ww)))] s.heap := hP
  have hD : va_D A [(x, .inr (1, [.ref hn, .ref ht, .int tw, .ref av, .ref au, .ref ab, .ref ai, .ref aw])), (hn, .inr (0, [.int (nI 64), .int (nI 400), .ref n1, .ref n2, .ref n3, .ref n4, .int (nI l.length), .int (nI ic)])), (n1, .inl (cyI, (1 + 64 + 400), .inl lf)), (n2, .inl (cyI, (1 + 64 + 400), .inl of)), (n3, .inl (cyI, 64, .inl nf)), (n4, .inl (cyJ, (1 + 64 + 400), .inr (.inl wf))), (ht, .inr (0, [.int (nI 128), .int (nI 1500), .ref t1, .ref t2, .ref t3, .ref t4, .int (nI tn.length), .int (nI tic)])), (t1, .inl (cyI, (1 + 128 + 1500), .inl tlf)), (t2, .inl (cyI, (1 + 128 + 1500), .inl tof)), (t3, .inl (cyI, 128, .inl tnf)), (t4, .inl (cyJ, (1 + 128 + 1500), .inr (.inl twf))), (av, .inl (cyI, 465, .inl vl)), (au, .inl (cyI, 465, .inl tl)), (ab, .inl (cyI, 64, .inl bb)), (ai, .inl (cyI, 64, .inl tt)), (aw, .inl (cyJ, 465, .inr (.inl ww)))] := hD
  have hl : lv_has ls 12 [(0, .ref x), (1, .int (nI k))] := hl
  have hab := hok.2.2 k a b hlk
  have za := hV (a / 2) (by omega)
  have zb := hV (b / 2) (by omega)
  have hva : litN V a < 2 * tn.length := litN_lt za.2.1
  have hvb : litN V b < 2 * tn.length := litN_lt zb.2.1
  obtain ⟨K1, K2, K3, K4, K5, K6, V3, V5, V6⟩ := G_ok tok tgM hva hvb za.2.2 zb.2.2
  have hB6 : (G6 tn (litN V a) (litN V b) (T (a / 2)) (T (b / 2))).2.length < 100000 := by have z1 := K6.2.2.1; have z2 := K6.2.2.2.1; omega
  refine lv_aload_n hx hb dX1_twinGate_0 rfl (lv_at hl 0 rfl) ?_
  refine lv_aload_n hx hb dX1_twinGate_1 rfl (lv_at hl 0 rfl) ?_
  refine va_get (D := D) (ci := 1) (v := .ref hn) (C := RX1) (T := TX1) (N := 8) hx hb hts hiX1 hown hK hP 0 rfl rfl 0 (by decide) wf14 (fun _ h9 => h9) rfl dX1_twinGate_2 ?_
  refine va_getN (D := D) (ci := 0) (v := .ref n1) (C := RX0) (T := TX0) (N := 8) hx hb hts hiX0 hown hK hP 1 rfl rfl 2 (by decide) wn72 (fun _ h9 => h9) rfl dX1_twinGate_5 ?_
  refine lv_iload_n hx hb dX1_twinGate_8 rfl (lv_at hl 1 rfl) ?_
  refine x_iald hx hb hK hP 2 0 rfl rfl (by omega) (by omega) dX1_twinGate_9 ?_
  refine x_top (show lf k = nI a from by rw [(hrp k hk).1, hlk]; rfl) ?_
  refine x_calli (wc := [(x, .inr (1, [.ref hn, .ref ht, .int tw, .ref av, .ref au, .ref ab, .ref ai, .ref aw])), (hn, .inr (0, [.int (nI 64), .int (nI 400), .ref n1, .ref n2, .ref n3, .ref n4, .int (nI l.length), .int (nI ic)])), (n1, .inl (cyI, (1 + 64 + 400), .inl lf)), (n2, .inl (cyI, (1 + 64 + 400), .inl of)), (n3, .inl (cyI, 64, .inl nf)), (n4, .inl (cyJ, (1 + 64 + 400), .inr (.inl wf))), (ht, .inr (0, [.int (nI 128), .int (nI 1500), .ref t1, .ref t2, .ref t3, .ref t4, .int (nI tn.length), .int (nI tic)])), (t1, .inl (cyI, (1 + 128 + 1500), .inl tlf)), (t2, .inl (cyI, (1 + 128 + 1500), .inl tof)), (t3, .inl (cyI, 128, .inl tnf)), (t4, .inl (cyJ, (1 + 128 + 1500), .inr (.inl twf))), (av, .inl (cyI, 465, .inl vl)), (au, .inl (cyI, 465, .inl tl)), (ab, .inl (cyI, 64, .inl bb)), (ai, .inl (cyI, 64, .inl tt)), (aw, .inl (cyJ, 465, .inr (.inl ww)))]) (wr := []) (w2 := fun (u : Unit) => [(x, .inr (1, [.ref hn, .ref ht, .int tw, .ref av, .ref au, .ref ab, .ref ai, .ref aw])), (hn, .inr (0, [.int (nI 64), .int (nI 400), .ref n1, .ref n2, .ref n3, .ref n4, .int (nI l.length), .int (nI ic)])), (n1, .inl (cyI, (1 + 64 + 400), .inl lf)), (n2, .inl (cyI, (1 + 64 + 400), .inl of)), (n3, .inl (cyI, 64, .inl nf)), (n4, .inl (cyJ, (1 + 64 + 400), .inr (.inl wf))), (ht, .inr (0, [.int (nI 128), .int (nI 1500), .ref t1, .ref t2, .ref t3, .ref t4, .int (nI tn.length), .int (nI tic)])), (t1, .inl (cyI, (1 + 128 + 1500), .inl tlf)), (t2, .inl (cyI, (1 + 128 + 1500), .inl tof)), (t3, .inl (cyI, 128, .inl tnf)), (t4, .inl (cyJ, (1 + 128 + 1500), .inr (.inl twf))), (av, .inl (cyI, 465, .inl vl)), (au, .inl (cyI, 465, .inl tl)), (ab, .inl (cyI, 64, .inl bb)), (ai, .inl (cyI, 64, .inl tt)), (aw, .inl (cyJ, 465, .inr (.inl ww)))]) [0, 1, 2, 3, 4, 5, 6, 7, 8, 9, 10, 11, 12, 13, 14, 15] [] [0, 1, 2, 3, 4, 5, 6, 7, 8, 9, 10, 11, 12, 13, 14, 15] (va_runV (As := [.int (nI a)]) (rest := []) ⟨hx, hb, hml, hown, hts⟩ (c_X1_valueInTwin lch D cyI cyJ _ x hn n1 n2 n3 n4 ht t1 t2 t3 t4 av au ab ai aw lf of nf wf l.length ic tlf tof tnf twf tn.length tic tw vl tl bb tt ww a (by first | assumption | omega)) (cwV 1 hts gX1_twinGate_X1_valueInTwin rfl rfl rfl (by decide +kernel) ⟨Nat.le_of_ble_eq_true rfl, Nat.le_of_ble_eq_true rfl⟩) (x_preV hK hNN (hP.sub (ws' := [(x, .inr (1, [.ref hn, .ref ht, .int tw, .ref av, .ref au, .ref ab, .ref ai, .ref aw])), (hn, .inr (0, [.int (nI 64), .int (nI 400), .ref n1, .ref n2, .ref n3, .ref n4, .int (nI l.length), .int (nI ic)])), (n1, .inl (cyI, (1 + 64 + 400), .inl lf)), (n2, .inl (cyI, (1 + 64 + 400), .inl of)), (n3, .inl (cyI, 64, .inl nf)), (n4, .inl (cyJ, (1 + 64 + 400), .inr (.inl wf))), (ht, .inr (0, [.int (nI 128), .int (nI 1500), .ref t1, .ref t2, .ref t3, .ref t4, .int (nI tn.length), .int (nI tic)])), (t1, .inl (cyI, (1 + 128 + 1500), .inl tlf)), (t2, .inl (cyI, (1 + 128 + 1500), .inl tof)), (t3, .inl (cyI, 128, .inl tnf)), (t4, .inl (cyJ, (1 + 128 + 1500), .inr (.inl twf))), (av, .inl (cyI, 465, .inl vl)), (au, .inl (cyI, 465, .inl tl)), (ab, .inl (cyI, 64, .inl bb)), (ai, .inl (cyI, 64, .inl tt)), (aw, .inl (cyJ, 465, .inr (.inl ww)))]) [0, 1, 2, 3, 4, 5, 6, 7, 8, 9, 10, 11, 12, 13, 14, 15] rfl) (hD.sub (ws' := [(x, .inr (1, [.ref hn, .ref ht, .int tw, .ref av, .ref au, .ref ab, .ref ai, .ref aw])), (hn, .inr (0, [.int (nI 64), .int (nI 400), .ref n1, .ref n2, .ref n3, .ref n4, .int (nI l.length), .int (nI ic)])), (n1, .inl (cyI, (1 + 64 + 400), .inl lf)), (n2, .inl (cyI, (1 + 64 + 400), .inl of)), (n3, .inl (cyI, 64, .inl nf)), (n4, .inl (cyJ, (1 + 64 + 400), .inr (.inl wf))), (ht, .inr (0, [.int (nI 128), .int (nI 1500), .ref t1, .ref t2, .ref t3, .ref t4, .int (nI tn.length), .int (nI tic)])), (t1, .inl (cyI, (1 + 128 + 1500), .inl tlf)), (t2, .inl (cyI, (1 + 128 + 1500), .inl tof)), (t3, .inl (cyI, 128, .inl tnf)), (t4, .inl (cyJ, (1 + 128 + 1500), .inr (.inl twf))), (av, .inl (cyI, 465, .inl vl)), (au, .inl (cyI, 465, .inl tl)), (ab, .inl (cyI, 64, .inl bb)), (ai, .inl (cyI, 64, .inl tt)), (aw, .inl (cyJ, 465, .inr (.inl ww)))]) [0, 1, 2, 3, 4, 5, 6, 7, 8, 9, 10, 11, 12, 13, 14, 15] (by decide) rfl) rfl rfl (ci := 1) (q0 := 0) rfl rfl rfl) rfl rfl hl.1 rfl (lv_room (Nat.le_of_ble_eq_true rfl)) dX1_twinGate_10 ⟨Nat.le_of_ble_eq_true rfl, Nat.le_of_ble_eq_true rfl⟩) rfl hP hD hS hA rfl rfl (by decide) (by decide) (fun _ => rfl) (by decide) (fun r10 u10 H locs hw10 hP hD hS hz10 => ?_)
  have hP : va_P D vwCl [(x, .inr (1, [.ref hn, .ref ht, .int tw, .ref av, .ref au, .ref ab, .ref ai, .ref aw])), (hn, .inr (0, [.int (nI 64), .int (nI 400), .ref n1, .ref n2, .ref n3, .ref n4, .int (nI l.length), .int (nI ic)])), (n1, .inl (cyI, (1 + 64 + 400), .inl lf)), (n2, .inl (cyI, (1 + 64 + 400), .inl of)), (n3, .inl (cyI, 64, .inl nf)), (n4, .inl (cyJ, (1 + 64 + 400), .inr (.inl wf))), (ht, .inr (0, [.int (nI 128), .int (nI 1500), .ref t1, .ref t2, .ref t3, .ref t4, .int (nI tn.length), .int (nI tic)])), (t1, .inl (cyI, (1 + 128 + 1500), .inl tlf)), (t2, .inl (cyI, (1 + 128 + 1500), .inl tof)), (t3, .inl (cyI, 128, .inl tnf)), (t4, .inl (cyJ, (1 + 128 + 1500), .inr (.inl twf))), (av, .inl (cyI, 465, .inl vl)), (au, .inl (cyI, 465, .inl tl)), (ab, .inl (cyI, 64, .inl bb)), (ai, .inl (cyI, 64, .inl tt)), (aw, .inl (cyJ, 465, .inr (.inl ww)))] H := hP
  have hD : va_D A [(x, .inr (1, [.ref hn, .ref ht, .int tw, .ref av, .ref au, .ref ab, .ref ai, .ref aw])), (hn, .inr (0, [.int (nI 64), .int (nI 400), .ref n1, .ref n2, .ref n3, .ref n4, .int (nI l.length), .int (nI ic)])), (n1, .inl (cyI, (1 + 64 + 400), .inl lf)), (n2, .inl (cyI, (1 + 64 + 400), .inl of)), (n3, .inl (cyI, 64, .inl nf)), (n4, .inl (cyJ, (1 + 64 + 400), .inr (.inl wf))), (ht, .inr (0, [.int (nI 128), .int (nI 1500), .ref t1, .ref t2, .ref t3, .ref t4, .int (nI tn.length), .int (nI tic)])), (t1, .inl (cyI, (1 + 128 + 1500), .inl tlf)), (t2, .inl (cyI, (1 + 128 + 1500), .inl tof)), (t3, .inl (cyI, 128, .inl tnf)), (t4, .inl (cyJ, (1 + 128 + 1500), .inr (.inl twf))), (av, .inl (cyI, 465, .inl vl)), (au, .inl (cyI, 465, .inl tl)), (ab, .inl (cyI, 64, .inl bb)), (ai, .inl (cyI, 64, .inl tt)), (aw, .inl (cyJ, 465, .inr (.inl ww)))] := hD
  have hw10 : r10 = vit vl a := hw10
  subst hw10
  refine W.widen (k := 0) (n := 0) (Nat.le_refl _) (Nat.le_refl _) ?_
  refine x_top (show vit vl a = nI (litN V a) from vit_N za.1.1 (by omega)) ?_
  refine lv_istore_n (lv' := [(2, .int (nI (litN V a))), (0, .ref x), (1, .int (nI k))]) hx hb dX1_twinGate_13 rfl hl (by decide) rfl (fun ls hl => ?_)
  refine lv_aload_n hx hb dX1_twinGate_14 rfl (lv_at hl 1 rfl) ?_
  refine lv_aload_n hx hb dX1_twinGate_15 rfl (lv_at hl 1 rfl) ?_
  refine va_get (D := D) (ci := 1) (v := .ref hn) (C := RX1) (T := TX1) (N := 8) hx hb hts hiX1 hown hK hP 0 rfl rfl 0 (by decide) wf14 (fun _ h9 => h9) rfl dX1_twinGate_16 ?_
  refine va_getN (D := D) (ci := 0) (v := .ref n2) (C := RX0) (T := TX0) (N := 8) hx hb hts hiX0 hown hK hP 1 rfl rfl 3 (by decide) wn75 (fun _ h9 => h9) rfl dX1_twinGate_19 ?_
  refine lv_iload_n hx hb dX1_twinGate_22 rfl (lv_at hl 2 rfl) ?_
  refine x_iald hx hb hK hP 3 0 rfl rfl (by omega) (by omega) dX1_twinGate_23 ?_
  refine x_top (show of k = nI b from by rw [(hrp k hk).2, hlk]; rfl) ?_
  refine x_calli (wc := [(x, .inr (1, [.ref hn, .ref ht, .int tw, .ref av, .ref au, .ref ab, .ref ai, .ref aw])), (hn, .inr (0, [.int (nI 64), .int (nI 400), .ref n1, .ref n2, .ref n3, .ref n4, .int (nI l.length), .int (nI ic)])), (n1, .inl (cyI, (1 + 64 + 400), .inl lf)), (n2, .inl (cyI, (1 + 64 + 400), .inl of)), (n3, .inl (cyI, 64, .inl nf)), (n4, .inl (cyJ, (1 + 64 + 400), .inr (.inl wf))), (ht, .inr (0, [.int (nI 128), .int (nI 1500), .ref t1, .ref t2, .ref t3, .ref t4, .int (nI tn.length), .int (nI tic)])), (t1, .inl (cyI, (1 + 128 + 1500), .inl tlf)), (t2, .inl (cyI, (1 + 128 + 1500), .inl tof)), (t3, .inl (cyI, 128, .inl tnf)), (t4, .inl (cyJ, (1 + 128 + 1500), .inr (.inl twf))), (av, .inl (cyI, 465, .inl vl)), (au, .inl (cyI, 465, .inl tl)), (ab, .inl (cyI, 64, .inl bb)), (ai, .inl (cyI, 64, .inl tt)), (aw, .inl (cyJ, 465, .inr (.inl ww)))]) (wr := []) (w2 := fun (u : Unit) => [(x, .inr (1, [.ref hn, .ref ht, .int tw, .ref av, .ref au, .ref ab, .ref ai, .ref aw])), (hn, .inr (0, [.int (nI 64), .int (nI 400), .ref n1, .ref n2, .ref n3, .ref n4, .int (nI l.length), .int (nI ic)])), (n1, .inl (cyI, (1 + 64 + 400), .inl lf)), (n2, .inl (cyI, (1 + 64 + 400), .inl of)), (n3, .inl (cyI, 64, .inl nf)), (n4, .inl (cyJ, (1 + 64 + 400), .inr (.inl wf))), (ht, .inr (0, [.int (nI 128), .int (nI 1500), .ref t1, .ref t2, .ref t3, .ref t4, .int (nI tn.length), .int (nI tic)])), (t1, .inl (cyI, (1 + 128 + 1500), .inl tlf)), (t2, .inl (cyI, (1 + 128 + 1500), .inl tof)), (t3, .inl (cyI, 128, .inl tnf)), (t4, .inl (cyJ, (1 + 128 + 1500), .inr (.inl twf))), (av, .inl (cyI, 465, .inl vl)), (au, .inl (cyI, 465, .inl tl)), (ab, .inl (cyI, 64, .inl bb)), (ai, .inl (cyI, 64, .inl tt)), (aw, .inl (cyJ, 465, .inr (.inl ww)))]) [0, 1, 2, 3, 4, 5, 6, 7, 8, 9, 10, 11, 12, 13, 14, 15] [] [0, 1, 2, 3, 4, 5, 6, 7, 8, 9, 10, 11, 12, 13, 14, 15] (va_runV (As := [.int (nI b)]) (rest := []) ⟨hx, hb, hml, hown, hts⟩ (c_X1_valueInTwin lch D cyI cyJ _ x hn n1 n2 n3 n4 ht t1 t2 t3 t4 av au ab ai aw lf of nf wf l.length ic tlf tof tnf twf tn.length tic tw vl tl bb tt ww b (by first | assumption | omega)) (cwV 1 hts gX1_twinGate_X1_valueInTwin rfl rfl rfl (by decide +kernel) ⟨Nat.le_of_ble_eq_true rfl, Nat.le_of_ble_eq_true rfl⟩) (x_preV hK hNN (hP.sub (ws' := [(x, .inr (1, [.ref hn, .ref ht, .int tw, .ref av, .ref au, .ref ab, .ref ai, .ref aw])), (hn, .inr (0, [.int (nI 64), .int (nI 400), .ref n1, .ref n2, .ref n3, .ref n4, .int (nI l.length), .int (nI ic)])), (n1, .inl (cyI, (1 + 64 + 400), .inl lf)), (n2, .inl (cyI, (1 + 64 + 400), .inl of)), (n3, .inl (cyI, 64, .inl nf)), (n4, .inl (cyJ, (1 + 64 + 400), .inr (.inl wf))), (ht, .inr (0, [.int (nI 128), .int (nI 1500), .ref t1, .ref t2, .ref t3, .ref t4, .int (nI tn.length), .int (nI tic)])), (t1, .inl (cyI, (1 + 128 + 1500), .inl tlf)), (t2, .inl (cyI, (1 + 128 + 1500), .inl tof)), (t3, .inl (cyI, 128, .inl tnf)), (t4, .inl (cyJ, (1 + 128 + 1500), .inr (.inl twf))), (av, .inl (cyI, 465, .inl vl)), (au, .inl (cyI, 465, .inl tl)), (ab, .inl (cyI, 64, .inl bb)), (ai, .inl (cyI, 64, .inl tt)), (aw, .inl (cyJ, 465, .inr (.inl ww)))]) [0, 1, 2, 3, 4, 5, 6, 7, 8, 9, 10, 11, 12, 13, 14, 15] rfl) (hD.sub (ws' := [(x, .inr (1, [.ref hn, .ref ht, .int tw, .ref av, .ref au, .ref ab, .ref ai, .ref aw])), (hn, .inr (0, [.int (nI 64), .int (nI 400), .ref n1, .ref n2, .ref n3, .ref n4, .int (nI l.length), .int (nI ic)])), (n1, .inl (cyI, (1 + 64 + 400), .inl lf)), (n2, .inl (cyI, (1 + 64 + 400), .inl of)), (n3, .inl (cyI, 64, .inl nf)), (n4, .inl (cyJ, (1 + 64 + 400), .inr (.inl wf))), (ht, .inr (0, [.int (nI 128), .int (nI 1500), .ref t1, .ref t2, .ref t3, .ref t4, .int (nI tn.length), .int (nI tic)])), (t1, .inl (cyI, (1 + 128 + 1500), .inl tlf)), (t2, .inl (cyI, (1 + 128 + 1500), .inl tof)), (t3, .inl (cyI, 128, .inl tnf)), (t4, .inl (cyJ, (1 + 128 + 1500), .inr (.inl twf))), (av, .inl (cyI, 465, .inl vl)), (au, .inl (cyI, 465, .inl tl)), (ab, .inl (cyI, 64, .inl bb)), (ai, .inl (cyI, 64, .inl tt)), (aw, .inl (cyJ, 465, .inr (.inl ww)))]) [0, 1, 2, 3, 4, 5, 6, 7, 8, 9, 10, 11, 12, 13, 14, 15] (by decide) rfl) rfl rfl (ci := 1) (q0 := 0) rfl rfl rfl) rfl rfl hl.1 rfl (lv_room (Nat.le_of_ble_eq_true rfl)) dX1_twinGate_24 ⟨Nat.le_of_ble_eq_true rfl, Nat.le_of_ble_eq_true rfl⟩) rfl hP hD hS hA rfl rfl (by decide) (by decide) (fun _ => rfl) (by decide) (fun r24 u24 H locs hw24 hP hD hS hz24 => ?_)
  have hP : va_P D vwCl [(x, .inr (1, [.ref hn, .ref ht, .int tw, .ref av, .ref au, .ref ab, .ref ai, .ref aw])), (hn, .inr (0, [.int (nI 64), .int (nI 400), .ref n1, .ref n2, .ref n3, .ref n4, .int (nI l.length), .int (nI ic)])), (n1, .inl (cyI, (1 + 64 + 400), .inl lf)), (n2, .inl (cyI, (1 + 64 + 400), .inl of)), (n3, .inl (cyI, 64, .inl nf)), (n4, .inl (cyJ, (1 + 64 + 400), .inr (.inl wf))), (ht, .inr (0, [.int (nI 128), .int (nI 1500), .ref t1, .ref t2, .ref t3, .ref t4, .int (nI tn.length), .int (nI tic)])), (t1, .inl (cyI, (1 + 128 + 1500), .inl tlf)), (t2, .inl (cyI, (1 + 128 + 1500), .inl tof)), (t3, .inl (cyI, 128, .inl tnf)), (t4, .inl (cyJ, (1 + 128 + 1500), .inr (.inl twf))), (av, .inl (cyI, 465, .inl vl)), (au, .inl (cyI, 465, .inl tl)), (ab, .inl (cyI, 64, .inl bb)), (ai, .inl (cyI, 64, .inl tt)), (aw, .inl (cyJ, 465, .inr (.inl ww)))] H := hP
  have hD : va_D A [(x, .inr (1, [.ref hn, .ref ht, .int tw, .ref av, .ref au, .ref ab, .ref ai, .ref aw])), (hn, .inr (0, [.int (nI 64), .int (nI 400), .ref n1, .ref n2, .ref n3, .ref n4, .int (nI l.length), .int (nI ic)])), (n1, .inl (cyI, (1 + 64 + 400), .inl lf)), (n2, .inl (cyI, (1 + 64 + 400), .inl of)), (n3, .inl (cyI, 64, .inl nf)), (n4, .inl (cyJ, (1 + 64 + 400), .inr (.inl wf))), (ht, .inr (0, [.int (nI 128), .int (nI 1500), .ref t1, .ref t2, .ref t3, .ref t4, .int (nI tn.length), .int (nI tic)])), (t1, .inl (cyI, (1 + 128 + 1500), .inl tlf)), (t2, .inl (cyI, (1 + 128 + 1500), .inl tof)), (t3, .inl (cyI, 128, .inl tnf)), (t4, .inl (cyJ, (1 + 128 + 1500), .inr (.inl twf))), (av, .inl (cyI, 465, .inl vl)), (au, .inl (cyI, 465, .inl tl)), (ab, .inl (cyI, 64, .inl bb)), (ai, .inl (cyI, 64, .inl tt)), (aw, .inl (cyJ, 465, .inr (.inl ww)))] := hD
  have hw24 : r24 = vit vl b := hw24
  subst hw24
  refine W.widen (k := 0) (n := 0) (Nat.le_refl _) (Nat.le_refl _) ?_
  refine x_top (show vit vl b = nI (litN V b) from vit_N zb.1.1 (by omega)) ?_
  refine lv_istore_n (lv' := [(3, .int (nI (litN V b))), (2, .int (nI (litN V a))), (0, .ref x), (1, .int (nI k))]) hx hb dX1_twinGate_27 rfl hl (by decide) rfl (fun ls hl => ?_)
  refine lv_aload_n hx hb dX1_twinGate_28 rfl (lv_at hl 2 rfl) ?_
  refine va_get (D := D) (ci := 1) (v := .ref au) (C := RX1) (T := TX1) (N := 8) hx hb hts hiX1 hown hK hP 0 rfl rfl 4 (by decide) wf29 (fun _ h9 => h9) rfl dX1_twinGate_29 ?_
  refine lv_aload_n hx hb dX1_twinGate_32 rfl (lv_at hl 2 rfl) ?_
  refine va_get (D := D) (ci := 1) (v := .ref hn) (C := RX1) (T := TX1) (N := 8) hx hb hts hiX1 hown hK hP 0 rfl rfl 0 (by decide) wf14 (fun _ h9 => h9) rfl dX1_twinGate_33 ?_
  refine va_getN (D := D) (ci := 0) (v := .ref n1) (C := RX0) (T := TX0) (N := 8) hx hb hts hiX0 hown hK hP 1 rfl rfl 2 (by decide) wn72 (fun _ h9 => h9) rfl dX1_twinGate_36 ?_
  refine lv_iload_n hx hb dX1_twinGate_39 rfl (lv_at hl 3 rfl) ?_
  refine x_iald hx hb hK hP 2 0 rfl rfl (by omega) (by omega) dX1_twinGate_40 ?_
  refine x_top (show lf k = nI a from by rw [(hrp k hk).1, hlk]; rfl) ?_
  refine lv_iconst (v := nI 1) hx hb dX1_twinGate_41 (by decide) ?_
  refine lv_ishr hx hb dX1_twinGate_42 ?_
  refine x_top (n_shr1 (by omega)) ?_
  refine x_iald hx hb hK hP 12 0 rfl rfl (by omega) (by omega) dX1_twinGate_43 ?_
  refine x_top (show tl (a / 2) = nI (T (a / 2)) from za.1.2) ?_
  refine lv_istore (lv' := [(4, .int (nI (T (a / 2)))), (3, .int (nI (litN V b))), (2, .int (nI (litN V a))), (0, .ref x), (1, .int (nI k))]) hx hb dX1_twinGate_44 hl (by decide) rfl (fun ls hl => ?_)
  refine lv_aload_n hx hb dX1_twinGate_46 rfl (lv_at hl 3 rfl) ?_
  refine va_get (D := D) (ci := 1) (v := .ref au) (C := RX1) (T := TX1) (N := 8) hx hb hts hiX1 hown hK hP 0 rfl rfl 4 (by decide) wf29 (fun _ h9 => h9) rfl dX1_twinGate_47 ?_
  refine lv_aload_n hx hb dX1_twinGate_50 rfl (lv_at hl 3 rfl) ?_
  refine va_get (D := D) (ci := 1) (v := .ref hn) (C := RX1) (T := TX1) (N := 8) hx hb hts hiX1 hown hK hP 0 rfl rfl 0 (by decide) wf14 (fun _ h9 => h9) rfl dX1_twinGate_51 ?_
  refine va_getN (D := D) (ci := 0) (v := .ref n2) (C := RX0) (T := TX0) (N := 8) hx hb hts hiX0 hown hK hP 1 rfl rfl 3 (by decide) wn75 (fun _ h9 => h9) rfl dX1_twinGate_54 ?_
  refine lv_iload_n hx hb dX1_twinGate_57 rfl (lv_at hl 4 rfl) ?_
  refine x_iald hx hb hK hP 3 0 rfl rfl (by omega) (by omega) dX1_twinGate_58 ?_
  refine x_top (show of k = nI b from by rw [(hrp k hk).2, hlk]; rfl) ?_
  refine lv_iconst (v := nI 1) hx hb dX1_twinGate_59 (by decide) ?_
  refine lv_ishr hx hb dX1_twinGate_60 ?_
  refine x_top (n_shr1 (by omega)) ?_
  refine x_iald hx hb hK hP 12 0 rfl rfl (by omega) (by omega) dX1_twinGate_61 ?_
  refine x_top (show tl (b / 2) = nI (T (b / 2)) from zb.1.2) ?_
  refine lv_istore (lv' := [(5, .int (nI (T (b / 2)))), (4, .int (nI (T (a / 2)))), (3, .int (nI (litN V b))), (2, .int (nI (litN V a))), (0, .ref x), (1, .int (nI k))]) hx hb dX1_twinGate_62 hl (by decide) rfl (fun ls hl => ?_)
  refine lv_aload_n hx hb dX1_twinGate_64 rfl (lv_at hl 4 rfl) ?_
  refine va_get (D := D) (ci := 1) (v := .ref ht) (C := RX1) (T := TX1) (N := 8) hx hb hts hiX1 hown hK hP 0 rfl rfl 1 (by decide) wf18 (fun _ h9 => h9) rfl dX1_twinGate_65 ?_
  refine lv_iload_n hx hb dX1_twinGate_68 rfl (lv_at hl 3 rfl) ?_
  refine lv_iload_n hx hb dX1_twinGate_69 rfl (lv_at hl 2 rfl) ?_
  refine x_calli (wc := [(ht, .inr (0, [.int (nI 128), .int (nI 1500), .ref t1, .ref t2, .ref t3, .ref t4, .int (nI tn.length), .int (nI tic)])), (t1, .inl (cyI, (1 + 128 + 1500), .inl tlf)), (t2, .inl (cyI, (1 + 128 + 1500), .inl tof)), (t3, .inl (cyI, 128, .inl tnf)), (t4, .inl (cyJ, (1 + 128 + 1500), .inr (.inl twf)))]) (wr := [(x, .inr (1, [.ref hn, .ref ht, .int tw, .ref av, .ref au, .ref ab, .ref ai, .ref aw])), (hn, .inr (0, [.int (nI 64), .int (nI 400), .ref n1, .ref n2, .ref n3, .ref n4, .int (nI l.length), .int (nI ic)])), (n1, .inl (cyI, (1 + 64 + 400), .inl lf)), (n2, .inl (cyI, (1 + 64 + 400), .inl of)), (n3, .inl (cyI, 64, .inl nf)), (n4, .inl (cyJ, (1 + 64 + 400), .inr (.inl wf))), (av, .inl (cyI, 465, .inl vl)), (au, .inl (cyI, 465, .inl tl)), (ab, .inl (cyI, 64, .inl bb)), (ai, .inl (cyI, 64, .inl tt)), (aw, .inl (cyJ, 465, .inr (.inl ww)))]) (w2 := fun (u : (Nat → Int32) × (Nat → Int32)) => [(x, .inr (1, [.ref hn, .ref ht, .int tw, .ref av, .ref au, .ref ab, .ref ai, .ref aw])), (hn, .inr (0, [.int (nI 64), .int (nI 400), .ref n1, .ref n2, .ref n3, .ref n4, .int (nI l.length), .int (nI ic)])), (n1, .inl (cyI, (1 + 64 + 400), .inl lf)), (n2, .inl (cyI, (1 + 64 + 400), .inl of)), (n3, .inl (cyI, 64, .inl nf)), (n4, .inl (cyJ, (1 + 64 + 400), .inr (.inl wf))), (ht, .inr (0, [.int (nI 128), .int (nI 1500), .ref t1, .ref t2, .ref t3, .ref t4, .int (nI ((nAnd 1500 tn (some (litN V a)) (some (litN V b))).2.length)), .int (nI tic)])), (t1, .inl (cyI, (1 + 128 + 1500), .inl u.1)), (t2, .inl (cyI, (1 + 128 + 1500), .inl u.2)), (t3, .inl (cyI, 128, .inl tnf)), (t4, .inl (cyJ, (1 + 128 + 1500), .inr (.inl twf))), (av, .inl (cyI, 465, .inl vl)), (au, .inl (cyI, 465, .inl tl)), (ab, .inl (cyI, 64, .inl bb)), (ai, .inl (cyI, 64, .inl tt)), (aw, .inl (cyJ, 465, .inr (.inl ww)))]) [6, 7, 8, 9, 10] [0, 1, 2, 3, 4, 5, 11, 12, 13, 14, 15] [0, 1, 2, 3, 4, 5, 11, 12, 13, 14, 15, 6, 7, 8, 9, 10] (va_runVN (As := [.int (nI (litN V a)), .int (nI (litN V b))]) (rest := []) ⟨hx, hb, hml, hown, hts⟩ (c_X0_bothO lch D cyI cyJ _ ht t1 t2 t3 t4 128 1500 tlf tof tnf twf tic tn (some (litN V a)) (some (litN V b)) tok trp tg tgM tic_ (by omega) (vO_some hva) (vO_some hvb)) ⟨va_cnB 2 hts gX1_twinGate_X0_both_n46 rfl rfl rfl (hNN.at (.methodLinkNest "NetTwin" 46 yX0_both "NetTwin") (by decide +kernel)) wzX0 (by decide +kernel) ⟨Nat.le_of_ble_eq_true rfl, Nat.le_of_ble_eq_true rfl⟩, wm_yX0_both, we_yX0_both⟩ (x_preV hK hNN (hP.sub (ws' := [(ht, .inr (0, [.int (nI 128), .int (nI 1500), .ref t1, .ref t2, .ref t3, .ref t4, .int (nI tn.length), .int (nI tic)])), (t1, .inl (cyI, (1 + 128 + 1500), .inl tlf)), (t2, .inl (cyI, (1 + 128 + 1500), .inl tof)), (t3, .inl (cyI, 128, .inl tnf)), (t4, .inl (cyJ, (1 + 128 + 1500), .inr (.inl twf)))]) [6, 7, 8, 9, 10] rfl) (hD.sub (ws' := [(ht, .inr (0, [.int (nI 128), .int (nI 1500), .ref t1, .ref t2, .ref t3, .ref t4, .int (nI tn.length), .int (nI tic)])), (t1, .inl (cyI, (1 + 128 + 1500), .inl tlf)), (t2, .inl (cyI, (1 + 128 + 1500), .inl tof)), (t3, .inl (cyI, 128, .inl tnf)), (t4, .inl (cyJ, (1 + 128 + 1500), .inr (.inl twf)))]) [6, 7, 8, 9, 10] (by decide) rfl) rfl rfl (ci := 0) (q0 := 0) rfl rfl rfl) rfl rfl hl.1 rfl (lv_room (Nat.le_of_ble_eq_true rfl)) dX1_twinGate_70 ⟨Nat.le_of_ble_eq_true rfl, Nat.le_of_ble_eq_true rfl⟩) rfl hP hD hS hA rfl rfl (by decide) (by decide) (fun _ => rfl) (by decide) (fun r70 u70 H locs hw70 hP hD hS hz70 => ?_)
  obtain ⟨p1, q1⟩ := u70
  have hP : va_P D vwCl [(x, .inr (1, [.ref hn, .ref ht, .int tw, .ref av, .ref au, .ref ab, .ref ai, .ref aw])), (hn, .inr (0, [.int (nI 64), .int (nI 400), .ref n1, .ref n2, .ref n3, .ref n4, .int (nI l.length), .int (nI ic)])), (n1, .inl (cyI, (1 + 64 + 400), .inl lf)), (n2, .inl (cyI, (1 + 64 + 400), .inl of)), (n3, .inl (cyI, 64, .inl nf)), (n4, .inl (cyJ, (1 + 64 + 400), .inr (.inl wf))), (ht, .inr (0, [.int (nI 128), .int (nI 1500), .ref t1, .ref t2, .ref t3, .ref t4, .int (nI ((nAnd 1500 tn (some (litN V a)) (some (litN V b))).2.length)), .int (nI tic)])), (t1, .inl (cyI, (1 + 128 + 1500), .inl p1)), (t2, .inl (cyI, (1 + 128 + 1500), .inl q1)), (t3, .inl (cyI, 128, .inl tnf)), (t4, .inl (cyJ, (1 + 128 + 1500), .inr (.inl twf))), (av, .inl (cyI, 465, .inl vl)), (au, .inl (cyI, 465, .inl tl)), (ab, .inl (cyI, 64, .inl bb)), (ai, .inl (cyI, 64, .inl tt)), (aw, .inl (cyJ, 465, .inr (.inl ww)))] H := hP
  have hD : va_D A [(x, .inr (1, [.ref hn, .ref ht, .int tw, .ref av, .ref au, .ref ab, .ref ai, .ref aw])), (hn, .inr (0, [.int (nI 64), .int (nI 400), .ref n1, .ref n2, .ref n3, .ref n4, .int (nI l.length), .int (nI ic)])), (n1, .inl (cyI, (1 + 64 + 400), .inl lf)), (n2, .inl (cyI, (1 + 64 + 400), .inl of)), (n3, .inl (cyI, 64, .inl nf)), (n4, .inl (cyJ, (1 + 64 + 400), .inr (.inl wf))), (ht, .inr (0, [.int (nI 128), .int (nI 1500), .ref t1, .ref t2, .ref t3, .ref t4, .int (nI ((nAnd 1500 tn (some (litN V a)) (some (litN V b))).2.length)), .int (nI tic)])), (t1, .inl (cyI, (1 + 128 + 1500), .inl p1)), (t2, .inl (cyI, (1 + 128 + 1500), .inl q1)), (t3, .inl (cyI, 128, .inl tnf)), (t4, .inl (cyJ, (1 + 128 + 1500), .inr (.inl twf))), (av, .inl (cyI, 465, .inl vl)), (au, .inl (cyI, 465, .inl tl)), (ab, .inl (cyI, 64, .inl bb)), (ai, .inl (cyI, 64, .inl tt)), (aw, .inl (cyJ, 465, .inr (.inl ww)))] := hD
  have hw70 : r70 = eO (nAnd 1500 tn (some (litN V a)) (some (litN V b))).1 ∧ rpN (nAnd 1500 tn (some (litN V a)) (some (litN V b))).2 p1 q1 := hw70
  obtain ⟨rfl, R1⟩ := hw70
  refine W.widen (k := 0) (n := 0) (Nat.le_refl _) (Nat.le_refl _) ?_
  have R1 : rpN (G1 tn (litN V a) (litN V b) (T (a / 2)) (T (b / 2))).2 p1 q1 := R1
  refine lv_istore (lv' := [(6, .int (eO ((G1 tn (litN V a) (litN V b) (T (a / 2)) (T (b / 2)))).1)), (5, .int (nI (T (b / 2)))), (4, .int (nI (T (a / 2)))), (3, .int (nI (litN V b))), (2, .int (nI (litN V a))), (0, .ref x), (1, .int (nI k))]) hx hb dX1_twinGate_73 hl (by decide) rfl (fun ls hl => ?_)
  refine lv_aload_n hx hb dX1_twinGate_75 rfl (lv_at hl 5 rfl) ?_
  refine va_get (D := D) (ci := 1) (v := .ref ht) (C := RX1) (T := TX1) (N := 8) hx hb hts hiX1 hown hK hP 0 rfl rfl 1 (by decide) wf18 (fun _ h9 => h9) rfl dX1_twinGate_76 ?_
  refine lv_iload hx hb dX1_twinGate_79 (lv_at hl 2 rfl) ?_
  refine lv_iload_n hx hb dX1_twinGate_81 rfl (lv_at hl 3 rfl) ?_
  refine x_calli (wc := [(ht, .inr (0, [.int (nI 128), .int (nI 1500), .ref t1, .ref t2, .ref t3, .ref t4, .int (nI (((G1 tn (litN V a) (litN V b) (T (a / 2)) (T (b / 2))).2).length)), .int (nI tic)])), (t1, .inl (cyI, (1 + 128 + 1500), .inl p1)), (t2, .inl (cyI, (1 + 128 + 1500), .inl q1)), (t3, .inl (cyI, 128, .inl tnf)), (t4, .inl (cyJ, (1 + 128 + 1500), .inr (.inl twf)))]) (wr := [(x, .inr (1, [.ref hn, .ref ht, .int tw, .ref av, .ref au, .ref ab, .ref ai, .ref aw])), (hn, .inr (0, [.int (nI 64), .int (nI 400), .ref n1, .ref n2, .ref n3, .ref n4, .int (nI l.length), .int (nI ic)])), (n1, .inl (cyI, (1 + 64 + 400), .inl lf)), (n2, .inl (cyI, (1 + 64 + 400), .inl of)), (n3, .inl (cyI, 64, .inl nf)), (n4, .inl (cyJ, (1 + 64 + 400), .inr (.inl wf))), (av, .inl (cyI, 465, .inl vl)), (au, .inl (cyI, 465, .inl tl)), (ab, .inl (cyI, 64, .inl bb)), (ai, .inl (cyI, 64, .inl tt)), (aw, .inl (cyJ, 465, .inr (.inl ww)))]) (w2 := fun (u : (Nat → Int32) × (Nat → Int32)) => [(x, .inr (1, [.ref hn, .ref ht, .int tw, .ref av, .ref au, .ref ab, .ref ai, .ref aw])), (hn, .inr (0, [.int (nI 64), .int (nI 400), .ref n1, .ref n2, .ref n3, .ref n4, .int (nI l.length), .int (nI ic)])), (n1, .inl (cyI, (1 + 64 + 400), .inl lf)), (n2, .inl (cyI, (1 + 64 + 400), .inl of)), (n3, .inl (cyI, 64, .inl nf)), (n4, .inl (cyJ, (1 + 64 + 400), .inr (.inl wf))), (ht, .inr (0, [.int (nI 128), .int (nI 1500), .ref t1, .ref t2, .ref t3, .ref t4, .int (nI ((nAnd 1500 ((G1 tn (litN V a) (litN V b) (T (a / 2)) (T (b / 2))).2) (some (T (a / 2))) (some (litN V b))).2.length)), .int (nI tic)])), (t1, .inl (cyI, (1 + 128 + 1500), .inl u.1)), (t2, .inl (cyI, (1 + 128 + 1500), .inl u.2)), (t3, .inl (cyI, 128, .inl tnf)), (t4, .inl (cyJ, (1 + 128 + 1500), .inr (.inl twf))), (av, .inl (cyI, 465, .inl vl)), (au, .inl (cyI, 465, .inl tl)), (ab, .inl (cyI, 64, .inl bb)), (ai, .inl (cyI, 64, .inl tt)), (aw, .inl (cyJ, 465, .inr (.inl ww)))]) [6, 7, 8, 9, 10] [0, 1, 2, 3, 4, 5, 11, 12, 13, 14, 15] [0, 1, 2, 3, 4, 5, 11, 12, 13, 14, 15, 6, 7, 8, 9, 10] (va_runVN (As := [.int (nI (T (a / 2))), .int (nI (litN V b))]) (rest := []) ⟨hx, hb, hml, hown, hts⟩ (c_X0_bothO lch D cyI cyJ _ ht t1 t2 t3 t4 128 1500 p1 q1 tnf twf tic ((G1 tn (litN V a) (litN V b) (T (a / 2)) (T (b / 2))).2) (some (T (a / 2))) (some (litN V b)) K1.1 R1 (by have := K1.2.2.2.1; omega) K1.2.2.1 tic_ (by omega) (vO_some (by have := K1.2.2.2.2.1; omega)) (vO_some (by have := K1.2.2.2.2.1; omega))) ⟨va_cnB 2 hts gX1_twinGate_X0_both_n46 rfl rfl rfl (hNN.at (.methodLinkNest "NetTwin" 46 yX0_both "NetTwin") (by decide +kernel)) wzX0 (by decide +kernel) ⟨Nat.le_of_ble_eq_true rfl, Nat.le_of_ble_eq_true rfl⟩, wm_yX0_both, we_yX0_both⟩ (x_preV hK hNN (hP.sub (ws' := [(ht, .inr (0, [.int (nI 128), .int (nI 1500), .ref t1, .ref t2, .ref t3, .ref t4, .int (nI (((G1 tn (litN V a) (litN V b) (T (a / 2)) (T (b / 2))).2).length)), .int (nI tic)])), (t1, .inl (cyI, (1 + 128 + 1500), .inl p1)), (t2, .inl (cyI, (1 + 128 + 1500), .inl q1)), (t3, .inl (cyI, 128, .inl tnf)), (t4, .inl (cyJ, (1 + 128 + 1500), .inr (.inl twf)))]) [6, 7, 8, 9, 10] rfl) (hD.sub (ws' := [(ht, .inr (0, [.int (nI 128), .int (nI 1500), .ref t1, .ref t2, .ref t3, .ref t4, .int (nI (((G1 tn (litN V a) (litN V b) (T (a / 2)) (T (b / 2))).2).length)), .int (nI tic)])), (t1, .inl (cyI, (1 + 128 + 1500), .inl p1)), (t2, .inl (cyI, (1 + 128 + 1500), .inl q1)), (t3, .inl (cyI, 128, .inl tnf)), (t4, .inl (cyJ, (1 + 128 + 1500), .inr (.inl twf)))]) [6, 7, 8, 9, 10] (by decide) rfl) rfl rfl (ci := 0) (q0 := 0) rfl rfl rfl) rfl rfl hl.1 rfl (lv_room (Nat.le_of_ble_eq_true rfl)) dX1_twinGate_82 ⟨Nat.le_of_ble_eq_true rfl, Nat.le_of_ble_eq_true rfl⟩) rfl hP hD hS hA rfl rfl (by decide) (by decide) (fun _ => rfl) (by decide) (fun r82 u82 H locs hw82 hP hD hS hz82 => ?_)
  obtain ⟨p2, q2⟩ := u82
  have hP : va_P D vwCl [(x, .inr (1, [.ref hn, .ref ht, .int tw, .ref av, .ref au, .ref ab, .ref ai, .ref aw])), (hn, .inr (0, [.int (nI 64), .int (nI 400), .ref n1, .ref n2, .ref n3, .ref n4, .int (nI l.length), .int (nI ic)])), (n1, .inl (cyI, (1 + 64 + 400), .inl lf)), (n2, .inl (cyI, (1 + 64 + 400), .inl of)), (n3, .inl (cyI, 64, .inl nf)), (n4, .inl (cyJ, (1 + 64 + 400), .inr (.inl wf))), (ht, .inr (0, [.int (nI 128), .int (nI 1500), .ref t1, .ref t2, .ref t3, .ref t4, .int (nI ((nAnd 1500 ((G1 tn (litN V a) (litN V b) (T (a / 2)) (T (b / 2))).2) (some (T (a / 2))) (some (litN V b))).2.length)), .int (nI tic)])), (t1, .inl (cyI, (1 + 128 + 1500), .inl p2)), (t2, .inl (cyI, (1 + 128 + 1500), .inl q2)), (t3, .inl (cyI, 128, .inl tnf)), (t4, .inl (cyJ, (1 + 128 + 1500), .inr (.inl twf))), (av, .inl (cyI, 465, .inl vl)), (au, .inl (cyI, 465, .inl tl)), (ab, .inl (cyI, 64, .inl bb)), (ai, .inl (cyI, 64, .inl tt)), (aw, .inl (cyJ, 465, .inr (.inl ww)))] H := hP
  have hD : va_D A [(x, .inr (1, [.ref hn, .ref ht, .int tw, .ref av, .ref au, .ref ab, .ref ai, .ref aw])), (hn, .inr (0, [.int (nI 64), .int (nI 400), .ref n1, .ref n2, .ref n3, .ref n4, .int (nI l.length), .int (nI ic)])), (n1, .inl (cyI, (1 + 64 + 400), .inl lf)), (n2, .inl (cyI, (1 + 64 + 400), .inl of)), (n3, .inl (cyI, 64, .inl nf)), (n4, .inl (cyJ, (1 + 64 + 400), .inr (.inl wf))), (ht, .inr (0, [.int (nI 128), .int (nI 1500), .ref t1, .ref t2, .ref t3, .ref t4, .int (nI ((nAnd 1500 ((G1 tn (litN V a) (litN V b) (T (a / 2)) (T (b / 2))).2) (some (T (a / 2))) (some (litN V b))).2.length)), .int (nI tic)])), (t1, .inl (cyI, (1 + 128 + 1500), .inl p2)), (t2, .inl (cyI, (1 + 128 + 1500), .inl q2)), (t3, .inl (cyI, 128, .inl tnf)), (t4, .inl (cyJ, (1 + 128 + 1500), .inr (.inl twf))), (av, .inl (cyI, 465, .inl vl)), (au, .inl (cyI, 465, .inl tl)), (ab, .inl (cyI, 64, .inl bb)), (ai, .inl (cyI, 64, .inl tt)), (aw, .inl (cyJ, 465, .inr (.inl ww)))] := hD
  have hw82 : r82 = eO (nAnd 1500 ((G1 tn (litN V a) (litN V b) (T (a / 2)) (T (b / 2))).2) (some (T (a / 2))) (some (litN V b))).1 ∧ rpN (nAnd 1500 ((G1 tn (litN V a) (litN V b) (T (a / 2)) (T (b / 2))).2) (some (T (a / 2))) (some (litN V b))).2 p2 q2 := hw82
  obtain ⟨rfl, R2⟩ := hw82
  refine W.widen (k := 0) (n := 0) (Nat.le_refl _) (Nat.le_refl _) ?_
  have R2 : rpN (G2 tn (litN V a) (litN V b) (T (a / 2)) (T (b / 2))).2 p2 q2 := R2
  refine lv_istore (lv' := [(7, .int (eO (nAnd 1500 ((G1 tn (litN V a) (litN V b) (T (a / 2)) (T (b / 2))).2) (some (T (a / 2))) (some (litN V b))).1)), (6, .int (eO ((G1 tn (litN V a) (litN V b) (T (a / 2)) (T (b / 2)))).1)), (5, .int (nI (T (b / 2)))), (4, .int (nI (T (a / 2)))), (3, .int (nI (litN V b))), (2, .int (nI (litN V a))), (0, .ref x), (1, .int (nI k))]) hx hb dX1_twinGate_85 hl (by decide) rfl (fun ls hl => ?_)
  refine lv_aload_n hx hb dX1_twinGate_87 rfl (lv_at hl 6 rfl) ?_
  refine va_get (D := D) (ci := 1) (v := .ref ht) (C := RX1) (T := TX1) (N := 8) hx hb hts hiX1 hown hK hP 0 rfl rfl 1 (by decide) wf18 (fun _ h9 => h9) rfl dX1_twinGate_88 ?_
  refine lv_iload hx hb dX1_twinGate_91 (lv_at hl 2 rfl) ?_
  refine lv_iload_n hx hb dX1_twinGate_93 rfl (lv_at hl 5 rfl) ?_
  refine x_calli (wc := [(ht, .inr (0, [.int (nI 128), .int (nI 1500), .ref t1, .ref t2, .ref t3, .ref t4, .int (nI (((G2 tn (litN V a) (litN V b) (T (a / 2)) (T (b / 2))).2).length)), .int (nI tic)])), (t1, .inl (cyI, (1 + 128 + 1500), .inl p2)), (t2, .inl (cyI, (1 + 128 + 1500), .inl q2)), (t3, .inl (cyI, 128, .inl tnf)), (t4, .inl (cyJ, (1 + 128 + 1500), .inr (.inl twf)))]) (wr := [(x, .inr (1, [.ref hn, .ref ht, .int tw, .ref av, .ref au, .ref ab, .ref ai, .ref aw])), (hn, .inr (0, [.int (nI 64), .int (nI 400), .ref n1, .ref n2, .ref n3, .ref n4, .int (nI l.length), .int (nI ic)])), (n1, .inl (cyI, (1 + 64 + 400), .inl lf)), (n2, .inl (cyI, (1 + 64 + 400), .inl of)), (n3, .inl (cyI, 64, .inl nf)), (n4, .inl (cyJ, (1 + 64 + 400), .inr (.inl wf))), (av, .inl (cyI, 465, .inl vl)), (au, .inl (cyI, 465, .inl tl)), (ab, .inl (cyI, 64, .inl bb)), (ai, .inl (cyI, 64, .inl tt)), (aw, .inl (cyJ, 465, .inr (.inl ww)))]) (w2 := fun (u : (Nat → Int32) × (Nat → Int32)) => [(x, .inr (1, [.ref hn, .ref ht, .int tw, .ref av, .ref au, .ref ab, .ref ai, .ref aw])), (hn, .inr (0, [.int (nI 64), .int (nI 400), .ref n1, .ref n2, .ref n3, .ref n4, .int (nI l.length), .int (nI ic)])), (n1, .inl (cyI, (1 + 64 + 400), .inl lf)), (n2, .inl (cyI, (1 + 64 + 400), .inl of)), (n3, .inl (cyI, 64, .inl nf)), (n4, .inl (cyJ, (1 + 64 + 400), .inr (.inl wf))), (ht, .inr (0, [.int (nI 128), .int (nI 1500), .ref t1, .ref t2, .ref t3, .ref t4, .int (nI ((nAnd 1500 ((G2 tn (litN V a) (litN V b) (T (a / 2)) (T (b / 2))).2) (some (T (b / 2))) (some (litN V a))).2.length)), .int (nI tic)])), (t1, .inl (cyI, (1 + 128 + 1500), .inl u.1)), (t2, .inl (cyI, (1 + 128 + 1500), .inl u.2)), (t3, .inl (cyI, 128, .inl tnf)), (t4, .inl (cyJ, (1 + 128 + 1500), .inr (.inl twf))), (av, .inl (cyI, 465, .inl vl)), (au, .inl (cyI, 465, .inl tl)), (ab, .inl (cyI, 64, .inl bb)), (ai, .inl (cyI, 64, .inl tt)), (aw, .inl (cyJ, 465, .inr (.inl ww)))]) [6, 7, 8, 9, 10] [0, 1, 2, 3, 4, 5, 11, 12, 13, 14, 15] [0, 1, 2, 3, 4, 5, 11, 12, 13, 14, 15, 6, 7, 8, 9, 10] (va_runVN (As := [.int (nI (T (b / 2))), .int (nI (litN V a))]) (rest := []) ⟨hx, hb, hml, hown, hts⟩ (c_X0_bothO lch D cyI cyJ _ ht t1 t2 t3 t4 128 1500 p2 q2 tnf twf tic ((G2 tn (litN V a) (litN V b) (T (a / 2)) (T (b / 2))).2) (some (T (b / 2))) (some (litN V a)) K2.1 R2 (by have := K2.2.2.2.1; omega) K2.2.2.1 tic_ (by omega) (vO_some (by have := K2.2.2.2.2.1; omega)) (vO_some (by have := K2.2.2.2.2.1; omega))) ⟨va_cnB 2 hts gX1_twinGate_X0_both_n46 rfl rfl rfl (hNN.at (.methodLinkNest "NetTwin" 46 yX0_both "NetTwin") (by decide +kernel)) wzX0 (by decide +kernel) ⟨Nat.le_of_ble_eq_true rfl, Nat.le_of_ble_eq_true rfl⟩, wm_yX0_both, we_yX0_both⟩ (x_preV hK hNN (hP.sub (ws' := [(ht, .inr (0, [.int (nI 128), .int (nI 1500), .ref t1, .ref t2, .ref t3, .ref t4, .int (nI (((G2 tn (litN V a) (litN V b) (T (a / 2)) (T (b / 2))).2).length)), .int (nI tic)])), (t1, .inl (cyI, (1 + 128 + 1500), .inl p2)), (t2, .inl (cyI, (1 + 128 + 1500), .inl q2)), (t3, .inl (cyI, 128, .inl tnf)), (t4, .inl (cyJ, (1 + 128 + 1500), .inr (.inl twf)))]) [6, 7, 8, 9, 10] rfl) (hD.sub (ws' := [(ht, .inr (0, [.int (nI 128), .int (nI 1500), .ref t1, .ref t2, .ref t3, .ref t4, .int (nI (((G2 tn (litN V a) (litN V b) (T (a / 2)) (T (b / 2))).2).length)), .int (nI tic)])), (t1, .inl (cyI, (1 + 128 + 1500), .inl p2)), (t2, .inl (cyI, (1 + 128 + 1500), .inl q2)), (t3, .inl (cyI, 128, .inl tnf)), (t4, .inl (cyJ, (1 + 128 + 1500), .inr (.inl twf)))]) [6, 7, 8, 9, 10] (by decide) rfl) rfl rfl (ci := 0) (q0 := 0) rfl rfl rfl) rfl rfl hl.1 rfl (lv_room (Nat.le_of_ble_eq_true rfl)) dX1_twinGate_94 ⟨Nat.le_of_ble_eq_true rfl, Nat.le_of_ble_eq_true rfl⟩) rfl hP hD hS hA rfl rfl (by decide) (by decide) (fun _ => rfl) (by decide) (fun r94 u94 H locs hw94 hP hD hS hz94 => ?_)
  obtain ⟨p3, q3⟩ := u94
  have hP : va_P D vwCl [(x, .inr (1, [.ref hn, .ref ht, .int tw, .ref av, .ref au, .ref ab, .ref ai, .ref aw])), (hn, .inr (0, [.int (nI 64), .int (nI 400), .ref n1, .ref n2, .ref n3, .ref n4, .int (nI l.length), .int (nI ic)])), (n1, .inl (cyI, (1 + 64 + 400), .inl lf)), (n2, .inl (cyI, (1 + 64 + 400), .inl of)), (n3, .inl (cyI, 64, .inl nf)), (n4, .inl (cyJ, (1 + 64 + 400), .inr (.inl wf))), (ht, .inr (0, [.int (nI 128), .int (nI 1500), .ref t1, .ref t2, .ref t3, .ref t4, .int (nI ((nAnd 1500 ((G2 tn (litN V a) (litN V b) (T (a / 2)) (T (b / 2))).2) (some (T (b / 2))) (some (litN V a))).2.length)), .int (nI tic)])), (t1, .inl (cyI, (1 + 128 + 1500), .inl p3)), (t2, .inl (cyI, (1 + 128 + 1500), .inl q3)), (t3, .inl (cyI, 128, .inl tnf)), (t4, .inl (cyJ, (1 + 128 + 1500), .inr (.inl twf))), (av, .inl (cyI, 465, .inl vl)), (au, .inl (cyI, 465, .inl tl)), (ab, .inl (cyI, 64, .inl bb)), (ai, .inl (cyI, 64, .inl tt)), (aw, .inl (cyJ, 465, .inr (.inl ww)))] H := hP
  have hD : va_D A [(x, .inr (1, [.ref hn, .ref ht, .int tw, .ref av, .ref au, .ref ab, .ref ai, .ref aw])), (hn, .inr (0, [.int (nI 64), .int (nI 400), .ref n1, .ref n2, .ref n3, .ref n4, .int (nI l.length), .int (nI ic)])), (n1, .inl (cyI, (1 + 64 + 400), .inl lf)), (n2, .inl (cyI, (1 + 64 + 400), .inl of)), (n3, .inl (cyI, 64, .inl nf)), (n4, .inl (cyJ, (1 + 64 + 400), .inr (.inl wf))), (ht, .inr (0, [.int (nI 128), .int (nI 1500), .ref t1, .ref t2, .ref t3, .ref t4, .int (nI ((nAnd 1500 ((G2 tn (litN V a) (litN V b) (T (a / 2)) (T (b / 2))).2) (some (T (b / 2))) (some (litN V a))).2.length)), .int (nI tic)])), (t1, .inl (cyI, (1 + 128 + 1500), .inl p3)), (t2, .inl (cyI, (1 + 128 + 1500), .inl q3)), (t3, .inl (cyI, 128, .inl tnf)), (t4, .inl (cyJ, (1 + 128 + 1500), .inr (.inl twf))), (av, .inl (cyI, 465, .inl vl)), (au, .inl (cyI, 465, .inl tl)), (ab, .inl (cyI, 64, .inl bb)), (ai, .inl (cyI, 64, .inl tt)), (aw, .inl (cyJ, 465, .inr (.inl ww)))] := hD
  have hw94 : r94 = eO (nAnd 1500 ((G2 tn (litN V a) (litN V b) (T (a / 2)) (T (b / 2))).2) (some (T (b / 2))) (some (litN V a))).1 ∧ rpN (nAnd 1500 ((G2 tn (litN V a) (litN V b) (T (a / 2)) (T (b / 2))).2) (some (T (b / 2))) (some (litN V a))).2 p3 q3 := hw94
  obtain ⟨rfl, R3⟩ := hw94
  refine W.widen (k := 0) (n := 0) (Nat.le_refl _) (Nat.le_refl _) ?_
  have R3 : rpN (G3 tn (litN V a) (litN V b) (T (a / 2)) (T (b / 2))).2 p3 q3 := R3
  refine lv_istore (lv' := [(8, .int (eO (nAnd 1500 ((G2 tn (litN V a) (litN V b) (T (a / 2)) (T (b / 2))).2) (some (T (b / 2))) (some (litN V a))).1)), (7, .int (eO (nAnd 1500 ((G1 tn (litN V a) (litN V b) (T (a / 2)) (T (b / 2))).2) (some (T (a / 2))) (some (litN V b))).1)), (6, .int (eO ((G1 tn (litN V a) (litN V b) (T (a / 2)) (T (b / 2)))).1)), (5, .int (nI (T (b / 2)))), (4, .int (nI (T (a / 2)))), (3, .int (nI (litN V b))), (2, .int (nI (litN V a))), (0, .ref x), (1, .int (nI k))]) hx hb dX1_twinGate_97 hl (by decide) rfl (fun ls hl => ?_)
  refine lv_aload_n hx hb dX1_twinGate_99 rfl (lv_at hl 7 rfl) ?_
  refine va_get (D := D) (ci := 1) (v := .ref ht) (C := RX1) (T := TX1) (N := 8) hx hb hts hiX1 hown hK hP 0 rfl rfl 1 (by decide) wf18 (fun _ h9 => h9) rfl dX1_twinGate_100 ?_
  refine lv_iload hx hb dX1_twinGate_103 (lv_at hl 1 rfl) ?_
  refine lv_iload hx hb dX1_twinGate_105 (lv_at hl 0 rfl) ?_
  refine x_calli (wc := [(ht, .inr (0, [.int (nI 128), .int (nI 1500), .ref t1, .ref t2, .ref t3, .ref t4, .int (nI (((G3 tn (litN V a) (litN V b) (T (a / 2)) (T (b / 2))).2).length)), .int (nI tic)])), (t1, .inl (cyI, (1 + 128 + 1500), .inl p3)), (t2, .inl (cyI, (1 + 128 + 1500), .inl q3)), (t3, .inl (cyI, 128, .inl tnf)), (t4, .inl (cyJ, (1 + 128 + 1500), .inr (.inl twf)))]) (wr := [(x, .inr (1, [.ref hn, .ref ht, .int tw, .ref av, .ref au, .ref ab, .ref ai, .ref aw])), (hn, .inr (0, [.int (nI 64), .int (nI 400), .ref n1, .ref n2, .ref n3, .ref n4, .int (nI l.length), .int (nI ic)])), (n1, .inl (cyI, (1 + 64 + 400), .inl lf)), (n2, .inl (cyI, (1 + 64 + 400), .inl of)), (n3, .inl (cyI, 64, .inl nf)), (n4, .inl (cyJ, (1 + 64 + 400), .inr (.inl wf))), (av, .inl (cyI, 465, .inl vl)), (au, .inl (cyI, 465, .inl tl)), (ab, .inl (cyI, 64, .inl bb)), (ai, .inl (cyI, 64, .inl tt)), (aw, .inl (cyJ, 465, .inr (.inl ww)))]) (w2 := fun (u : (Nat → Int32) × (Nat → Int32)) => [(x, .inr (1, [.ref hn, .ref ht, .int tw, .ref av, .ref au, .ref ab, .ref ai, .ref aw])), (hn, .inr (0, [.int (nI 64), .int (nI 400), .ref n1, .ref n2, .ref n3, .ref n4, .int (nI l.length), .int (nI ic)])), (n1, .inl (cyI, (1 + 64 + 400), .inl lf)), (n2, .inl (cyI, (1 + 64 + 400), .inl of)), (n3, .inl (cyI, 64, .inl nf)), (n4, .inl (cyJ, (1 + 64 + 400), .inr (.inl wf))), (ht, .inr (0, [.int (nI 128), .int (nI 1500), .ref t1, .ref t2, .ref t3, .ref t4, .int (nI ((nOr 1500 ((G3 tn (litN V a) (litN V b) (T (a / 2)) (T (b / 2))).2) ((G2 tn (litN V a) (litN V b) (T (a / 2)) (T (b / 2))).1) ((G3 tn (litN V a) (litN V b) (T (a / 2)) (T (b / 2))).1)).2.length)), .int (nI tic)])), (t1, .inl (cyI, (1 + 128 + 1500), .inl u.1)), (t2, .inl (cyI, (1 + 128 + 1500), .inl u.2)), (t3, .inl (cyI, 128, .inl tnf)), (t4, .inl (cyJ, (1 + 128 + 1500), .inr (.inl twf))), (av, .inl (cyI, 465, .inl vl)), (au, .inl (cyI, 465, .inl tl)), (ab, .inl (cyI, 64, .inl bb)), (ai, .inl (cyI, 64, .inl tt)), (aw, .inl (cyJ, 465, .inr (.inl ww)))]) [6, 7, 8, 9, 10] [0, 1, 2, 3, 4, 5, 11, 12, 13, 14, 15] [0, 1, 2, 3, 4, 5, 11, 12, 13, 14, 15, 6, 7, 8, 9, 10] (va_runVN (As := [.int (eO (nAnd 1500 ((G1 tn (litN V a) (litN V b) (T (a / 2)) (T (b / 2))).2) (some (T (a / 2))) (some (litN V b))).1), .int (eO (nAnd 1500 ((G2 tn (litN V a) (litN V b) (T (a / 2)) (T (b / 2))).2) (some (T (b / 2))) (some (litN V a))).1)]) (rest := []) ⟨hx, hb, hml, hown, hts⟩ (c_X0_eitherO lch D cyI cyJ _ ht t1 t2 t3 t4 128 1500 p3 q3 tnf twf tic ((G3 tn (litN V a) (litN V b) (T (a / 2)) (T (b / 2))).2) ((G2 tn (litN V a) (litN V b) (T (a / 2)) (T (b / 2))).1) ((G3 tn (litN V a) (litN V b) (T (a / 2)) (T (b / 2))).1) K3.1 R3 (by have := K3.2.2.2.1; omega) K3.2.2.1 tic_ (by omega) V3 K3.2.1) ⟨va_cnB 2 hts gX1_twinGate_X0_either_n50 rfl rfl rfl (hNN.at (.methodLinkNest "NetTwin" 50 yX0_either "NetTwin") (by decide +kernel)) wzX0 (by decide +kernel) ⟨Nat.le_of_ble_eq_true rfl, Nat.le_of_ble_eq_true rfl⟩, wm_yX0_either, we_yX0_either⟩ (x_preV hK hNN (hP.sub (ws' := [(ht, .inr (0, [.int (nI 128), .int (nI 1500), .ref t1, .ref t2, .ref t3, .ref t4, .int (nI (((G3 tn (litN V a) (litN V b) (T (a / 2)) (T (b / 2))).2).length)), .int (nI tic)])), (t1, .inl (cyI, (1 + 128 + 1500), .inl p3)), (t2, .inl (cyI, (1 + 128 + 1500), .inl q3)), (t3, .inl (cyI, 128, .inl tnf)), (t4, .inl (cyJ, (1 + 128 + 1500), .inr (.inl twf)))]) [6, 7, 8, 9, 10] rfl) (hD.sub (ws' := [(ht, .inr (0, [.int (nI 128), .int (nI 1500), .ref t1, .ref t2, .ref t3, .ref t4, .int (nI (((G3 tn (litN V a) (litN V b) (T (a / 2)) (T (b / 2))).2).length)), .int (nI tic)])), (t1, .inl (cyI, (1 + 128 + 1500), .inl p3)), (t2, .inl (cyI, (1 + 128 + 1500), .inl q3)), (t3, .inl (cyI, 128, .inl tnf)), (t4, .inl (cyJ, (1 + 128 + 1500), .inr (.inl twf)))]) [6, 7, 8, 9, 10] (by decide) rfl) rfl rfl (ci := 0) (q0 := 0) rfl rfl rfl) rfl rfl hl.1 rfl (lv_room (Nat.le_of_ble_eq_true rfl)) dX1_twinGate_107 ⟨Nat.le_of_ble_eq_true rfl, Nat.le_of_ble_eq_true rfl⟩) rfl hP hD hS hA rfl rfl (by decide) (by decide) (fun _ => rfl) (by decide) (fun r107 u107 H locs hw107 hP hD hS hz107 => ?_)
  obtain ⟨p4, q4⟩ := u107
  have hP : va_P D vwCl [(x, .inr (1, [.ref hn, .ref ht, .int tw, .ref av, .ref au, .ref ab, .ref ai, .ref aw])), (hn, .inr (0, [.int (nI 64), .int (nI 400), .ref n1, .ref n2, .ref n3, .ref n4, .int (nI l.length), .int (nI ic)])), (n1, .inl (cyI, (1 + 64 + 400), .inl lf)), (n2, .inl (cyI, (1 + 64 + 400), .inl of)), (n3, .inl (cyI, 64, .inl nf)), (n4, .inl (cyJ, (1 + 64 + 400), .inr (.inl wf))), (ht, .inr (0, [.int (nI 128), .int (nI 1500), .ref t1, .ref t2, .ref t3, .ref t4, .int (nI ((nOr 1500 ((G3 tn (litN V a) (litN V b) (T (a / 2)) (T (b / 2))).2) ((G2 tn (litN V a) (litN V b) (T (a / 2)) (T (b / 2))).1) ((G3 tn (litN V a) (litN V b) (T (a / 2)) (T (b / 2))).1)).2.length)), .int (nI tic)])), (t1, .inl (cyI, (1 + 128 + 1500), .inl p4)), (t2, .inl (cyI, (1 + 128 + 1500), .inl q4)), (t3, .inl (cyI, 128, .inl tnf)), (t4, .inl (cyJ, (1 + 128 + 1500), .inr (.inl twf))), (av, .inl (cyI, 465, .inl vl)), (au, .inl (cyI, 465, .inl tl)), (ab, .inl (cyI, 64, .inl bb)), (ai, .inl (cyI, 64, .inl tt)), (aw, .inl (cyJ, 465, .inr (.inl ww)))] H := hP
  have hD : va_D A [(x, .inr (1, [.ref hn, .ref ht, .int tw, .ref av, .ref au, .ref ab, .ref ai, .ref aw])), (hn, .inr (0, [.int (nI 64), .int (nI 400), .ref n1, .ref n2, .ref n3, .ref n4, .int (nI l.length), .int (nI ic)])), (n1, .inl (cyI, (1 + 64 + 400), .inl lf)), (n2, .inl (cyI, (1 + 64 + 400), .inl of)), (n3, .inl (cyI, 64, .inl nf)), (n4, .inl (cyJ, (1 + 64 + 400), .inr (.inl wf))), (ht, .inr (0, [.int (nI 128), .int (nI 1500), .ref t1, .ref t2, .ref t3, .ref t4, .int (nI ((nOr 1500 ((G3 tn (litN V a) (litN V b) (T (a / 2)) (T (b / 2))).2) ((G2 tn (litN V a) (litN V b) (T (a / 2)) (T (b / 2))).1) ((G3 tn (litN V a) (litN V b) (T (a / 2)) (T (b / 2))).1)).2.length)), .int (nI tic)])), (t1, .inl (cyI, (1 + 128 + 1500), .inl p4)), (t2, .inl (cyI, (1 + 128 + 1500), .inl q4)), (t3, .inl (cyI, 128, .inl tnf)), (t4, .inl (cyJ, (1 + 128 + 1500), .inr (.inl twf))), (av, .inl (cyI, 465, .inl vl)), (au, .inl (cyI, 465, .inl tl)), (ab, .inl (cyI, 64, .inl bb)), (ai, .inl (cyI, 64, .inl tt)), (aw, .inl (cyJ, 465, .inr (.inl ww)))] := hD
  have hw107 : r107 = eO (nOr 1500 ((G3 tn (litN V a) (litN V b) (T (a / 2)) (T (b / 2))).2) ((G2 tn (litN V a) (litN V b) (T (a / 2)) (T (b / 2))).1) ((G3 tn (litN V a) (litN V b) (T (a / 2)) (T (b / 2))).1)).1 ∧ rpN (nOr 1500 ((G3 tn (litN V a) (litN V b) (T (a / 2)) (T (b / 2))).2) ((G2 tn (litN V a) (litN V b) (T (a / 2)) (T (b / 2))).1) ((G3 tn (litN V a) (litN V b) (T (a / 2)) (T (b / 2))).1)).2 p4 q4 := hw107
  obtain ⟨rfl, R4⟩ := hw107
  refine W.widen (k := 0) (n := 0) (Nat.le_refl _) (Nat.le_refl _) ?_
  have R4 : rpN (G4 tn (litN V a) (litN V b) (T (a / 2)) (T (b / 2))).2 p4 q4 := R4
  refine lv_istore (lv' := [(9, .int (eO (nOr 1500 ((G3 tn (litN V a) (litN V b) (T (a / 2)) (T (b / 2))).2) ((G2 tn (litN V a) (litN V b) (T (a / 2)) (T (b / 2))).1) ((G3 tn (litN V a) (litN V b) (T (a / 2)) (T (b / 2))).1)).1)), (8, .int (eO (nAnd 1500 ((G2 tn (litN V a) (litN V b) (T (a / 2)) (T (b / 2))).2) (some (T (b / 2))) (some (litN V a))).1)), (7, .int (eO (nAnd 1500 ((G1 tn (litN V a) (litN V b) (T (a / 2)) (T (b / 2))).2) (some (T (a / 2))) (some (litN V b))).1)), (6, .int (eO ((G1 tn (litN V a) (litN V b) (T (a / 2)) (T (b / 2)))).1)), (5, .int (nI (T (b / 2)))), (4, .int (nI (T (a / 2)))), (3, .int (nI (litN V b))), (2, .int (nI (litN V a))), (0, .ref x), (1, .int (nI k))]) hx hb dX1_twinGate_110 hl (by decide) rfl (fun ls hl => ?_)
  refine lv_aload_n hx hb dX1_twinGate_112 rfl (lv_at hl 8 rfl) ?_
  refine va_get (D := D) (ci := 1) (v := .ref ht) (C := RX1) (T := TX1) (N := 8) hx hb hts hiX1 hown hK hP 0 rfl rfl 1 (by decide) wf18 (fun _ h9 => h9) rfl dX1_twinGate_113 ?_
  refine lv_iload hx hb dX1_twinGate_116 (lv_at hl 5 rfl) ?_
  refine lv_iload hx hb dX1_twinGate_118 (lv_at hl 4 rfl) ?_
  refine x_calli (wc := [(ht, .inr (0, [.int (nI 128), .int (nI 1500), .ref t1, .ref t2, .ref t3, .ref t4, .int (nI (((G4 tn (litN V a) (litN V b) (T (a / 2)) (T (b / 2))).2).length)), .int (nI tic)])), (t1, .inl (cyI, (1 + 128 + 1500), .inl p4)), (t2, .inl (cyI, (1 + 128 + 1500), .inl q4)), (t3, .inl (cyI, 128, .inl tnf)), (t4, .inl (cyJ, (1 + 128 + 1500), .inr (.inl twf)))]) (wr := [(x, .inr (1, [.ref hn, .ref ht, .int tw, .ref av, .ref au, .ref ab, .ref ai, .ref aw])), (hn, .inr (0, [.int (nI 64), .int (nI 400), .ref n1, .ref n2, .ref n3, .ref n4, .int (nI l.length), .int (nI ic)])), (n1, .inl (cyI, (1 + 64 + 400), .inl lf)), (n2, .inl (cyI, (1 + 64 + 400), .inl of)), (n3, .inl (cyI, 64, .inl nf)), (n4, .inl (cyJ, (1 + 64 + 400), .inr (.inl wf))), (av, .inl (cyI, 465, .inl vl)), (au, .inl (cyI, 465, .inl tl)), (ab, .inl (cyI, 64, .inl bb)), (ai, .inl (cyI, 64, .inl tt)), (aw, .inl (cyJ, 465, .inr (.inl ww)))]) (w2 := fun (u : (Nat → Int32) × (Nat → Int32)) => [(x, .inr (1, [.ref hn, .ref ht, .int tw, .ref av, .ref au, .ref ab, .ref ai, .ref aw])), (hn, .inr (0, [.int (nI 64), .int (nI 400), .ref n1, .ref n2, .ref n3, .ref n4, .int (nI l.length), .int (nI ic)])), (n1, .inl (cyI, (1 + 64 + 400), .inl lf)), (n2, .inl (cyI, (1 + 64 + 400), .inl of)), (n3, .inl (cyI, 64, .inl nf)), (n4, .inl (cyJ, (1 + 64 + 400), .inr (.inl wf))), (ht, .inr (0, [.int (nI 128), .int (nI 1500), .ref t1, .ref t2, .ref t3, .ref t4, .int (nI ((nAnd 1500 ((G4 tn (litN V a) (litN V b) (T (a / 2)) (T (b / 2))).2) (some (T (a / 2))) (some (T (b / 2)))).2.length)), .int (nI tic)])), (t1, .inl (cyI, (1 + 128 + 1500), .inl u.1)), (t2, .inl (cyI, (1 + 128 + 1500), .inl u.2)), (t3, .inl (cyI, 128, .inl tnf)), (t4, .inl (cyJ, (1 + 128 + 1500), .inr (.inl twf))), (av, .inl (cyI, 465, .inl vl)), (au, .inl (cyI, 465, .inl tl)), (ab, .inl (cyI, 64, .inl bb)), (ai, .inl (cyI, 64, .inl tt)), (aw, .inl (cyJ, 465, .inr (.inl ww)))]) [6, 7, 8, 9, 10] [0, 1, 2, 3, 4, 5, 11, 12, 13, 14, 15] [0, 1, 2, 3, 4, 5, 11, 12, 13, 14, 15, 6, 7, 8, 9, 10] (va_runVN (As := [.int (nI (T (a / 2))), .int (nI (T (b / 2)))]) (rest := []) ⟨hx, hb, hml, hown, hts⟩ (c_X0_bothO lch D cyI cyJ _ ht t1 t2 t3 t4 128 1500 p4 q4 tnf twf tic ((G4 tn (litN V a) (litN V b) (T (a / 2)) (T (b / 2))).2) (some (T (a / 2))) (some (T (b / 2))) K4.1 R4 (by have := K4.2.2.2.1; omega) K4.2.2.1 tic_ (by omega) (vO_some (by have := K4.2.2.2.2.1; omega)) (vO_some (by have := K4.2.2.2.2.1; omega))) ⟨va_cnB 2 hts gX1_twinGate_X0_both_n46 rfl rfl rfl (hNN.at (.methodLinkNest "NetTwin" 46 yX0_both "NetTwin") (by decide +kernel)) wzX0 (by decide +kernel) ⟨Nat.le_of_ble_eq_true rfl, Nat.le_of_ble_eq_true rfl⟩, wm_yX0_both, we_yX0_both⟩ (x_preV hK hNN (hP.sub (ws' := [(ht, .inr (0, [.int (nI 128), .int (nI 1500), .ref t1, .ref t2, .ref t3, .ref t4, .int (nI (((G4 tn (litN V a) (litN V b) (T (a / 2)) (T (b / 2))).2).length)), .int (nI tic)])), (t1, .inl (cyI, (1 + 128 + 1500), .inl p4)), (t2, .inl (cyI, (1 + 128 + 1500), .inl q4)), (t3, .inl (cyI, 128, .inl tnf)), (t4, .inl (cyJ, (1 + 128 + 1500), .inr (.inl twf)))]) [6, 7, 8, 9, 10] rfl) (hD.sub (ws' := [(ht, .inr (0, [.int (nI 128), .int (nI 1500), .ref t1, .ref t2, .ref t3, .ref t4, .int (nI (((G4 tn (litN V a) (litN V b) (T (a / 2)) (T (b / 2))).2).length)), .int (nI tic)])), (t1, .inl (cyI, (1 + 128 + 1500), .inl p4)), (t2, .inl (cyI, (1 + 128 + 1500), .inl q4)), (t3, .inl (cyI, 128, .inl tnf)), (t4, .inl (cyJ, (1 + 128 + 1500), .inr (.inl twf)))]) [6, 7, 8, 9, 10] (by decide) rfl) rfl rfl (ci := 0) (q0 := 0) rfl rfl rfl) rfl rfl hl.1 rfl (lv_room (Nat.le_of_ble_eq_true rfl)) dX1_twinGate_120 ⟨Nat.le_of_ble_eq_true rfl, Nat.le_of_ble_eq_true rfl⟩) rfl hP hD hS hA rfl rfl (by decide) (by decide) (fun _ => rfl) (by decide) (fun r120 u120 H locs hw120 hP hD hS hz120 => ?_)
  obtain ⟨p5, q5⟩ := u120
  have hP : va_P D vwCl [(x, .inr (1, [.ref hn, .ref ht, .int tw, .ref av, .ref au, .ref ab, .ref ai, .ref aw])), (hn, .inr (0, [.int (nI 64), .int (nI 400), .ref n1, .ref n2, .ref n3, .ref n4, .int (nI l.length), .int (nI ic)])), (n1, .inl (cyI, (1 + 64 + 400), .inl lf)), (n2, .inl (cyI, (1 + 64 + 400), .inl of)), (n3, .inl (cyI, 64, .inl nf)), (n4, .inl (cyJ, (1 + 64 + 400), .inr (.inl wf))), (ht, .inr (0, [.int (nI 128), .int (nI 1500), .ref t1, .ref t2, .ref t3, .ref t4, .int (nI ((nAnd 1500 ((G4 tn (litN V a) (litN V b) (T (a / 2)) (T (b / 2))).2) (some (T (a / 2))) (some (T (b / 2)))).2.length)), .int (nI tic)])), (t1, .inl (cyI, (1 + 128 + 1500), .inl p5)), (t2, .inl (cyI, (1 + 128 + 1500), .inl q5)), (t3, .inl (cyI, 128, .inl tnf)), (t4, .inl (cyJ, (1 + 128 + 1500), .inr (.inl twf))), (av, .inl (cyI, 465, .inl vl)), (au, .inl (cyI, 465, .inl tl)), (ab, .inl (cyI, 64, .inl bb)), (ai, .inl (cyI, 64, .inl tt)), (aw, .inl (cyJ, 465, .inr (.inl ww)))] H := hP
  have hD : va_D A [(x, .inr (1, [.ref hn, .ref ht, .int tw, .ref av, .ref au, .ref ab, .ref ai, .ref aw])), (hn, .inr (0, [.int (nI 64), .int (nI 400), .ref n1, .ref n2, .ref n3, .ref n4, .int (nI l.length), .int (nI ic)])), (n1, .inl (cyI, (1 + 64 + 400), .inl lf)), (n2, .inl (cyI, (1 + 64 + 400), .inl of)), (n3, .inl (cyI, 64, .inl nf)), (n4, .inl (cyJ, (1 + 64 + 400), .inr (.inl wf))), (ht, .inr (0, [.int (nI 128), .int (nI 1500), .ref t1, .ref t2, .ref t3, .ref t4, .int (nI ((nAnd 1500 ((G4 tn (litN V a) (litN V b) (T (a / 2)) (T (b / 2))).2) (some (T (a / 2))) (some (T (b / 2)))).2.length)), .int (nI tic)])), (t1, .inl (cyI, (1 + 128 + 1500), .inl p5)), (t2, .inl (cyI, (1 + 128 + 1500), .inl q5)), (t3, .inl (cyI, 128, .inl tnf)), (t4, .inl (cyJ, (1 + 128 + 1500), .inr (.inl twf))), (av, .inl (cyI, 465, .inl vl)), (au, .inl (cyI, 465, .inl tl)), (ab, .inl (cyI, 64, .inl bb)), (ai, .inl (cyI, 64, .inl tt)), (aw, .inl (cyJ, 465, .inr (.inl ww)))] := hD
  have hw120 : r120 = eO (nAnd 1500 ((G4 tn (litN V a) (litN V b) (T (a / 2)) (T (b / 2))).2) (some (T (a / 2))) (some (T (b / 2)))).1 ∧ rpN (nAnd 1500 ((G4 tn (litN V a) (litN V b) (T (a / 2)) (T (b / 2))).2) (some (T (a / 2))) (some (T (b / 2)))).2 p5 q5 := hw120
  obtain ⟨rfl, R5⟩ := hw120
  refine W.widen (k := 0) (n := 0) (Nat.le_refl _) (Nat.le_refl _) ?_
  have R5 : rpN (G5 tn (litN V a) (litN V b) (T (a / 2)) (T (b / 2))).2 p5 q5 := R5
  refine lv_istore (lv' := [(10, .int (eO (nAnd 1500 ((G4 tn (litN V a) (litN V b) (T (a / 2)) (T (b / 2))).2) (some (T (a / 2))) (some (T (b / 2)))).1)), (9, .int (eO (nOr 1500 ((G3 tn (litN V a) (litN V b) (T (a / 2)) (T (b / 2))).2) ((G2 tn (litN V a) (litN V b) (T (a / 2)) (T (b / 2))).1) ((G3 tn (litN V a) (litN V b) (T (a / 2)) (T (b / 2))).1)).1)), (8, .int (eO (nAnd 1500 ((G2 tn (litN V a) (litN V b) (T (a / 2)) (T (b / 2))).2) (some (T (b / 2))) (some (litN V a))).1)), (7, .int (eO (nAnd 1500 ((G1 tn (litN V a) (litN V b) (T (a / 2)) (T (b / 2))).2) (some (T (a / 2))) (some (litN V b))).1)), (6, .int (eO ((G1 tn (litN V a) (litN V b) (T (a / 2)) (T (b / 2)))).1)), (5, .int (nI (T (b / 2)))), (4, .int (nI (T (a / 2)))), (3, .int (nI (litN V b))), (2, .int (nI (litN V a))), (0, .ref x), (1, .int (nI k))]) hx hb dX1_twinGate_123 hl (by decide) rfl (fun ls hl => ?_)
  refine lv_aload_n hx hb dX1_twinGate_125 rfl (lv_at hl 9 rfl) ?_
  refine va_get (D := D) (ci := 1) (v := .ref ht) (C := RX1) (T := TX1) (N := 8) hx hb hts hiX1 hown hK hP 0 rfl rfl 1 (by decide) wf18 (fun _ h9 => h9) rfl dX1_twinGate_126 ?_
  refine lv_iload hx hb dX1_twinGate_129 (lv_at hl 1 rfl) ?_
  refine lv_iload hx hb dX1_twinGate_131 (lv_at hl 0 rfl) ?_
  refine x_calli (wc := [(ht, .inr (0, [.int (nI 128), .int (nI 1500), .ref t1, .ref t2, .ref t3, .ref t4, .int (nI (((G5 tn (litN V a) (litN V b) (T (a / 2)) (T (b / 2))).2).length)), .int (nI tic)])), (t1, .inl (cyI, (1 + 128 + 1500), .inl p5)), (t2, .inl (cyI, (1 + 128 + 1500), .inl q5)), (t3, .inl (cyI, 128, .inl tnf)), (t4, .inl (cyJ, (1 + 128 + 1500), .inr (.inl twf)))]) (wr := [(x, .inr (1, [.ref hn, .ref ht, .int tw, .ref av, .ref au, .ref ab, .ref ai, .ref aw])), (hn, .inr (0, [.int (nI 64), .int (nI 400), .ref n1, .ref n2, .ref n3, .ref n4, .int (nI l.length), .int (nI ic)])), (n1, .inl (cyI, (1 + 64 + 400), .inl lf)), (n2, .inl (cyI, (1 + 64 + 400), .inl of)), (n3, .inl (cyI, 64, .inl nf)), (n4, .inl (cyJ, (1 + 64 + 400), .inr (.inl wf))), (av, .inl (cyI, 465, .inl vl)), (au, .inl (cyI, 465, .inl tl)), (ab, .inl (cyI, 64, .inl bb)), (ai, .inl (cyI, 64, .inl tt)), (aw, .inl (cyJ, 465, .inr (.inl ww)))]) (w2 := fun (u : (Nat → Int32) × (Nat → Int32)) => [(x, .inr (1, [.ref hn, .ref ht, .int tw, .ref av, .ref au, .ref ab, .ref ai, .ref aw])), (hn, .inr (0, [.int (nI 64), .int (nI 400), .ref n1, .ref n2, .ref n3, .ref n4, .int (nI l.length), .int (nI ic)])), (n1, .inl (cyI, (1 + 64 + 400), .inl lf)), (n2, .inl (cyI, (1 + 64 + 400), .inl of)), (n3, .inl (cyI, 64, .inl nf)), (n4, .inl (cyJ, (1 + 64 + 400), .inr (.inl wf))), (ht, .inr (0, [.int (nI 128), .int (nI 1500), .ref t1, .ref t2, .ref t3, .ref t4, .int (nI ((nOr 1500 ((G5 tn (litN V a) (litN V b) (T (a / 2)) (T (b / 2))).2) ((G4 tn (litN V a) (litN V b) (T (a / 2)) (T (b / 2))).1) ((G5 tn (litN V a) (litN V b) (T (a / 2)) (T (b / 2))).1)).2.length)), .int (nI tic)])), (t1, .inl (cyI, (1 + 128 + 1500), .inl u.1)), (t2, .inl (cyI, (1 + 128 + 1500), .inl u.2)), (t3, .inl (cyI, 128, .inl tnf)), (t4, .inl (cyJ, (1 + 128 + 1500), .inr (.inl twf))), (av, .inl (cyI, 465, .inl vl)), (au, .inl (cyI, 465, .inl tl)), (ab, .inl (cyI, 64, .inl bb)), (ai, .inl (cyI, 64, .inl tt)), (aw, .inl (cyJ, 465, .inr (.inl ww)))]) [6, 7, 8, 9, 10] [0, 1, 2, 3, 4, 5, 11, 12, 13, 14, 15] [0, 1, 2, 3, 4, 5, 11, 12, 13, 14, 15, 6, 7, 8, 9, 10] (va_runVN (As := [.int (eO (nOr 1500 ((G3 tn (litN V a) (litN V b) (T (a / 2)) (T (b / 2))).2) ((G2 tn (litN V a) (litN V b) (T (a / 2)) (T (b / 2))).1) ((G3 tn (litN V a) (litN V b) (T (a / 2)) (T (b / 2))).1)).1), .int (eO (nAnd 1500 ((G4 tn (litN V a) (litN V b) (T (a / 2)) (T (b / 2))).2) (some (T (a / 2))) (some (T (b / 2)))).1)]) (rest := []) ⟨hx, hb, hml, hown, hts⟩ (c_X0_eitherO lch D cyI cyJ _ ht t1 t2 t3 t4 128 1500 p5 q5 tnf twf tic ((G5 tn (litN V a) (litN V b) (T (a / 2)) (T (b / 2))).2) ((G4 tn (litN V a) (litN V b) (T (a / 2)) (T (b / 2))).1) ((G5 tn (litN V a) (litN V b) (T (a / 2)) (T (b / 2))).1) K5.1 R5 (by have := K5.2.2.2.1; omega) K5.2.2.1 tic_ (by omega) V5 K5.2.1) ⟨va_cnB 2 hts gX1_twinGate_X0_either_n50 rfl rfl rfl (hNN.at (.methodLinkNest "NetTwin" 50 yX0_either "NetTwin") (by decide +kernel)) wzX0 (by decide +kernel) ⟨Nat.le_of_ble_eq_true rfl, Nat.le_of_ble_eq_true rfl⟩, wm_yX0_either, we_yX0_either⟩ (x_preV hK hNN (hP.sub (ws' := [(ht, .inr (0, [.int (nI 128), .int (nI 1500), .ref t1, .ref t2, .ref t3, .ref t4, .int (nI (((G5 tn (litN V a) (litN V b) (T (a / 2)) (T (b / 2))).2).length)), .int (nI tic)])), (t1, .inl (cyI, (1 + 128 + 1500), .inl p5)), (t2, .inl (cyI, (1 + 128 + 1500), .inl q5)), (t3, .inl (cyI, 128, .inl tnf)), (t4, .inl (cyJ, (1 + 128 + 1500), .inr (.inl twf)))]) [6, 7, 8, 9, 10] rfl) (hD.sub (ws' := [(ht, .inr (0, [.int (nI 128), .int (nI 1500), .ref t1, .ref t2, .ref t3, .ref t4, .int (nI (((G5 tn (litN V a) (litN V b) (T (a / 2)) (T (b / 2))).2).length)), .int (nI tic)])), (t1, .inl (cyI, (1 + 128 + 1500), .inl p5)), (t2, .inl (cyI, (1 + 128 + 1500), .inl q5)), (t3, .inl (cyI, 128, .inl tnf)), (t4, .inl (cyJ, (1 + 128 + 1500), .inr (.inl twf)))]) [6, 7, 8, 9, 10] (by decide) rfl) rfl rfl (ci := 0) (q0 := 0) rfl rfl rfl) rfl rfl hl.1 rfl (lv_room (Nat.le_of_ble_eq_true rfl)) dX1_twinGate_133 ⟨Nat.le_of_ble_eq_true rfl, Nat.le_of_ble_eq_true rfl⟩) rfl hP hD hS hA rfl rfl (by decide) (by decide) (fun _ => rfl) (by decide) (fun r133 u133 H locs hw133 hP hD hS hz133 => ?_)
  obtain ⟨p6, q6⟩ := u133
  have hP : va_P D vwCl [(x, .inr (1, [.ref hn, .ref ht, .int tw, .ref av, .ref au, .ref ab, .ref ai, .ref aw])), (hn, .inr (0, [.int (nI 64), .int (nI 400), .ref n1, .ref n2, .ref n3, .ref n4, .int (nI l.length), .int (nI ic)])), (n1, .inl (cyI, (1 + 64 + 400), .inl lf)), (n2, .inl (cyI, (1 + 64 + 400), .inl of)), (n3, .inl (cyI, 64, .inl nf)), (n4, .inl (cyJ, (1 + 64 + 400), .inr (.inl wf))), (ht, .inr (0, [.int (nI 128), .int (nI 1500), .ref t1, .ref t2, .ref t3, .ref t4, .int (nI ((nOr 1500 ((G5 tn (litN V a) (litN V b) (T (a / 2)) (T (b / 2))).2) ((G4 tn (litN V a) (litN V b) (T (a / 2)) (T (b / 2))).1) ((G5 tn (litN V a) (litN V b) (T (a / 2)) (T (b / 2))).1)).2.length)), .int (nI tic)])), (t1, .inl (cyI, (1 + 128 + 1500), .inl p6)), (t2, .inl (cyI, (1 + 128 + 1500), .inl q6)), (t3, .inl (cyI, 128, .inl tnf)), (t4, .inl (cyJ, (1 + 128 + 1500), .inr (.inl twf))), (av, .inl (cyI, 465, .inl vl)), (au, .inl (cyI, 465, .inl tl)), (ab, .inl (cyI, 64, .inl bb)), (ai, .inl (cyI, 64, .inl tt)), (aw, .inl (cyJ, 465, .inr (.inl ww)))] H := hP
  have hD : va_D A [(x, .inr (1, [.ref hn, .ref ht, .int tw, .ref av, .ref au, .ref ab, .ref ai, .ref aw])), (hn, .inr (0, [.int (nI 64), .int (nI 400), .ref n1, .ref n2, .ref n3, .ref n4, .int (nI l.length), .int (nI ic)])), (n1, .inl (cyI, (1 + 64 + 400), .inl lf)), (n2, .inl (cyI, (1 + 64 + 400), .inl of)), (n3, .inl (cyI, 64, .inl nf)), (n4, .inl (cyJ, (1 + 64 + 400), .inr (.inl wf))), (ht, .inr (0, [.int (nI 128), .int (nI 1500), .ref t1, .ref t2, .ref t3, .ref t4, .int (nI ((nOr 1500 ((G5 tn (litN V a) (litN V b) (T (a / 2)) (T (b / 2))).2) ((G4 tn (litN V a) (litN V b) (T (a / 2)) (T (b / 2))).1) ((G5 tn (litN V a) (litN V b) (T (a / 2)) (T (b / 2))).1)).2.length)), .int (nI tic)])), (t1, .inl (cyI, (1 + 128 + 1500), .inl p6)), (t2, .inl (cyI, (1 + 128 + 1500), .inl q6)), (t3, .inl (cyI, 128, .inl tnf)), (t4, .inl (cyJ, (1 + 128 + 1500), .inr (.inl twf))), (av, .inl (cyI, 465, .inl vl)), (au, .inl (cyI, 465, .inl tl)), (ab, .inl (cyI, 64, .inl bb)), (ai, .inl (cyI, 64, .inl tt)), (aw, .inl (cyJ, 465, .inr (.inl ww)))] := hD
  have hw133 : r133 = eO (nOr 1500 ((G5 tn (litN V a) (litN V b) (T (a / 2)) (T (b / 2))).2) ((G4 tn (litN V a) (litN V b) (T (a / 2)) (T (b / 2))).1) ((G5 tn (litN V a) (litN V b) (T (a / 2)) (T (b / 2))).1)).1 ∧ rpN (nOr 1500 ((G5 tn (litN V a) (litN V b) (T (a / 2)) (T (b / 2))).2) ((G4 tn (litN V a) (litN V b) (T (a / 2)) (T (b / 2))).1) ((G5 tn (litN V a) (litN V b) (T (a / 2)) (T (b / 2))).1)).2 p6 q6 := hw133
  obtain ⟨rfl, R6⟩ := hw133
  refine W.widen (k := 0) (n := 0) (Nat.le_refl _) (Nat.le_refl _) ?_
  have R6 : rpN (G6 tn (litN V a) (litN V b) (T (a / 2)) (T (b / 2))).2 p6 q6 := R6
  refine lv_istore (lv' := [(11, .int (eO (nOr 1500 ((G5 tn (litN V a) (litN V b) (T (a / 2)) (T (b / 2))).2) ((G4 tn (litN V a) (litN V b) (T (a / 2)) (T (b / 2))).1) ((G5 tn (litN V a) (litN V b) (T (a / 2)) (T (b / 2))).1)).1)), (10, .int (eO (nAnd 1500 ((G4 tn (litN V a) (litN V b) (T (a / 2)) (T (b / 2))).2) (some (T (a / 2))) (some (T (b / 2)))).1)), (9, .int (eO (nOr 1500 ((G3 tn (litN V a) (litN V b) (T (a / 2)) (T (b / 2))).2) ((G2 tn (litN V a) (litN V b) (T (a / 2)) (T (b / 2))).1) ((G3 tn (litN V a) (litN V b) (T (a / 2)) (T (b / 2))).1)).1)), (8, .int (eO (nAnd 1500 ((G2 tn (litN V a) (litN V b) (T (a / 2)) (T (b / 2))).2) (some (T (b / 2))) (some (litN V a))).1)), (7, .int (eO (nAnd 1500 ((G1 tn (litN V a) (litN V b) (T (a / 2)) (T (b / 2))).2) (some (T (a / 2))) (some (litN V b))).1)), (6, .int (eO ((G1 tn (litN V a) (litN V b) (T (a / 2)) (T (b / 2)))).1)), (5, .int (nI (T (b / 2)))), (4, .int (nI (T (a / 2)))), (3, .int (nI (litN V b))), (2, .int (nI (litN V a))), (0, .ref x), (1, .int (nI k))]) hx hb dX1_twinGate_136 hl (by decide) rfl (fun ls hl => ?_)
  refine lv_aload_n hx hb dX1_twinGate_138 rfl (lv_at hl 10 rfl) ?_
  refine va_get (D := D) (ci := 1) (v := .ref av) (C := RX1) (T := TX1) (N := 8) hx hb hts hiX1 hown hK hP 0 rfl rfl 3 (by decide) wf25 (fun _ h9 => h9) rfl dX1_twinGate_139 ?_
  refine lv_iload_n hx hb dX1_twinGate_142 rfl (lv_at hl 11 rfl) ?_
  refine lv_iload hx hb dX1_twinGate_143 (lv_at hl 5 rfl) ?_
  refine x_iast hx hb hK hP hD hS 11 0 rfl rfl (by omega) (by omega) dX1_twinGate_145 (fun H locs hP hD hS => ?_)
  have hP : va_P D vwCl [(x, .inr (1, [.ref hn, .ref ht, .int tw, .ref av, .ref au, .ref ab, .ref ai, .ref aw])), (hn, .inr (0, [.int (nI 64), .int (nI 400), .ref n1, .ref n2, .ref n3, .ref n4, .int (nI l.length), .int (nI ic)])), (n1, .inl (cyI, (1 + 64 + 400), .inl lf)), (n2, .inl (cyI, (1 + 64 + 400), .inl of)), (n3, .inl (cyI, 64, .inl nf)), (n4, .inl (cyJ, (1 + 64 + 400), .inr (.inl wf))), (ht, .inr (0, [.int (nI 128), .int (nI 1500), .ref t1, .ref t2, .ref t3, .ref t4, .int (nI ((nOr 1500 ((G5 tn (litN V a) (litN V b) (T (a / 2)) (T (b / 2))).2) ((G4 tn (litN V a) (litN V b) (T (a / 2)) (T (b / 2))).1) ((G5 tn (litN V a) (litN V b) (T (a / 2)) (T (b / 2))).1)).2.length)), .int (nI tic)])), (t1, .inl (cyI, (1 + 128 + 1500), .inl p6)), (t2, .inl (cyI, (1 + 128 + 1500), .inl q6)), (t3, .inl (cyI, 128, .inl tnf)), (t4, .inl (cyJ, (1 + 128 + 1500), .inr (.inl twf))), (av, .inl (cyI, 465, .inl (upd vl k (eO ((G1 tn (litN V a) (litN V b) (T (a / 2)) (T (b / 2)))).1)))), (au, .inl (cyI, 465, .inl tl)), (ab, .inl (cyI, 64, .inl bb)), (ai, .inl (cyI, 64, .inl tt)), (aw, .inl (cyJ, 465, .inr (.inl ww)))] H := hP
  have hD : va_D A [(x, .inr (1, [.ref hn, .ref ht, .int tw, .ref av, .ref au, .ref ab, .ref ai, .ref aw])), (hn, .inr (0, [.int (nI 64), .int (nI 400), .ref n1, .ref n2, .ref n3, .ref n4, .int (nI l.length), .int (nI ic)])), (n1, .inl (cyI, (1 + 64 + 400), .inl lf)), (n2, .inl (cyI, (1 + 64 + 400), .inl of)), (n3, .inl (cyI, 64, .inl nf)), (n4, .inl (cyJ, (1 + 64 + 400), .inr (.inl wf))), (ht, .inr (0, [.int (nI 128), .int (nI 1500), .ref t1, .ref t2, .ref t3, .ref t4, .int (nI ((nOr 1500 ((G5 tn (litN V a) (litN V b) (T (a / 2)) (T (b / 2))).2) ((G4 tn (litN V a) (litN V b) (T (a / 2)) (T (b / 2))).1) ((G5 tn (litN V a) (litN V b) (T (a / 2)) (T (b / 2))).1)).2.length)), .int (nI tic)])), (t1, .inl (cyI, (1 + 128 + 1500), .inl p6)), (t2, .inl (cyI, (1 + 128 + 1500), .inl q6)), (t3, .inl (cyI, 128, .inl tnf)), (t4, .inl (cyJ, (1 + 128 + 1500), .inr (.inl twf))), (av, .inl (cyI, 465, .inl (upd vl k (eO ((G1 tn (litN V a) (litN V b) (T (a / 2)) (T (b / 2)))).1)))), (au, .inl (cyI, 465, .inl tl)), (ab, .inl (cyI, 64, .inl bb)), (ai, .inl (cyI, 64, .inl tt)), (aw, .inl (cyJ, 465, .inr (.inl ww)))] := hD
  refine lv_aload_n hx hb dX1_twinGate_146 rfl (lv_at hl 10 rfl) ?_
  refine va_get (D := D) (ci := 1) (v := .ref au) (C := RX1) (T := TX1) (N := 8) hx hb hts hiX1 hown hK hP 0 rfl rfl 4 (by decide) wf29 (fun _ h9 => h9) rfl dX1_twinGate_147 ?_
  refine lv_iload_n hx hb dX1_twinGate_150 rfl (lv_at hl 11 rfl) ?_
  refine lv_iload hx hb dX1_twinGate_151 (lv_at hl 0 rfl) ?_
  refine x_iast hx hb hK hP hD hS 12 0 rfl rfl (by omega) (by omega) dX1_twinGate_153 (fun H locs hP hD hS => ?_)
  have hP : va_P D vwCl [(x, .inr (1, [.ref hn, .ref ht, .int tw, .ref av, .ref au, .ref ab, .ref ai, .ref aw])), (hn, .inr (0, [.int (nI 64), .int (nI 400), .ref n1, .ref n2, .ref n3, .ref n4, .int (nI l.length), .int (nI ic)])), (n1, .inl (cyI, (1 + 64 + 400), .inl lf)), (n2, .inl (cyI, (1 + 64 + 400), .inl of)), (n3, .inl (cyI, 64, .inl nf)), (n4, .inl (cyJ, (1 + 64 + 400), .inr (.inl wf))), (ht, .inr (0, [.int (nI 128), .int (nI 1500), .ref t1, .ref t2, .ref t3, .ref t4, .int (nI ((nOr 1500 ((G5 tn (litN V a) (litN V b) (T (a / 2)) (T (b / 2))).2) ((G4 tn (litN V a) (litN V b) (T (a / 2)) (T (b / 2))).1) ((G5 tn (litN V a) (litN V b) (T (a / 2)) (T (b / 2))).1)).2.length)), .int (nI tic)])), (t1, .inl (cyI, (1 + 128 + 1500), .inl p6)), (t2, .inl (cyI, (1 + 128 + 1500), .inl q6)), (t3, .inl (cyI, 128, .inl tnf)), (t4, .inl (cyJ, (1 + 128 + 1500), .inr (.inl twf))), (av, .inl (cyI, 465, .inl (upd vl k (eO ((G1 tn (litN V a) (litN V b) (T (a / 2)) (T (b / 2)))).1)))), (au, .inl (cyI, 465, .inl (upd tl k (eO (nOr 1500 ((G5 tn (litN V a) (litN V b) (T (a / 2)) (T (b / 2))).2) ((G4 tn (litN V a) (litN V b) (T (a / 2)) (T (b / 2))).1) ((G5 tn (litN V a) (litN V b) (T (a / 2)) (T (b / 2))).1)).1)))), (ab, .inl (cyI, 64, .inl bb)), (ai, .inl (cyI, 64, .inl tt)), (aw, .inl (cyJ, 465, .inr (.inl ww)))] H := hP
  have hD : va_D A [(x, .inr (1, [.ref hn, .ref ht, .int tw, .ref av, .ref au, .ref ab, .ref ai, .ref aw])), (hn, .inr (0, [.int (nI 64), .int (nI 400), .ref n1, .ref n2, .ref n3, .ref n4, .int (nI l.length), .int (nI ic)])), (n1, .inl (cyI, (1 + 64 + 400), .inl lf)), (n2, .inl (cyI, (1 + 64 + 400), .inl of)), (n3, .inl (cyI, 64, .inl nf)), (n4, .inl (cyJ, (1 + 64 + 400), .inr (.inl wf))), (ht, .inr (0, [.int (nI 128), .int (nI 1500), .ref t1, .ref t2, .ref t3, .ref t4, .int (nI ((nOr 1500 ((G5 tn (litN V a) (litN V b) (T (a / 2)) (T (b / 2))).2) ((G4 tn (litN V a) (litN V b) (T (a / 2)) (T (b / 2))).1) ((G5 tn (litN V a) (litN V b) (T (a / 2)) (T (b / 2))).1)).2.length)), .int (nI tic)])), (t1, .inl (cyI, (1 + 128 + 1500), .inl p6)), (t2, .inl (cyI, (1 + 128 + 1500), .inl q6)), (t3, .inl (cyI, 128, .inl tnf)), (t4, .inl (cyJ, (1 + 128 + 1500), .inr (.inl twf))), (av, .inl (cyI, 465, .inl (upd vl k (eO ((G1 tn (litN V a) (litN V b) (T (a / 2)) (T (b / 2)))).1)))), (au, .inl (cyI, 465, .inl (upd tl k (eO (nOr 1500 ((G5 tn (litN V a) (litN V b) (T (a / 2)) (T (b / 2))).2) ((G4 tn (litN V a) (litN V b) (T (a / 2)) (T (b / 2))).1) ((G5 tn (litN V a) (litN V b) (T (a / 2)) (T (b / 2))).1)).1)))), (ab, .inl (cyI, 64, .inl bb)), (ai, .inl (cyI, 64, .inl tt)), (aw, .inl (cyJ, 465, .inr (.inl ww)))] := hD
  refine lv_iload hx hb dX1_twinGate_154 (lv_at hl 5 rfl) ?_
  refine lv_iconst (v := (-1)) hx hb dX1_twinGate_156 (by decide) ?_
  refine lv_icmp_eq (tgt := 170) hx hb dX1_twinGate_157 (by decide) (fun c157 => ?_) (fun c157 => ?_)
  · have c157 := (eO_m1 hB6 V6).mp c157
    refine lv_iconst (v := nI 0) hx hb dX1_twinGate_170 (by decide) ?_
    refine x_top (show nI 0 = bI ((tGate tn (litN V a) (litN V b) (T (a / 2)) (T (b / 2))).isSome = true) from bI_fn (fun z => by first | exact ((tGate_b _ _ _ _ _).mp z).1 c157 | exact ((tGate_b _ _ _ _ _).mp z).2 c163)) ?_
    exact x_iret hQ hAe hx hb hr hlocks (bI_z) hS hK (Nat.le_of_ble_eq_true rfl) (Nat.le_of_ble_eq_true rfl) dX1_twinGate_171 (p6, q6) hP hD (⟨rfl, R6⟩)
  · have c157 := mt (eO_m1 hB6 V6).mpr c157
    refine lv_iload hx hb dX1_twinGate_160 (lv_at hl 0 rfl) ?_
    refine lv_iconst (v := (-1)) hx hb dX1_twinGate_162 (by decide) ?_
    refine lv_icmp_eq (tgt := 170) hx hb dX1_twinGate_163 (by decide) (fun c163 => ?_) (fun c163 => ?_)
    · have c163 := (eO_m1 hB6 K6.2.1).mp c163
      refine lv_iconst (v := nI 0) hx hb dX1_twinGate_170 (by decide) ?_
      refine x_top (show nI 0 = bI ((tGate tn (litN V a) (litN V b) (T (a / 2)) (T (b / 2))).isSome = true) from bI_fn (fun z => by first | exact ((tGate_b _ _ _ _ _).mp z).1 c157 | exact ((tGate_b _ _ _ _ _).mp z).2 c163)) ?_
      exact x_iret hQ hAe hx hb hr hlocks (bI_z) hS hK (Nat.le_of_ble_eq_true rfl) (Nat.le_of_ble_eq_true rfl) dX1_twinGate_171 (p6, q6) hP hD (⟨rfl, R6⟩)
    · have c163 := mt (eO_m1 hB6 K6.2.1).mpr c163
      refine lv_iconst (v := nI 1) hx hb dX1_twinGate_166 (by decide) ?_
      refine x_top (show nI 1 = bI ((tGate tn (litN V a) (litN V b) (T (a / 2)) (T (b / 2))).isSome = true) from bI_tn ((tGate_b _ _ _ _ _).mpr ⟨c157, c163⟩)) ?_
      refine lv_goto (tgt := 171) hx hb dX1_twinGate_167 (by decide) ?_
      exact x_iret hQ hAe hx hb hr hlocks (bI_z) hS hK (Nat.le_of_ble_eq_true rfl) (Nat.le_of_ble_eq_true rfl) dX1_twinGate_171 (p6, q6) hP hD (⟨rfl, R6⟩)
set_option maxHeartbeats 4000000 in
set_option maxRecDepth 100000 in
theorem c_X1_buildTwin (lch : Launch) (D : va_G) (cyI cyJ : ClassId) (sz : Nat) (x : Nat) (hn : Nat) (n1 : Nat) (n2 : Nat) (n3 : Nat) (n4 : Nat) (ht : Nat) (t1 : Nat) (t2 : Nat) (t3 : Nat) (t4 : Nat) (av : Nat) (au : Nat) (ab : Nat) (ai : Nat) (aw : Nat) (lf : Nat → Int32) (of : Nat → Int32) (nf : Nat → Int32) (wf : Nat → Int64) (ic : Nat) (tlf : Nat → Int32) (tof : Nat → Int32) (tnf : Nat → Int32) (twf : Nat → Int64) (tnc : Nat) (tic : Nat) (tw : Int32) (vl : Nat → Int32) (tl : Nat → Int32) (bb : Nat → Int32) (tt : Nat → Int32) (ww : Nat → Int64) (l : NT) (inp : Nat → Nat) (hNI : NI l inp ic) (hrp : rpN l lf of) (hin : ∀ i, i < ic → nf i = nI (inp i)) (hz1 : tlf 0 = -1) (hz2 : tof 0 = -1) : Met lch yX1_buildTwin wsX1_buildTwin ({ frames := 5, cells := 0, slots := 0, locals := 121 } : Room) (va_Pc [.ref x] (xA D (xTy cyI cyJ) sz [(x, .inr (1, [.ref hn, .ref ht, .int tw, .ref av, .ref au, .ref ab, .ref ai, .ref aw])), (hn, .inr (0, [.int (nI 64), .int (nI 400), .ref n1, .ref n2, .ref n3, .ref n4, .int (nI l.length), .int (nI ic)])), (n1, .inl (cyI, (1 + 64 + 400), .inl lf)), (n2, .inl (cyI, (1 + 64 + 400), .inl of)), (n3, .inl (cyI, 64, .inl nf)), (n4, .inl (cyJ, (1 + 64 + 400), .inr (.inl wf))), (ht, .inr (0, [.int (nI 128), .int (nI 1500), .ref t1, .ref t2, .ref t3, .ref t4, .int (nI tnc), .int (nI tic)])), (t1, .inl (cyI, (1 + 128 + 1500), .inl tlf)), (t2, .inl (cyI, (1 + 128 + 1500), .inl tof)), (t3, .inl (cyI, 128, .inl tnf)), (t4, .inl (cyJ, (1 + 128 + 1500), .inr (.inl twf))), (av, .inl (cyI, 465, .inl vl)), (au, .inl (cyI, 465, .inl tl)), (ab, .inl (cyI, 64, .inl bb)), (ai, .inl (cyI, 64, .inl tt)), (aw, .inl (cyJ, 465, .inr (.inl ww)))])) (va_Qi (fun (r : Int32) (u : (Nat → Int32) × (Nat → Int32) × (Nat → Int32) × (Nat → Int32) × (Nat → Int32) × Nat × Nat) => r = bI ((tBuild l inp ic).isSome = true) ∧ u.1 0 = -1 ∧ u.2.1 0 = -1 ∧ (∀ S, tBuild l inp ic = some S → twH l ic S u.2.2.2.1 u.2.2.2.2.1 u.1 u.2.1 u.2.2.1 u.2.2.2.2.2.1 u.2.2.2.2.2.2)) (fun (u : (Nat → Int32) × (Nat → Int32) × (Nat → Int32) × (Nat → Int32) × (Nat → Int32) × Nat × Nat) t => xB D (xTy cyI cyJ) sz [(x, .inr (1, [.ref hn, .ref ht, .int tw, .ref av, .ref au, .ref ab, .ref ai, .ref aw])), (hn, .inr (0, [.int (nI 64), .int (nI 400), .ref n1, .ref n2, .ref n3, .ref n4, .int (nI l.length), .int (nI ic)])), (n1, .inl (cyI, (1 + 64 + 400), .inl lf)), (n2, .inl (cyI, (1 + 64 + 400), .inl of)), (n3, .inl (cyI, 64, .inl nf)), (n4, .inl (cyJ, (1 + 64 + 400), .inr (.inl wf))), (ht, .inr (0, [.int (nI 128), .int (nI 1500), .ref t1, .ref t2, .ref t3, .ref t4, .int (nI tnc), .int (nI tic)])), (t1, .inl (cyI, (1 + 128 + 1500), .inl tlf)), (t2, .inl (cyI, (1 + 128 + 1500), .inl tof)), (t3, .inl (cyI, 128, .inl tnf)), (t4, .inl (cyJ, (1 + 128 + 1500), .inr (.inl twf))), (av, .inl (cyI, 465, .inl vl)), (au, .inl (cyI, 465, .inl tl)), (ab, .inl (cyI, 64, .inl bb)), (ai, .inl (cyI, 64, .inl tt)), (aw, .inl (cyJ, 465, .inr (.inl ww)))] [(x, .inr (1, [.ref hn, .ref ht, .int tw, .ref av, .ref au, .ref ab, .ref ai, .ref aw])), (hn, .inr (0, [.int (nI 64), .int (nI 400), .ref n1, .ref n2, .ref n3, .ref n4, .int (nI l.length), .int (nI ic)])), (n1, .inl (cyI, (1 + 64 + 400), .inl lf)), (n2, .inl (cyI, (1 + 64 + 400), .inl of)), (n3, .inl (cyI, 64, .inl nf)), (n4, .inl (cyJ, (1 + 64 + 400), .inr (.inl wf))), (ht, .inr (0, [.int (nI 128), .int (nI 1500), .ref t1, .ref t2, .ref t3, .ref t4, .int (nI u.2.2.2.2.2.1), .int (nI u.2.2.2.2.2.2)])), (t1, .inl (cyI, (1 + 128 + 1500), .inl u.1)), (t2, .inl (cyI, (1 + 128 + 1500), .inl u.2.1)), (t3, .inl (cyI, 128, .inl u.2.2.1)), (t4, .inl (cyJ, (1 + 128 + 1500), .inr (.inl twf))), (av, .inl (cyI, 465, .inl u.2.2.2.1)), (au, .inl (cyI, 465, .inl u.2.2.2.2.1)), (ab, .inl (cyI, 64, .inl bb)), (ai, .inl (cyI, 64, .inl tt)), (aw, .inl (cyJ, 465, .inr (.inl ww)))] t) (va_A [(x, .inr (1, [.ref hn, .ref ht, .int tw, .ref av, .ref au, .ref ab, .ref ai, .ref aw])), (hn, .inr (0, [.int (nI 64), .int (nI 400), .ref n1, .ref n2, .ref n3, .ref n4, .int (nI l.length), .int (nI ic)])), (n1, .inl (cyI, (1 + 64 + 400), .inl lf)), (n2, .inl (cyI, (1 + 64 + 400), .inl of)), (n3, .inl (cyI, 64, .inl nf)), (n4, .inl (cyJ, (1 + 64 + 400), .inr (.inl wf))), (ht, .inr (0, [.int (nI 128), .int (nI 1500), .ref t1, .ref t2, .ref t3, .ref t4, .int (nI tnc), .int (nI tic)])), (t1, .inl (cyI, (1 + 128 + 1500), .inl tlf)), (t2, .inl (cyI, (1 + 128 + 1500), .inl tof)), (t3, .inl (cyI, 128, .inl tnf)), (t4, .inl (cyJ, (1 + 128 + 1500), .inr (.inl twf))), (av, .inl (cyI, 465, .inl vl)), (au, .inl (cyI, 465, .inl tl)), (ab, .inl (cyI, 64, .inl bb)), (ai, .inl (cyI, 64, .inl tt)), (aw, .inl (cyJ, 465, .inr (.inl ww)))] sz)) 0 0 (va_A [(x, .inr (1, [.ref hn, .ref ht, .int tw, .ref av, .ref au, .ref ab, .ref ai, .ref aw])), (hn, .inr (0, [.int (nI 64), .int (nI 400), .ref n1, .ref n2, .ref n3, .ref n4, .int (nI l.length), .int (nI ic)])), (n1, .inl (cyI, (1 + 64 + 400), .inl lf)), (n2, .inl (cyI, (1 + 64 + 400), .inl of)), (n3, .inl (cyI, 64, .inl nf)), (n4, .inl (cyJ, (1 + 64 + 400), .inr (.inl wf))), (ht, .inr (0, [.int (nI 128), .int (nI 1500), .ref t1, .ref t2, .ref t3, .ref t4, .int (nI tnc), .int (nI tic)])), (t1, .inl (cyI, (1 + 128 + 1500), .inl tlf)), (t2, .inl (cyI, (1 + 128 + 1500), .inl tof)), (t3, .inl (cyI, 128, .inl tnf)), (t4, .inl (cyJ, (1 + 128 + 1500), .inr (.inl twf))), (av, .inl (cyI, 465, .inl vl)), (au, .inl (cyI, 465, .inl tl)), (ab, .inl (cyI, 64, .inl bb)), (ai, .inl (cyI, 64, .inl tt)), (aw, .inl (cyJ, 465, .inr (.inl ww)))] sz) := by
  refine x_met RX1 (by decide) rfl rfl (Nat.le_of_ble_eq_true rfl) ?_
  intro p e s m below meth c A Q hAe hQ hx hb hr hlocks hml hnm hts hown hNN hK hsz hP hD hS hA ls hl
  have wf18 := hts (.fieldLink RX1 18 "NetTwin" "twin" "LNetTwin$Net;") (by decide +kernel)
  have hiX1 : ∀ w ∈ u_ws RX1 TX1 8, w ∈ wsX1_buildTwin := by decide +kernel
  have wzX0 := hts (.initialized RX0) (by decide +kernel)
  have wm_yX0_clear := hts (.instanceMethod yX0_clear) (by decide +kernel)
  have we_yX0_clear := hts (.selects RX0 yX0_clear yX0_clear) (by decide +kernel)
  have wf14 := hts (.fieldLink RX1 14 "NetTwin" "net" "LNetTwin$Net;") (by decide +kernel)
  have wn61 := hNN.get (args := ([.ref x] : List Value).toArray) (.fieldLinkNest "NetTwin" 61 "NetTwin$Net" "nodeCount" "I" "NetTwin") (by decide +kernel)
  have hiX0 : ∀ w ∈ u_ws RX0 TX0 8, w ∈ wsX1_buildTwin := by decide +kernel
  have wm_yX0_isGate := hts (.instanceMethod yX0_isGate) (by decide +kernel)
  have we_yX0_isGate := hts (.selects RX0 yX0_isGate yX0_isGate) (by decide +kernel)
  have hP : va_P D vwCl [(x, .inr (1, [.ref hn, .ref ht, .int tw, .ref av, .ref au, .ref ab, .ref ai, .ref aw])), (hn, .inr (0, [.int (nI 64), .int (nI 400), .ref n1, .ref n2, .ref n3, .ref n4, .int (nI l.length), .int (nI ic)])), (n1, .inl (cyI, (1 + 64 + 400), .inl lf)), (n2, .inl (cyI, (1 + 64 + 400), .inl of)), (n3, .inl (cyI, 64, .inl nf)), (n4, .inl (cyJ, (1 + 64 + 400), .inr (.inl wf))), (ht, .inr (0, [.int (nI 128), .int (nI 1500), .ref t1, .ref t2, .ref t3, .ref t4, .int (nI tnc), .int (nI tic)])), (t1, .inl (cyI, (1 + 128 + 1500), .inl tlf)), (t2, .inl (cyI, (1 + 128 + 1500), .inl tof)), (t3, .inl (cyI, 128, .inl tnf)), (t4, .inl (cyJ, (1 + 128 + 1500), .inr (.inl twf))), (av, .inl (cyI, 465, .inl vl)), (au, .inl (cyI, 465, .inl tl)), (ab, .inl (cyI, 64, .inl bb)), (ai, .inl (cyI, 64, .inl tt)), (aw, .inl (cyJ, 465, .inr (.inl ww)))] s.heap := hP
  have hD : va_D A [(x, .inr (1, [.ref hn, .ref ht, .int tw, .ref av, .ref au, .ref ab, .ref ai, .ref aw])), (hn, .inr (0, [.int (nI 64), .int (nI 400), .ref n1, .ref n2, .ref n3, .ref n4, .int (nI l.length), .int (nI ic)])), (n1, .inl (cyI, (1 + 64 + 400), .inl lf)), (n2, .inl (cyI, (1 + 64 + 400), .inl of)), (n3, .inl (cyI, 64, .inl nf)), (n4, .inl (cyJ, (1 + 64 + 400), .inr (.inl wf))), (ht, .inr (0, [.int (nI 128), .int (nI 1500), .ref t1, .ref t2, .ref t3, .ref t4, .int (nI tnc), .int (nI tic)])), (t1, .inl (cyI, (1 + 128 + 1500), .inl tlf)), (t2, .inl (cyI, (1 + 128 + 1500), .inl tof)), (t3, .inl (cyI, 128, .inl tnf)), (t4, .inl (cyJ, (1 + 128 + 1500), .inr (.inl twf))), (av, .inl (cyI, 465, .inl vl)), (au, .inl (cyI, 465, .inl tl)), (ab, .inl (cyI, 64, .inl bb)), (ai, .inl (cyI, 64, .inl tt)), (aw, .inl (cyJ, 465, .inr (.inl ww)))] := hD
  have hl : lv_has ls 2 [(0, .ref x)] := hl
  have hNI2 := hNI
  obtain ⟨hok, hg, hgM, hic, hi1, hi2, hi3⟩ := hNI2
  refine lv_aload_n hx hb dX1_buildTwin_0 rfl (lv_at hl 0 rfl) ?_
  refine va_get (D := D) (ci := 1) (v := .ref ht) (C := RX1) (T := TX1) (N := 8) hx hb hts hiX1 hown hK hP 0 rfl rfl 1 (by decide) wf18 (fun _ h9 => h9) rfl dX1_buildTwin_1 ?_
  refine x_callv (wc := [(ht, .inr (0, [.int (nI 128), .int (nI 1500), .ref t1, .ref t2, .ref t3, .ref t4, .int (nI tnc), .int (nI tic)])), (t1, .inl (cyI, (1 + 128 + 1500), .inl tlf)), (t2, .inl (cyI, (1 + 128 + 1500), .inl tof)), (t3, .inl (cyI, 128, .inl tnf)), (t4, .inl (cyJ, (1 + 128 + 1500), .inr (.inl twf)))]) (wr := [(x, .inr (1, [.ref hn, .ref ht, .int tw, .ref av, .ref au, .ref ab, .ref ai, .ref aw])), (hn, .inr (0, [.int (nI 64), .int (nI 400), .ref n1, .ref n2, .ref n3, .ref n4, .int (nI l.length), .int (nI ic)])), (n1, .inl (cyI, (1 + 64 + 400), .inl lf)), (n2, .inl (cyI, (1 + 64 + 400), .inl of)), (n3, .inl (cyI, 64, .inl nf)), (n4, .inl (cyJ, (1 + 64 + 400), .inr (.inl wf))), (av, .inl (cyI, 465, .inl vl)), (au, .inl (cyI, 465, .inl tl)), (ab, .inl (cyI, 64, .inl bb)), (ai, .inl (cyI, 64, .inl tt)), (aw, .inl (cyJ, 465, .inr (.inl ww)))]) (w2 := fun (u : Unit) => [(x, .inr (1, [.ref hn, .ref ht, .int tw, .ref av, .ref au, .ref ab, .ref ai, .ref aw])), (hn, .inr (0, [.int (nI 64), .int (nI 400), .ref n1, .ref n2, .ref n3, .ref n4, .int (nI l.length), .int (nI ic)])), (n1, .inl (cyI, (1 + 64 + 400), .inl lf)), (n2, .inl (cyI, (1 + 64 + 400), .inl of)), (n3, .inl (cyI, 64, .inl nf)), (n4, .inl (cyJ, (1 + 64 + 400), .inr (.inl wf))), (ht, .inr (0, [.int (nI 128), .int (nI 1500), .ref t1, .ref t2, .ref t3, .ref t4, .int (nI 1), .int (nI 0)])), (t1, .inl (cyI, (1 + 128 + 1500), .inl tlf)), (t2, .inl (cyI, (1 + 128 + 1500), .inl tof)), (t3, .inl (cyI, 128, .inl tnf)), (t4, .inl (cyJ, (1 + 128 + 1500), .inr (.inl twf))), (av, .inl (cyI, 465, .inl vl)), (au, .inl (cyI, 465, .inl tl)), (ab, .inl (cyI, 64, .inl bb)), (ai, .inl (cyI, 64, .inl tt)), (aw, .inl (cyJ, 465, .inr (.inl ww)))]) [6, 7, 8, 9, 10] [0, 1, 2, 3, 4, 5, 11, 12, 13, 14, 15] [0, 1, 2, 3, 4, 5, 11, 12, 13, 14, 15, 6, 7, 8, 9, 10] (va_runVN (As := []) (rest := []) ⟨hx, hb, hml, hown, hts⟩ (c_X0_clear lch D cyI cyJ _ ht t1 t2 t3 t4 128 1500 tlf tof tnf twf tnc tic ) ⟨va_cnB 0 hts gX1_buildTwin_X0_clear_n114 rfl rfl rfl (hNN.at (.methodLinkNest "NetTwin" 114 yX0_clear "NetTwin") (by decide +kernel)) wzX0 (by decide +kernel) ⟨Nat.le_of_ble_eq_true rfl, Nat.le_of_ble_eq_true rfl⟩, wm_yX0_clear, we_yX0_clear⟩ (x_preV hK hNN (hP.sub (ws' := [(ht, .inr (0, [.int (nI 128), .int (nI 1500), .ref t1, .ref t2, .ref t3, .ref t4, .int (nI tnc), .int (nI tic)])), (t1, .inl (cyI, (1 + 128 + 1500), .inl tlf)), (t2, .inl (cyI, (1 + 128 + 1500), .inl tof)), (t3, .inl (cyI, 128, .inl tnf)), (t4, .inl (cyJ, (1 + 128 + 1500), .inr (.inl twf)))]) [6, 7, 8, 9, 10] rfl) (hD.sub (ws' := [(ht, .inr (0, [.int (nI 128), .int (nI 1500), .ref t1, .ref t2, .ref t3, .ref t4, .int (nI tnc), .int (nI tic)])), (t1, .inl (cyI, (1 + 128 + 1500), .inl tlf)), (t2, .inl (cyI, (1 + 128 + 1500), .inl tof)), (t3, .inl (cyI, 128, .inl tnf)), (t4, .inl (cyJ, (1 + 128 + 1500), .inr (.inl twf)))]) [6, 7, 8, 9, 10] (by decide) rfl) rfl rfl (ci := 0) (q0 := 0) rfl rfl rfl) rfl rfl hl.1 rfl (lv_room (Nat.le_of_ble_eq_true rfl)) dX1_buildTwin_4 ⟨Nat.le_of_ble_eq_true rfl, Nat.le_of_ble_eq_true rfl⟩) rfl hP hD hS hA rfl rfl (by decide) (by decide) (fun _ => rfl) (by decide) (fun u4 H locs hw4 hP hD hS hz4 => ?_)
  have hP : va_P D vwCl [(x, .inr (1, [.ref hn, .ref ht, .int tw, .ref av, .ref au, .ref ab, .ref ai, .ref aw])), (hn, .inr (0, [.int (nI 64), .int (nI 400), .ref n1, .ref n2, .ref n3, .ref n4, .int (nI l.length), .int (nI ic)])), (n1, .inl (cyI, (1 + 64 + 400), .inl lf)), (n2, .inl (cyI, (1 + 64 + 400), .inl of)), (n3, .inl (cyI, 64, .inl nf)), (n4, .inl (cyJ, (1 + 64 + 400), .inr (.inl wf))), (ht, .inr (0, [.int (nI 128), .int (nI 1500), .ref t1, .ref t2, .ref t3, .ref t4, .int (nI 1), .int (nI 0)])), (t1, .inl (cyI, (1 + 128 + 1500), .inl tlf)), (t2, .inl (cyI, (1 + 128 + 1500), .inl tof)), (t3, .inl (cyI, 128, .inl tnf)), (t4, .inl (cyJ, (1 + 128 + 1500), .inr (.inl twf))), (av, .inl (cyI, 465, .inl vl)), (au, .inl (cyI, 465, .inl tl)), (ab, .inl (cyI, 64, .inl bb)), (ai, .inl (cyI, 64, .inl tt)), (aw, .inl (cyJ, 465, .inr (.inl ww)))] H := hP
  have hD : va_D A [(x, .inr (1, [.ref hn, .ref ht, .int tw, .ref av, .ref au, .ref ab, .ref ai, .ref aw])), (hn, .inr (0, [.int (nI 64), .int (nI 400), .ref n1, .ref n2, .ref n3, .ref n4, .int (nI l.length), .int (nI ic)])), (n1, .inl (cyI, (1 + 64 + 400), .inl lf)), (n2, .inl (cyI, (1 + 64 + 400), .inl of)), (n3, .inl (cyI, 64, .inl nf)), (n4, .inl (cyJ, (1 + 64 + 400), .inr (.inl wf))), (ht, .inr (0, [.int (nI 128), .int (nI 1500), .ref t1, .ref t2, .ref t3, .ref t4, .int (nI 1), .int (nI 0)])), (t1, .inl (cyI, (1 + 128 + 1500), .inl tlf)), (t2, .inl (cyI, (1 + 128 + 1500), .inl tof)), (t3, .inl (cyI, 128, .inl tnf)), (t4, .inl (cyJ, (1 + 128 + 1500), .inr (.inl twf))), (av, .inl (cyI, 465, .inl vl)), (au, .inl (cyI, 465, .inl tl)), (ab, .inl (cyI, 64, .inl bb)), (ai, .inl (cyI, 64, .inl tt)), (aw, .inl (cyJ, 465, .inr (.inl ww)))] := hD
  refine W.widen (k := 0) (n := 0) (Nat.le_refl _) (Nat.le_refl _) ?_
  refine lv_aload_n hx hb dX1_buildTwin_7 rfl (lv_at hl 0 rfl) ?_
  refine x_callv (wc := [(x, .inr (1, [.ref hn, .ref ht, .int tw, .ref av, .ref au, .ref ab, .ref ai, .ref aw])), (hn, .inr (0, [.int (nI 64), .int (nI 400), .ref n1, .ref n2, .ref n3, .ref n4, .int (nI l.length), .int (nI ic)])), (n1, .inl (cyI, (1 + 64 + 400), .inl lf)), (n2, .inl (cyI, (1 + 64 + 400), .inl of)), (n3, .inl (cyI, 64, .inl nf)), (n4, .inl (cyJ, (1 + 64 + 400), .inr (.inl wf))), (ht, .inr (0, [.int (nI 128), .int (nI 1500), .ref t1, .ref t2, .ref t3, .ref t4, .int (nI 1), .int (nI 0)])), (t1, .inl (cyI, (1 + 128 + 1500), .inl tlf)), (t2, .inl (cyI, (1 + 128 + 1500), .inl tof)), (t3, .inl (cyI, 128, .inl tnf)), (t4, .inl (cyJ, (1 + 128 + 1500), .inr (.inl twf))), (av, .inl (cyI, 465, .inl vl)), (au, .inl (cyI, 465, .inl tl)), (ab, .inl (cyI, 64, .inl bb)), (ai, .inl (cyI, 64, .inl tt)), (aw, .inl (cyJ, 465, .inr (.inl ww)))]) (wr := []) (w2 := fun (u : (Nat → Int32) × (Nat → Int32) × (Nat → Int32)) => [(x, .inr (1, [.ref hn, .ref ht, .int tw, .ref av, .ref au, .ref ab, .ref ai, .ref aw])), (hn, .inr (0, [.int (nI 64), .int (nI 400), .ref n1, .ref n2, .ref n3, .ref n4, .int (nI l.length), .int (nI ic)])), (n1, .inl (cyI, (1 + 64 + 400), .inl lf)), (n2, .inl (cyI, (1 + 64 + 400), .inl of)), (n3, .inl (cyI, 64, .inl nf)), (n4, .inl (cyJ, (1 + 64 + 400), .inr (.inl wf))), (ht, .inr (0, [.int (nI 128), .int (nI 1500), .ref t1, .ref t2, .ref t3, .ref t4, .int (nI (1 + (ic + ic))), .int (nI (ic + ic))])), (t1, .inl (cyI, (1 + 128 + 1500), .inl u.1)), (t2, .inl (cyI, (1 + 128 + 1500), .inl u.2.1)), (t3, .inl (cyI, 128, .inl u.2.2)), (t4, .inl (cyJ, (1 + 128 + 1500), .inr (.inl twf))), (av, .inl (cyI, 465, .inl (setI inp (fun i => 2 * (1 + i)) (upd vl 0 (nI 0)) ic))), (au, .inl (cyI, 465, .inl (setI inp (fun i => 2 * (1 + (ic + i))) (upd tl 0 (nI 0)) ic))), (ab, .inl (cyI, 64, .inl bb)), (ai, .inl (cyI, 64, .inl tt)), (aw, .inl (cyJ, 465, .inr (.inl ww)))]) [0, 1, 2, 3, 4, 5, 6, 7, 8, 9, 10, 11, 12, 13, 14, 15] [] [0, 1, 2, 3, 4, 5, 6, 7, 8, 9, 10, 11, 12, 13, 14, 15] (va_runV (As := []) (rest := []) ⟨hx, hb, hml, hown, hts⟩ (c_X1_twinInputs lch D cyI cyJ _ x hn n1 n2 n3 n4 ht t1 t2 t3 t4 av au ab ai aw lf of nf wf l.length ic tlf tof tnf twf tw vl tl bb tt ww inp (fun i hi => ⟨hin i hi, by have := (hi1 i hi).1; omega⟩) (by first | assumption | omega) (by first | assumption | omega) (by first | assumption | omega)) (cwV 0 hts gX1_buildTwin_X1_twinInputs rfl rfl rfl (by decide +kernel) ⟨Nat.le_of_ble_eq_true rfl, Nat.le_of_ble_eq_true rfl⟩) (x_preV hK hNN (hP.sub (ws' := [(x, .inr (1, [.ref hn, .ref ht, .int tw, .ref av, .ref au, .ref ab, .ref ai, .ref aw])), (hn, .inr (0, [.int (nI 64), .int (nI 400), .ref n1, .ref n2, .ref n3, .ref n4, .int (nI l.length), .int (nI ic)])), (n1, .inl (cyI, (1 + 64 + 400), .inl lf)), (n2, .inl (cyI, (1 + 64 + 400), .inl of)), (n3, .inl (cyI, 64, .inl nf)), (n4, .inl (cyJ, (1 + 64 + 400), .inr (.inl wf))), (ht, .inr (0, [.int (nI 128), .int (nI 1500), .ref t1, .ref t2, .ref t3, .ref t4, .int (nI 1), .int (nI 0)])), (t1, .inl (cyI, (1 + 128 + 1500), .inl tlf)), (t2, .inl (cyI, (1 + 128 + 1500), .inl tof)), (t3, .inl (cyI, 128, .inl tnf)), (t4, .inl (cyJ, (1 + 128 + 1500), .inr (.inl twf))), (av, .inl (cyI, 465, .inl vl)), (au, .inl (cyI, 465, .inl tl)), (ab, .inl (cyI, 64, .inl bb)), (ai, .inl (cyI, 64, .inl tt)), (aw, .inl (cyJ, 465, .inr (.inl ww)))]) [0, 1, 2, 3, 4, 5, 6, 7, 8, 9, 10, 11, 12, 13, 14, 15] rfl) (hD.sub (ws' := [(x, .inr (1, [.ref hn, .ref ht, .int tw, .ref av, .ref au, .ref ab, .ref ai, .ref aw])), (hn, .inr (0, [.int (nI 64), .int (nI 400), .ref n1, .ref n2, .ref n3, .ref n4, .int (nI l.length), .int (nI ic)])), (n1, .inl (cyI, (1 + 64 + 400), .inl lf)), (n2, .inl (cyI, (1 + 64 + 400), .inl of)), (n3, .inl (cyI, 64, .inl nf)), (n4, .inl (cyJ, (1 + 64 + 400), .inr (.inl wf))), (ht, .inr (0, [.int (nI 128), .int (nI 1500), .ref t1, .ref t2, .ref t3, .ref t4, .int (nI 1), .int (nI 0)])), (t1, .inl (cyI, (1 + 128 + 1500), .inl tlf)), (t2, .inl (cyI, (1 + 128 + 1500), .inl tof)), (t3, .inl (cyI, 128, .inl tnf)), (t4, .inl (cyJ, (1 + 128 + 1500), .inr (.inl twf))), (av, .inl (cyI, 465, .inl vl)), (au, .inl (cyI, 465, .inl tl)), (ab, .inl (cyI, 64, .inl bb)), (ai, .inl (cyI, 64, .inl tt)), (aw, .inl (cyJ, 465, .inr (.inl ww)))]) [0, 1, 2, 3, 4, 5, 6, 7, 8, 9, 10, 11, 12, 13, 14, 15] (by decide) rfl) rfl rfl (ci := 1) (q0 := 0) rfl rfl rfl) rfl rfl hl.1 rfl (lv_room (Nat.le_of_ble_eq_true rfl)) dX1_buildTwin_8 ⟨Nat.le_of_ble_eq_true rfl, Nat.le_of_ble_eq_true rfl⟩) rfl hP hD hS hA rfl rfl (by decide) (by decide) (fun _ => rfl) (by decide) (fun u8 H locs hw8 hP hD hS hz8 => ?_)
  obtain ⟨b1, b2, b3⟩ := u8
  have hP : va_P D vwCl [(x, .inr (1, [.ref hn, .ref ht, .int tw, .ref av, .ref au, .ref ab, .ref ai, .ref aw])), (hn, .inr (0, [.int (nI 64), .int (nI 400), .ref n1, .ref n2, .ref n3, .ref n4, .int (nI l.length), .int (nI ic)])), (n1, .inl (cyI, (1 + 64 + 400), .inl lf)), (n2, .inl (cyI, (1 + 64 + 400), .inl of)), (n3, .inl (cyI, 64, .inl nf)), (n4, .inl (cyJ, (1 + 64 + 400), .inr (.inl wf))), (ht, .inr (0, [.int (nI 128), .int (nI 1500), .ref t1, .ref t2, .ref t3, .ref t4, .int (nI (1 + (ic + ic))), .int (nI (ic + ic))])), (t1, .inl (cyI, (1 + 128 + 1500), .inl b1)), (t2, .inl (cyI, (1 + 128 + 1500), .inl b2)), (t3, .inl (cyI, 128, .inl b3)), (t4, .inl (cyJ, (1 + 128 + 1500), .inr (.inl twf))), (av, .inl (cyI, 465, .inl (setI inp (fun i => 2 * (1 + i)) (upd vl 0 (nI 0)) ic))), (au, .inl (cyI, 465, .inl (setI inp (fun i => 2 * (1 + (ic + i))) (upd tl 0 (nI 0)) ic))), (ab, .inl (cyI, 64, .inl bb)), (ai, .inl (cyI, 64, .inl tt)), (aw, .inl (cyJ, 465, .inr (.inl ww)))] H := hP
  have hD : va_D A [(x, .inr (1, [.ref hn, .ref ht, .int tw, .ref av, .ref au, .ref ab, .ref ai, .ref aw])), (hn, .inr (0, [.int (nI 64), .int (nI 400), .ref n1, .ref n2, .ref n3, .ref n4, .int (nI l.length), .int (nI ic)])), (n1, .inl (cyI, (1 + 64 + 400), .inl lf)), (n2, .inl (cyI, (1 + 64 + 400), .inl of)), (n3, .inl (cyI, 64, .inl nf)), (n4, .inl (cyJ, (1 + 64 + 400), .inr (.inl wf))), (ht, .inr (0, [.int (nI 128), .int (nI 1500), .ref t1, .ref t2, .ref t3, .ref t4, .int (nI (1 + (ic + ic))), .int (nI (ic + ic))])), (t1, .inl (cyI, (1 + 128 + 1500), .inl b1)), (t2, .inl (cyI, (1 + 128 + 1500), .inl b2)), (t3, .inl (cyI, 128, .inl b3)), (t4, .inl (cyJ, (1 + 128 + 1500), .inr (.inl twf))), (av, .inl (cyI, 465, .inl (setI inp (fun i => 2 * (1 + i)) (upd vl 0 (nI 0)) ic))), (au, .inl (cyI, 465, .inl (setI inp (fun i => 2 * (1 + (ic + i))) (upd tl 0 (nI 0)) ic))), (ab, .inl (cyI, 64, .inl bb)), (ai, .inl (cyI, 64, .inl tt)), (aw, .inl (cyJ, 465, .inr (.inl ww)))] := hD
  have hw8 : rpN (List.replicate (1 + (ic + ic)) none) b1 b2 ∧ (∀ i, i < ic + ic → b3 i = nI (1 + i)) := hw8
  obtain ⟨hb1, hb3⟩ := hw8
  refine W.widen (k := 0) (n := 0) (Nat.le_refl _) (Nat.le_refl _) ?_
  refine lv_iconst (v := nI 0) hx hb dX1_buildTwin_11 (by decide) ?_
  refine lv_istore_n (lv' := [(1, .int (nI 0)), (0, .ref x)]) hx hb dX1_buildTwin_12 rfl hl (by decide) rfl (fun ls hl => ?_)
  have lp13 : ∀ n : Nat, ∀ (k : Nat) (tn : NT) (V : Nat → Nat) (T : Nat → Nat) (f1 : Nat → Int32) (f2 : Nat → Int32) (v : Nat → Int32) (w : Nat → Int32) (hk : k ≤ l.length) (hSS : tLoop l (tInit inp ic) k = some (tn, V, T)) (trp : rpN tn f1 f2) (hV : ∀ j, j < l.length → (j < k ∨ nAt l j = none) → v j = nI (V j) ∧ w j = nI (T j)) (hme : l.length - k < n) (H : Heap) (locs : List Loc) (ls : Array Slot), va_P D vwCl [(x, .inr (1, [.ref hn, .ref ht, .int tw, .ref av, .ref au, .ref ab, .ref ai, .ref aw])), (hn, .inr (0, [.int (nI 64), .int (nI 400), .ref n1, .ref n2, .ref n3, .ref n4, .int (nI l.length), .int (nI ic)])), (n1, .inl (cyI, (1 + 64 + 400), .inl lf)), (n2, .inl (cyI, (1 + 64 + 400), .inl of)), (n3, .inl (cyI, 64, .inl nf)), (n4, .inl (cyJ, (1 + 64 + 400), .inr (.inl wf))), (ht, .inr (0, [.int (nI 128), .int (nI 1500), .ref t1, .ref t2, .ref t3, .ref t4, .int (nI tn.length), .int (nI (ic + ic))])), (t1, .inl (cyI, (1 + 128 + 1500), .inl f1)), (t2, .inl (cyI, (1 + 128 + 1500), .inl f2)), (t3, .inl (cyI, 128, .inl b3)), (t4, .inl (cyJ, (1 + 128 + 1500), .inr (.inl twf))), (av, .inl (cyI, 465, .inl v)), (au, .inl (cyI, 465, .inl w)), (ab, .inl (cyI, 64, .inl bb)), (ai, .inl (cyI, 64, .inl tt)), (aw, .inl (cyJ, 465, .inr (.inl ww)))] H → va_D A [(x, .inr (1, [.ref hn, .ref ht, .int tw, .ref av, .ref au, .ref ab, .ref ai, .ref aw])), (hn, .inr (0, [.int (nI 64), .int (nI 400), .ref n1, .ref n2, .ref n3, .ref n4, .int (nI l.length), .int (nI ic)])), (n1, .inl (cyI, (1 + 64 + 400), .inl lf)), (n2, .inl (cyI, (1 + 64 + 400), .inl of)), (n3, .inl (cyI, 64, .inl nf)), (n4, .inl (cyJ, (1 + 64 + 400), .inr (.inl wf))), (ht, .inr (0, [.int (nI 128), .int (nI 1500), .ref t1, .ref t2, .ref t3, .ref t4, .int (nI tn.length), .int (nI (ic + ic))])), (t1, .inl (cyI, (1 + 128 + 1500), .inl f1)), (t2, .inl (cyI, (1 + 128 + 1500), .inl f2)), (t3, .inl (cyI, 128, .inl b3)), (t4, .inl (cyJ, (1 + 128 + 1500), .inr (.inl twf))), (av, .inl (cyI, 465, .inl v)), (au, .inl (cyI, 465, .inl w)), (ab, .inl (cyI, 64, .inl bb)), (ai, .inl (cyI, 64, .inl tt)), (aw, .inl (cyJ, 465, .inr (.inl ww)))] → va_S A s.heap H locs → lv_has ls 2 [(1, .int (nI k)), (0, .ref x)] → W p lch e ({ frames := 5, cells := 0, slots := 0, locals := 121 } : Room) s m ([.ref x] : List Value).toArray below meth c H locs 0 0 Q (F0 m 13 ls []) := by
    intro n
    induction n with
    | zero => intro k tn V T f1 f2 v w hk hSS trp hV hme H locs ls hP hD hS hl; exact absurd hme (Nat.not_lt_zero _)
    | succ n ih =>
      intro k tn V T f1 f2 v w hk hSS trp hV hme H locs ls hP hD hS hl
      obtain ⟨tok, tgM, tg, hVT⟩ := tLoop_ok hNI k hk _ hSS
      dsimp only at tok tgM tg hVT
      refine lv_iload_n hx hb dX1_buildTwin_13 rfl (lv_at hl 0 rfl) ?_
      refine lv_aload_n hx hb dX1_buildTwin_14 rfl (lv_at hl 1 rfl) ?_
      refine va_get (D := D) (ci := 1) (v := .ref hn) (C := RX1) (T := TX1) (N := 8) hx hb hts hiX1 hown hK hP 0 rfl rfl 0 (by decide) wf14 (fun _ h9 => h9) rfl dX1_buildTwin_15 ?_
      refine va_getN (D := D) (ci := 0) (v := .int (nI l.length)) (C := RX0) (T := TX0) (N := 8) hx hb hts hiX0 hown hK hP 1 rfl rfl 6 (by decide) wn61 (fun _ h9 => h9) rfl dX1_buildTwin_18 ?_
      refine lv_icmp_ge (tgt := 51) hx hb dX1_buildTwin_21 (by decide) (fun c21 => ?_) (fun c21 => ?_)
      · have c21 := (nI_leI (by omega) (by omega)).mp c21
        have hkl : k = l.length := by omega
        rw [hkl] at hSS
        refine lv_iconst (v := nI 1) hx hb dX1_buildTwin_51 (by decide) ?_
        refine x_top (show nI 1 = bI ((tBuild l inp ic).isSome = true) from bI_tn (by rw [tBuild, hSS]; rfl)) ?_
        exact x_iret hQ hAe hx hb hr hlocks (bI_z) hS hK (Nat.le_of_ble_eq_true rfl) (Nat.le_of_ble_eq_true rfl) dX1_buildTwin_52 (f1, f2, b3, v, w, tn.length, ic + ic) hP hD (⟨rfl, (trp 0 tok.1).1.trans (by rw [tok.2.1]; rfl), (trp 0 tok.1).2.trans (by rw [tok.2.1]; rfl), fun S hS2 => by rw [tBuild, hSS] at hS2; cases hS2; exact ⟨trp, rfl, rfl, hb3, fun j hj => hV j hj (Or.inl (by omega))⟩⟩)
      · have c21 := mt (nI_leI (by omega) (by omega)).mpr c21
        refine lv_aload_n hx hb dX1_buildTwin_24 rfl (lv_at hl 1 rfl) ?_
        refine va_get (D := D) (ci := 1) (v := .ref hn) (C := RX1) (T := TX1) (N := 8) hx hb hts hiX1 hown hK hP 0 rfl rfl 0 (by decide) wf14 (fun _ h9 => h9) rfl dX1_buildTwin_25 ?_
        refine lv_iload_n hx hb dX1_buildTwin_28 rfl (lv_at hl 0 rfl) ?_
        refine x_calli (wc := [(hn, .inr (0, [.int (nI 64), .int (nI 400), .ref n1, .ref n2, .ref n3, .ref n4, .int (nI l.length), .int (nI ic)])), (n1, .inl (cyI, (1 + 64 + 400), .inl lf)), (n2, .inl (cyI, (1 + 64 + 400), .inl of)), (n3, .inl (cyI, 64, .inl nf)), (n4, .inl (cyJ, (1 + 64 + 400), .inr (.inl wf)))]) (wr := [(x, .inr (1, [.ref hn, .ref ht, .int tw, .ref av, .ref au, .ref ab, .ref ai, .ref aw])), (ht, .inr (0, [.int (nI 128), .int (nI 1500), .ref t1, .ref t2, .ref t3, .ref t4, .int (nI tn.length), .int (nI (ic + ic))])), (t1, .inl (cyI, (1 + 128 + 1500), .inl f1)), (t2, .inl (cyI, (1 + 128 + 1500), .inl f2)), (t3, .inl (cyI, 128, .inl b3)), (t4, .inl (cyJ, (1 + 128 + 1500), .inr (.inl twf))), (av, .inl (cyI, 465, .inl v)), (au, .inl (cyI, 465, .inl w)), (ab, .inl (cyI, 64, .inl bb)), (ai, .inl (cyI, 64, .inl tt)), (aw, .inl (cyJ, 465, .inr (.inl ww)))]) (w2 := fun (u : Unit) => [(x, .inr (1, [.ref hn, .ref ht, .int tw, .ref av, .ref au, .ref ab, .ref ai, .ref aw])), (hn, .inr (0, [.int (nI 64), .int (nI 400), .ref n1, .ref n2, .ref n3, .ref n4, .int (nI l.length), .int (nI ic)])), (n1, .inl (cyI, (1 + 64 + 400), .inl lf)), (n2, .inl (cyI, (1 + 64 + 400), .inl of)), (n3, .inl (cyI, 64, .inl nf)), (n4, .inl (cyJ, (1 + 64 + 400), .inr (.inl wf))), (ht, .inr (0, [.int (nI 128), .int (nI 1500), .ref t1, .ref t2, .ref t3, .ref t4, .int (nI tn.length), .int (nI (ic + ic))])), (t1, .inl (cyI, (1 + 128 + 1500), .inl f1)), (t2, .inl (cyI, (1 + 128 + 1500), .inl f2)), (t3, .inl (cyI, 128, .inl b3)), (t4, .inl (cyJ, (1 + 128 + 1500), .inr (.inl twf))), (av, .inl (cyI, 465, .inl v)), (au, .inl (cyI, 465, .inl w)), (ab, .inl (cyI, 64, .inl bb)), (ai, .inl (cyI, 64, .inl tt)), (aw, .inl (cyJ, 465, .inr (.inl ww)))]) [1, 2, 3, 4, 5] [0, 6, 7, 8, 9, 10, 11, 12, 13, 14, 15] [0, 11, 12, 13, 14, 15, 1, 2, 3, 4, 5, 6, 7, 8, 9, 10] (va_runVN (As := [.int (nI k)]) (rest := []) ⟨hx, hb, hml, hown, hts⟩ (c_X0_isGate lch D cyI cyJ _ hn n1 n2 n3 n4 64 400 lf of nf wf l.length ic k (by first | assumption | omega) (by first | assumption | omega)) ⟨va_cnB 1 hts gX1_buildTwin_X0_isGate_n120 rfl rfl rfl (hNN.at (.methodLinkNest "NetTwin" 120 yX0_isGate "NetTwin") (by decide +kernel)) wzX0 (by decide +kernel) ⟨Nat.le_of_ble_eq_true rfl, Nat.le_of_ble_eq_true rfl⟩, wm_yX0_isGate, we_yX0_isGate⟩ (x_preV hK hNN (hP.sub (ws' := [(hn, .inr (0, [.int (nI 64), .int (nI 400), .ref n1, .ref n2, .ref n3, .ref n4, .int (nI l.length), .int (nI ic)])), (n1, .inl (cyI, (1 + 64 + 400), .inl lf)), (n2, .inl (cyI, (1 + 64 + 400), .inl of)), (n3, .inl (cyI, 64, .inl nf)), (n4, .inl (cyJ, (1 + 64 + 400), .inr (.inl wf)))]) [1, 2, 3, 4, 5] rfl) (hD.sub (ws' := [(hn, .inr (0, [.int (nI 64), .int (nI 400), .ref n1, .ref n2, .ref n3, .ref n4, .int (nI l.length), .int (nI ic)])), (n1, .inl (cyI, (1 + 64 + 400), .inl lf)), (n2, .inl (cyI, (1 + 64 + 400), .inl of)), (n3, .inl (cyI, 64, .inl nf)), (n4, .inl (cyJ, (1 + 64 + 400), .inr (.inl wf)))]) [1, 2, 3, 4, 5] (by decide) rfl) rfl rfl (ci := 0) (q0 := 0) rfl rfl rfl) rfl rfl hl.1 rfl (lv_room (Nat.le_of_ble_eq_true rfl)) dX1_buildTwin_29 ⟨Nat.le_of_ble_eq_true rfl, Nat.le_of_ble_eq_true rfl⟩) rfl hP hD hS hA rfl rfl (by decide) (by decide) (fun _ => rfl) (by decide) (fun r29 u29 H locs hw29 hP hD hS hz29 => ?_)
        have hP : va_P D vwCl [(x, .inr (1, [.ref hn, .ref ht, .int tw, .ref av, .ref au, .ref ab, .ref ai, .ref aw])), (hn, .inr (0, [.int (nI 64), .int (nI 400), .ref n1, .ref n2, .ref n3, .ref n4, .int (nI l.length), .int (nI ic)])), (n1, .inl (cyI, (1 + 64 + 400), .inl lf)), (n2, .inl (cyI, (1 + 64 + 400), .inl of)), (n3, .inl (cyI, 64, .inl nf)), (n4, .inl (cyJ, (1 + 64 + 400), .inr (.inl wf))), (ht, .inr (0, [.int (nI 128), .int (nI 1500), .ref t1, .ref t2, .ref t3, .ref t4, .int (nI tn.length), .int (nI (ic + ic))])), (t1, .inl (cyI, (1 + 128 + 1500), .inl f1)), (t2, .inl (cyI, (1 + 128 + 1500), .inl f2)), (t3, .inl (cyI, 128, .inl b3)), (t4, .inl (cyJ, (1 + 128 + 1500), .inr (.inl twf))), (av, .inl (cyI, 465, .inl v)), (au, .inl (cyI, 465, .inl w)), (ab, .inl (cyI, 64, .inl bb)), (ai, .inl (cyI, 64, .inl tt)), (aw, .inl (cyJ, 465, .inr (.inl ww)))] H := hP
        have hD : va_D A [(x, .inr (1, [.ref hn, .ref ht, .int tw, .ref av, .ref au, .ref ab, .ref ai, .ref aw])), (hn, .inr (0, [.int (nI 64), .int (nI 400), .ref n1, .ref n2, .ref n3, .ref n4, .int (nI l.length), .int (nI ic)])), (n1, .inl (cyI, (1 + 64 + 400), .inl lf)), (n2, .inl (cyI, (1 + 64 + 400), .inl of)), (n3, .inl (cyI, 64, .inl nf)), (n4, .inl (cyJ, (1 + 64 + 400), .inr (.inl wf))), (ht, .inr (0, [.int (nI 128), .int (nI 1500), .ref t1, .ref t2, .ref t3, .ref t4, .int (nI tn.length), .int (nI (ic + ic))])), (t1, .inl (cyI, (1 + 128 + 1500), .inl f1)), (t2, .inl (cyI, (1 + 128 + 1500), .inl f2)), (t3, .inl (cyI, 128, .inl b3)), (t4, .inl (cyJ, (1 + 128 + 1500), .inr (.inl twf))), (av, .inl (cyI, 465, .inl v)), (au, .inl (cyI, 465, .inl w)), (ab, .inl (cyI, 64, .inl bb)), (ai, .inl (cyI, 64, .inl tt)), (aw, .inl (cyJ, 465, .inr (.inl ww)))] := hD
        have hw29 : r29 = bI (¬ lf k = -1) := hw29
        subst hw29
        refine W.widen (k := 0) (n := 0) (Nat.le_refl _) (Nat.le_refl _) ?_
        refine lv_if_eq (tgt := 45) hx hb dX1_buildTwin_32 (by decide) (fun c32 => ?_) (fun c32 => ?_)
        · have c32 := bI_0.mp c32
          have hz : nAt l k = none := gL_no hok (by omega) (by rw [← (hrp k (by omega)).1]; exact Decidable.not_not.mp c32)
          refine lv_iinc (v := nI (k + 1)) (lv' := [(1, .int (nI (k + 1))), (0, .ref x)]) hx hb dX1_buildTwin_45 hl (k := 0) rfl (n_inc _) (by decide) rfl (fun ls hl => ?_)
          refine lv_goto (tgt := 13) hx hb dX1_buildTwin_48 (by decide) ?_
          exact ih (k + 1) tn V T f1 f2 v w (by omega) (tL_n hz hSS) trp (fun j hj hz2 => hV j hj (hz2.elim (fun q => (Nat.lt_succ_iff_lt_or_eq.mp q).imp id (fun q => by rw [q]; exact hz)) Or.inr)) (by omega) _ _ _ hP hD hS (lv_sub hl [0, 1] rfl)
        · have c32 := Decidable.not_not.mp (mt bI_0.mpr c32)
          obtain ⟨a, b, hlk⟩ := gL_yes (g := nAt l k) (by rw [← (hrp k (by omega)).1]; exact c32)
          refine lv_aload_n hx hb dX1_buildTwin_35 rfl (lv_at hl 1 rfl) ?_
          refine lv_iload_n hx hb dX1_buildTwin_36 rfl (lv_at hl 0 rfl) ?_
          refine x_calli (wc := [(x, .inr (1, [.ref hn, .ref ht, .int tw, .ref av, .ref au, .ref ab, .ref ai, .ref aw])), (hn, .inr (0, [.int (nI 64), .int (nI 400), .ref n1, .ref n2, .ref n3, .ref n4, .int (nI l.length), .int (nI ic)])), (n1, .inl (cyI, (1 + 64 + 400), .inl lf)), (n2, .inl (cyI, (1 + 64 + 400), .inl of)), (n3, .inl (cyI, 64, .inl nf)), (n4, .inl (cyJ, (1 + 64 + 400), .inr (.inl wf))), (ht, .inr (0, [.int (nI 128), .int (nI 1500), .ref t1, .ref t2, .ref t3, .ref t4, .int (nI tn.length), .int (nI (ic + ic))])), (t1, .inl (cyI, (1 + 128 + 1500), .inl f1)), (t2, .inl (cyI, (1 + 128 + 1500), .inl f2)), (t3, .inl (cyI, 128, .inl b3)), (t4, .inl (cyJ, (1 + 128 + 1500), .inr (.inl twf))), (av, .inl (cyI, 465, .inl v)), (au, .inl (cyI, 465, .inl w)), (ab, .inl (cyI, 64, .inl bb)), (ai, .inl (cyI, 64, .inl tt)), (aw, .inl (cyJ, 465, .inr (.inl ww)))]) (wr := []) (w2 := fun (u : (Nat → Int32) × (Nat → Int32)) => [(x, .inr (1, [.ref hn, .ref ht, .int tw, .ref av, .ref au, .ref ab, .ref ai, .ref aw])), (hn, .inr (0, [.int (nI 64), .int (nI 400), .ref n1, .ref n2, .ref n3, .ref n4, .int (nI l.length), .int (nI ic)])), (n1, .inl (cyI, (1 + 64 + 400), .inl lf)), (n2, .inl (cyI, (1 + 64 + 400), .inl of)), (n3, .inl (cyI, 64, .inl nf)), (n4, .inl (cyJ, (1 + 64 + 400), .inr (.inl wf))), (ht, .inr (0, [.int (nI 128), .int (nI 1500), .ref t1, .ref t2, .ref t3, .ref t4, .int (nI ((G6 tn (litN V a) (litN V b) (T (a / 2)) (T (b / 2))).2.length)), .int (nI (ic + ic))])), (t1, .inl (cyI, (1 + 128 + 1500), .inl u.1)), (t2, .inl (cyI, (1 + 128 + 1500), .inl u.2)), (t3, .inl (cyI, 128, .inl b3)), (t4, .inl (cyJ, (1 + 128 + 1500), .inr (.inl twf))), (av, .inl (cyI, 465, .inl (upd v k (eO (G1 tn (litN V a) (litN V b) (T (a / 2)) (T (b / 2))).1)))), (au, .inl (cyI, 465, .inl (upd w k (eO (G6 tn (litN V a) (litN V b) (T (a / 2)) (T (b / 2))).1)))), (ab, .inl (cyI, 64, .inl bb)), (ai, .inl (cyI, 64, .inl tt)), (aw, .inl (cyJ, 465, .inr (.inl ww)))]) [0, 1, 2, 3, 4, 5, 6, 7, 8, 9, 10, 11, 12, 13, 14, 15] [] [0, 1, 2, 3, 4, 5, 6, 7, 8, 9, 10, 11, 12, 13, 14, 15] (va_runV (As := [.int (nI k)]) (rest := []) ⟨hx, hb, hml, hown, hts⟩ (c_X1_twinGate lch D cyI cyJ _ x hn n1 n2 n3 n4 ht t1 t2 t3 t4 av au ab ai aw lf of nf wf ic f1 f2 b3 twf (ic + ic) tw v w bb tt ww l tn V T k a b (by first | assumption | omega) (by first | assumption | omega) (by first | assumption | omega) (by first | assumption | omega) (by first | assumption | omega) (by first | assumption | omega) (by first | assumption | omega) (by first | assumption | omega) (by first | assumption | omega) (by first | assumption | omega) (by first | assumption | omega) (by first | assumption | omega) (fun j hj => ⟨hV j (by omega) (Or.inl hj), hVT j (by omega) (Or.inl hj)⟩)) (cwV 1 hts gX1_buildTwin_X1_twinGate rfl rfl rfl (by decide +kernel) ⟨Nat.le_of_ble_eq_true rfl, Nat.le_of_ble_eq_true rfl⟩) (x_preV hK hNN (hP.sub (ws' := [(x, .inr (1, [.ref hn, .ref ht, .int tw, .ref av, .ref au, .ref ab, .ref ai, .ref aw])), (hn, .inr (0, [.int (nI 64), .int (nI 400), .ref n1, .ref n2, .ref n3, .ref n4, .int (nI l.length), .int (nI ic)])), (n1, .inl (cyI, (1 + 64 + 400), .inl lf)), (n2, .inl (cyI, (1 + 64 + 400), .inl of)), (n3, .inl (cyI, 64, .inl nf)), (n4, .inl (cyJ, (1 + 64 + 400), .inr (.inl wf))), (ht, .inr (0, [.int (nI 128), .int (nI 1500), .ref t1, .ref t2, .ref t3, .ref t4, .int (nI tn.length), .int (nI (ic + ic))])), (t1, .inl (cyI, (1 + 128 + 1500), .inl f1)), (t2, .inl (cyI, (1 + 128 + 1500), .inl f2)), (t3, .inl (cyI, 128, .inl b3)), (t4, .inl (cyJ, (1 + 128 + 1500), .inr (.inl twf))), (av, .inl (cyI, 465, .inl v)), (au, .inl (cyI, 465, .inl w)), (ab, .inl (cyI, 64, .inl bb)), (ai, .inl (cyI, 64, .inl tt)), (aw, .inl (cyJ, 465, .inr (.inl ww)))]) [0, 1, 2, 3, 4, 5, 6, 7, 8, 9, 10, 11, 12, 13, 14, 15] rfl) (hD.sub (ws' := [(x, .inr (1, [.ref hn, .ref ht, .int tw, .ref av, .ref au, .ref ab, .ref ai, .ref aw])), (hn, .inr (0, [.int (nI 64), .int (nI 400), .ref n1, .ref n2, .ref n3, .ref n4, .int (nI l.length), .int (nI ic)])), (n1, .inl (cyI, (1 + 64 + 400), .inl lf)), (n2, .inl (cyI, (1 + 64 + 400), .inl of)), (n3, .inl (cyI, 64, .inl nf)), (n4, .inl (cyJ, (1 + 64 + 400), .inr (.inl wf))), (ht, .inr (0, [.int (nI 128), .int (nI 1500), .ref t1, .ref t2, .ref t3, .ref t4, .int (nI tn.length), .int (nI (ic + ic))])), (t1, .inl (cyI, (1 + 128 + 1500), .inl f1)), (t2, .inl (cyI, (1 + 128 + 1500), .inl f2)), (t3, .inl (cyI, 128, .inl b3)), (t4, .inl (cyJ, (1 + 128 + 1500), .inr (.inl twf))), (av, .inl (cyI, 465, .inl v)), (au, .inl (cyI, 465, .inl w)), (ab, .inl (cyI, 64, .inl bb)), (ai, .inl (cyI, 64, .inl tt)), (aw, .inl (cyJ, 465, .inr (.inl ww)))]) [0, 1, 2, 3, 4, 5, 6, 7, 8, 9, 10, 11, 12, 13, 14, 15] (by decide) rfl) rfl rfl (ci := 1) (q0 := 0) rfl rfl rfl) rfl rfl hl.1 rfl (lv_room (Nat.le_of_ble_eq_true rfl)) dX1_buildTwin_37 ⟨Nat.le_of_ble_eq_true rfl, Nat.le_of_ble_eq_true rfl⟩) rfl hP hD hS hA rfl rfl (by decide) (by decide) (fun _ => rfl) (by decide) (fun r37 u37 H locs hw37 hP hD hS hz37 => ?_)
          obtain ⟨p37, q37⟩ := u37
          have hP : va_P D vwCl [(x, .inr (1, [.ref hn, .ref ht, .int tw, .ref av, .ref au, .ref ab, .ref ai, .ref aw])), (hn, .inr (0, [.int (nI 64), .int (nI 400), .ref n1, .ref n2, .ref n3, .ref n4, .int (nI l.length), .int (nI ic)])), (n1, .inl (cyI, (1 + 64 + 400), .inl lf)), (n2, .inl (cyI, (1 + 64 + 400), .inl of)), (n3, .inl (cyI, 64, .inl nf)), (n4, .inl (cyJ, (1 + 64 + 400), .inr (.inl wf))), (ht, .inr (0, [.int (nI 128), .int (nI 1500), .ref t1, .ref t2, .ref t3, .ref t4, .int (nI ((G6 tn (litN V a) (litN V b) (T (a / 2)) (T (b / 2))).2.length)), .int (nI (ic + ic))])), (t1, .inl (cyI, (1 + 128 + 1500), .inl p37)), (t2, .inl (cyI, (1 + 128 + 1500), .inl q37)), (t3, .inl (cyI, 128, .inl b3)), (t4, .inl (cyJ, (1 + 128 + 1500), .inr (.inl twf))), (av, .inl (cyI, 465, .inl (upd v k (eO (G1 tn (litN V a) (litN V b) (T (a / 2)) (T (b / 2))).1)))), (au, .inl (cyI, 465, .inl (upd w k (eO (G6 tn (litN V a) (litN V b) (T (a / 2)) (T (b / 2))).1)))), (ab, .inl (cyI, 64, .inl bb)), (ai, .inl (cyI, 64, .inl tt)), (aw, .inl (cyJ, 465, .inr (.inl ww)))] H := hP
          have hD : va_D A [(x, .inr (1, [.ref hn, .ref ht, .int tw, .ref av, .ref au, .ref ab, .ref ai, .ref aw])), (hn, .inr (0, [.int (nI 64), .int (nI 400), .ref n1, .ref n2, .ref n3, .ref n4, .int (nI l.length), .int (nI ic)])), (n1, .inl (cyI, (1 + 64 + 400), .inl lf)), (n2, .inl (cyI, (1 + 64 + 400), .inl of)), (n3, .inl (cyI, 64, .inl nf)), (n4, .inl (cyJ, (1 + 64 + 400), .inr (.inl wf))), (ht, .inr (0, [.int (nI 128), .int (nI 1500), .ref t1, .ref t2, .ref t3, .ref t4, .int (nI ((G6 tn (litN V a) (litN V b) (T (a / 2)) (T (b / 2))).2.length)), .int (nI (ic + ic))])), (t1, .inl (cyI, (1 + 128 + 1500), .inl p37)), (t2, .inl (cyI, (1 + 128 + 1500), .inl q37)), (t3, .inl (cyI, 128, .inl b3)), (t4, .inl (cyJ, (1 + 128 + 1500), .inr (.inl twf))), (av, .inl (cyI, 465, .inl (upd v k (eO (G1 tn (litN V a) (litN V b) (T (a / 2)) (T (b / 2))).1)))), (au, .inl (cyI, 465, .inl (upd w k (eO (G6 tn (litN V a) (litN V b) (T (a / 2)) (T (b / 2))).1)))), (ab, .inl (cyI, 64, .inl bb)), (ai, .inl (cyI, 64, .inl tt)), (aw, .inl (cyJ, 465, .inr (.inl ww)))] := hD
          have hw37 : r37 = bI ((tGate tn (litN V a) (litN V b) (T (a / 2)) (T (b / 2))).isSome = true) ∧ rpN (G6 tn (litN V a) (litN V b) (T (a / 2)) (T (b / 2))).2 p37 q37 := hw37
          obtain ⟨rfl, R37⟩ := hw37
          refine W.widen (k := 0) (n := 0) (Nat.le_refl _) (Nat.le_refl _) ?_
          refine lv_if_ne (tgt := 45) hx hb dX1_buildTwin_40 (by decide) (fun c40 => ?_) (fun c40 => ?_)
          · have c40 := Decidable.not_not.mp (mt bI_0.mpr c40)
            obtain ⟨⟨t3, v2, u2⟩, hR⟩ := Option.isSome_iff_exists.mp c40
            refine lv_iinc (v := nI (k + 1)) (lv' := [(1, .int (nI (k + 1))), (0, .ref x)]) hx hb dX1_buildTwin_45 hl (k := 0) rfl (n_inc _) (by decide) rfl (fun ls hl => ?_)
            refine lv_goto (tgt := 13) hx hb dX1_buildTwin_48 (by decide) ?_
            exact ih (k + 1) ((G6 tn (litN V a) (litN V b) (T (a / 2)) (T (b / 2))).2) (updN V k v2) (updN T k u2) p37 q37 (upd v k (eO (G1 tn (litN V a) (litN V b) (T (a / 2)) (T (b / 2))).1)) (upd w k (eO (G6 tn (litN V a) (litN V b) (T (a / 2)) (T (b / 2))).1)) (by omega) (tL_g hlk hSS hR) R37 (tL_v hV hR) (by omega) _ _ _ hP hD hS (lv_sub hl [0, 1] rfl)
          · have c40 := bI_0.mp c40
            have hno := tL_no hlk hSS c40 l.length (by omega)
            have z0 := tL_0 hok tok tgM hlk (fun j hj => hVT j (by omega) (Or.inl hj)) R37
            refine lv_iconst (v := nI 0) hx hb dX1_buildTwin_43 (by decide) ?_
            refine x_top (show nI 0 = bI ((tBuild l inp ic).isSome = true) from bI_fn (by rw [tBuild, hno]; decide)) ?_
            exact x_iret hQ hAe hx hb hr hlocks (bI_z) hS hK (Nat.le_of_ble_eq_true rfl) (Nat.le_of_ble_eq_true rfl) dX1_buildTwin_44 (p37, q37, b3, upd v k (eO (G1 tn (litN V a) (litN V b) (T (a / 2)) (T (b / 2))).1), upd w k (eO (G6 tn (litN V a) (litN V b) (T (a / 2)) (T (b / 2))).1), (G6 tn (litN V a) (litN V b) (T (a / 2)) (T (b / 2))).2.length, ic + ic) hP hD (⟨rfl, z0.1, z0.2, fun S hS2 => by rw [tBuild, hno] at hS2; cases hS2⟩)
  have eL : 1 + (ic + ic) = (List.replicate (1 + (ic + ic)) (none : Option (Nat × Nat))).length := by rw [List.length_replicate]
  rw [eL] at hP hD
  exact lp13 _ 0 (List.replicate (1 + (ic + ic)) none) (setN inp (fun i => 2 * (1 + i)) (fun _ => 0) ic) (setN inp (fun i => 2 * (1 + (ic + i))) (fun _ => 0) ic) b1 b2 (setI inp (fun i => 2 * (1 + i)) (upd vl 0 (nI 0)) ic) (setI inp (fun i => 2 * (1 + (ic + i))) (upd tl 0 (nI 0)) ic) (Nat.zero_le _) rfl hb1 (tI_val hNI) (Nat.lt_succ_self _) _ _ _ hP hD hS (lv_sub hl [0, 1] rfl)
end
section
/-! the common state (l the net, inp its inputs, ic how many, st whether the twin stands) and what NetTwin's cells hold of it -/
def tNet (l : NT) (inp : Nat → Nat) (ic : Nat) (st : Bool) : NT := if st = true then (match tBuild l inp ic with
  | some S => S.1
  | none => []) else []
def sL (l : NT) (inp : Nat → Nat) (ic : Nat) (st : Bool) (q : Int32) : NT := if q = 0 then l else tNet l inp ic st
def sGate (l : NT) (inp : Nat → Nat) (ic : Nat) (st : Bool) (q node which : Int32) : Int32 := if 0 ≤ node ∧ node < nI (sL l inp ic st q).length then (if which = 0 then gL (nAt (sL l inp ic st q) node.toNatClampNeg) else if which = 1 then gR (nAt (sL l inp ic st q) node.toNatClampNeg) else -1) else -1
def sTwin (l : NT) (inp : Nat → Nat) (ic : Nat) : Int32 := match tBuild l inp ic with
  | some S => nI S.1.length
  | none => -1
def sTwinOf (l : NT) (inp : Nat → Nat) (ic : Nat) (st : Bool) (lit q : Int32) : Int32 := if st = true then (match dO l.length lit, tBuild l inp ic with
  | some k, some S => if q = 0 then nI (litN S.2.1 k) else nI (S.2.2 (k / 2))
  | _, _ => -1) else -1
def sRow (ic : Nat) (f : Nat → Int32) (i bit : Int32) : Nat → Int32 := if 0 ≤ i ∧ i < nI ic then upd f i.toNatClampNeg (if bit = 0 then nI 0 else nI 1) else f
def sSetB (ic : Nat) (b : Nat → Int32) (i q bit : Int32) : Nat → Int32 := if q = 0 then sRow ic b i bit else b
def sSetT (ic : Nat) (t : Nat → Int32) (i q bit : Int32) : Nat → Int32 := if q = 0 then t else sRow ic t i bit
def sSetR (ic : Nat) (b t : Nat → Int32) (i q : Int32) : Int32 := if 0 ≤ i ∧ i < nI ic then (if q = 0 then b i.toNatClampNeg else t i.toNatClampNeg) else -1
def nXa (M : Nat) (l : NT) (x y : Option Nat) : Option Nat × NT := nAnd M l x (nNot y)
def nXb (M : Nat) (l : NT) (x y : Option Nat) : Option Nat × NT := nAnd M (nXa M l x y).2 (nNot x) y
def nXor (M : Nat) (l : NT) (x y : Option Nat) : Option Nat × NT := nOr M (nXb M l x y).2 (nXa M l x y).1 (nXb M l x y).1
def nCa (M : Nat) (l : NT) (z x : Option Nat) : Option Nat × NT := nAnd M l z x
def nCb (M : Nat) (l : NT) (z x y : Option Nat) : Option Nat × NT := nAnd M (nCa M l z x).2 (nNot z) y
def nCh (M : Nat) (l : NT) (z x y : Option Nat) : Option Nat × NT := nOr M (nCb M l z x y).2 (nCa M l z x).1 (nCb M l z x y).1
def sCh (l : NT) (z x y : Int32) : Option Nat × NT := match dO l.length z, dO l.length x, dO l.length y with
  | some i, some j, some k => nCh 400 l (some i) (some j) (some k)
  | _, _, _ => (none, l)
/-- what NetTwin's cells hold -/
def XI (l : NT) (inp : Nat → Nat) (ic : Nat) (st : Bool) (lf of nf : Nat → Int32) (wf : Nat → Int64) (tlf tof tnf : Nat → Int32) (twf : Nat → Int64) (tnc tic : Nat) (tw : Int32) (vl tl : Nat → Int32) (ww : Nat → Int64) : Prop :=
  NI l inp ic ∧ rpN l lf of ∧ (∀ i, i < ic → nf i = nI (inp i)) ∧ (wf 0 = 0 ∧ twf 0 = 0 ∧ ww 0 = 0 ∧ tlf 0 = -1 ∧ tof 0 = -1) ∧ (st = false → tw = -1 ∨ ∃ n, n < l.length ∧ tw = nI n) ∧ (st = true → tw = nI l.length ∧ ∃ S, tBuild l inp ic = some S ∧ twH l ic S vl tl tlf tof tnf tnc tic)
theorem NI_len {l : NT} {inp : Nat → Nat} {ic : Nat} (h : NI l inp ic) : l.length ≤ 465 := by
  obtain ⟨-, h1, h2, h3, -⟩ := h
  omega
theorem NI_input {l : NT} {inp : Nat → Nat} {ic : Nat} (h : NI l inp ic) (hi : ic < 64) : NI (l ++ [none]) (updN inp ic l.length) (ic + 1) := by
  obtain ⟨hok, hg, hgM, hic, hi1, hi2, hi3⟩ := h
  have eL : (l ++ [(none : Option (Nat × Nat))]).length = l.length + 1 := by simp
  refine ⟨⟨by rw [eL]; omega, by rw [nAt_app hok.1]; exact hok.2.1, fun k a b hk => ?_⟩, by rw [nGates_none, eL]; omega, by rw [nGates_none]; omega, by omega, fun i hi2 => ?_, fun i j hi9 hj2 hij => ?_, fun k hk hz => ?_⟩
  · rw [nAt_snoc] at hk
    split at hk
    · cases hk
    · exact hok.2.2 k a b hk
  · by_cases e : i = ic
    · subst e
      rw [updN_s, eL, nAt_last]
      exact ⟨by omega, hok.1, rfl⟩
    · rw [updN_n e, eL]
      have h1 := hi1 i (by omega)
      rw [nAt_app h1.1]
      exact ⟨by omega, h1.2⟩
  · by_cases e : i = ic
    · by_cases e2 : j = ic
      · omega
      · subst e
        rw [updN_s, updN_n e2] at hij
        have := (hi1 j (by omega)).1
        omega
    · by_cases e2 : j = ic
      · subst e2
        rw [updN_s, updN_n e] at hij
        have := (hi1 i (by omega)).1
        omega
      · rw [updN_n e, updN_n e2] at hij
        exact hi2 i j (by omega) (by omega) hij
  · by_cases e : k = l.length
    · exact Or.inr ⟨ic, by omega, by rw [updN_s]; exact e.symm⟩
    · rw [eL] at hk
      rw [nAt_app (by omega)] at hz
      rcases hi3 k (by omega) hz with h0 | ⟨i, hi2, e2⟩
      · exact Or.inl h0
      · exact Or.inr ⟨i, by omega, by rw [updN_n (by omega)]; exact e2⟩
theorem NI_grow {l : NT} {inp : Nat → Nat} {ic : Nat} {R : Option Nat × NT} (h : NI l inp ic) (k : kept 400 l R) : NI R.2 inp ic := by
  obtain ⟨hok, hg, hgM, hic, hi1, hi2, hi3⟩ := h
  obtain ⟨k1, k2, k3, k4, k5, r, k6⟩ := k
  refine ⟨k1, by omega, k3, hic, fun i hi => ?_, hi2, fun j hj hz => ?_⟩
  · have h1 := hi1 i hi
    refine ⟨by omega, h1.2.1, ?_⟩
    rw [k6, nAt_app h1.1]
    exact h1.2.2
  · by_cases e : j < l.length
    · rw [k6, nAt_app e] at hz
      exact hi3 j e hz
    · exfalso
      have e2 : nGates R.2 = nGates l + nGates r := by rw [k6]; simp [nGates, List.countP_append]
      have e3 : R.2.length = l.length + r.length := by rw [k6, List.length_append]
      have e4 : nGates r = r.length := by omega
      have e5 : ∀ g ∈ r, g.isSome = true := List.countP_eq_length.mp e4
      have hj2 : j - l.length < r.length := by omega
      have e6 := e5 r[j - l.length] (List.getElem_mem hj2)
      have e7 : nAt R.2 j = r[j - l.length] := by
        rw [k6]
        simp [nAt, List.getD_eq_getElem?_getD, List.getElem?_append_right (show l.length ≤ j by omega), hj2]
      rw [e7] at hz
      rw [hz] at e6
      cases e6
theorem kept_same {M : Nat} {l : NT} {R : Option Nat × NT} (k : kept M l R) (h : R.2.length = l.length) : R.2 = l := by
  obtain ⟨-, -, -, -, -, r, k6⟩ := k
  have e : r.length = 0 := by
    have := congrArg List.length k6
    rw [List.length_append] at this
    omega
  rw [List.length_eq_zero_iff.mp e, List.append_nil] at k6
  exact k6
theorem kept_id {M : Nat} {l : NT} (hok : nOK l) (hM : nGates l ≤ M) : kept M l (none, l) := ⟨hok, vO_none, hM, rfl, Nat.le_refl _, [], by simp⟩
/-- whether the twin stands behind a making -/
def stG (st : Bool) (l l2 : NT) : Bool := st && decide (l2.length = l.length)
theorem XI_grow {l : NT} {inp : Nat → Nat} {ic : Nat} {st : Bool} {lf of nf : Nat → Int32} {wf : Nat → Int64} {tlf tof tnf : Nat → Int32} {twf : Nat → Int64} {tnc tic : Nat} {tw : Int32} {vl tl : Nat → Int32} {ww : Nat → Int64} {R : Option Nat × NT} {lf2 of2 : Nat → Int32}
    (h : XI l inp ic st lf of nf wf tlf tof tnf twf tnc tic tw vl tl ww) (k : kept 400 l R) (hr : rpN R.2 lf2 of2) : XI R.2 inp ic (stG st l R.2) lf2 of2 nf wf tlf tof tnf twf tnc tic tw vl tl ww := by
  obtain ⟨hN, h1, h2, h3, h4, h5⟩ := h
  refine ⟨NI_grow hN k, hr, h2, h3, fun hs => ?_, fun hs => ?_⟩
  · cases st with
    | false =>
      rcases h4 rfl with e | ⟨n, hn, e⟩
      · exact Or.inl e
      · exact Or.inr ⟨n, Nat.lt_of_lt_of_le hn k.2.2.2.2.1, e⟩
    | true =>
      have hne : ¬ R.2.length = l.length := by simpa [stG] using hs
      have := k.2.2.2.2.1
      exact Or.inr ⟨l.length, by omega, (h5 rfl).1⟩
  · cases st with
    | false => cases hs
    | true =>
      have he : R.2.length = l.length := by simpa [stG] using hs
      rw [kept_same k he]
      exact h5 rfl
theorem XI_input {l : NT} {inp : Nat → Nat} {ic : Nat} {st : Bool} {lf of nf : Nat → Int32} {wf : Nat → Int64} {tlf tof tnf : Nat → Int32} {twf : Nat → Int64} {tnc tic : Nat} {tw : Int32} {vl tl : Nat → Int32} {ww : Nat → Int64}
    (h : XI l inp ic st lf of nf wf tlf tof tnf twf tnc tic tw vl tl ww) (hi : ic < 64) : XI (l ++ [none]) (updN inp ic l.length) (ic + 1) false (upd lf l.length (-1)) (upd of l.length (-1)) (upd nf ic (nI l.length)) wf tlf tof tnf twf tnc tic tw vl tl ww := by
  obtain ⟨hN, h1, h2, h3, h4, h5⟩ := h
  refine ⟨NI_input hN hi, rpN_snoc h1 none, fun i hi2 => ?_, h3, fun _ => ?_, fun hs => by cases hs⟩
  · by_cases e : i = ic
    · subst e; rw [updN_s, pk_us]
    · rw [updN_n e, pk_un e]; exact h2 i (by omega)
  · have eL : (l ++ [(none : Option (Nat × Nat))]).length = l.length + 1 := by simp
    cases st with
    | false =>
      rcases h4 rfl with e | ⟨n, hn, e⟩
      · exact Or.inl e
      · exact Or.inr ⟨n, by omega, e⟩
    | true => exact Or.inr ⟨l.length, by omega, (h5 rfl).1⟩
theorem XI_st {l : NT} {inp : Nat → Nat} {ic : Nat} {st : Bool} {lf of nf : Nat → Int32} {wf : Nat → Int64} {tlf tof tnf : Nat → Int32} {twf : Nat → Int64} {tnc tic : Nat} {tw : Int32} {vl tl : Nat → Int32} {ww : Nat → Int64}
    (h : XI l inp ic st lf of nf wf tlf tof tnf twf tnc tic tw vl tl ww) : tw = nI l.length ↔ st = true := by
  have hl := NI_len h.1
  obtain ⟨hN, h1, h2, h3, h4, h5⟩ := h
  constructor
  · intro e
    cases st with
    | true => rfl
    | false =>
      exfalso
      rcases h4 rfl with e2 | ⟨n, hn, e2⟩
      · exact n_m1 (a := l.length) (by omega) (e.symm.trans e2)
      · have := (nI_eq (by omega) (by omega)).mp (e.symm.trans e2)
        omega
  · intro e
    exact (h5 e).1
theorem XI_tw {l : NT} {inp : Nat → Nat} {ic : Nat} {st : Bool} {lf of nf : Nat → Int32} {wf : Nat → Int64} {tlf tof tnf : Nat → Int32} {twf : Nat → Int64} {tnc tic : Nat} {tw : Int32} {vl tl : Nat → Int32} {ww : Nat → Int64}
    (h : XI l inp ic st lf of nf wf tlf tof tnf twf tnc tic tw vl tl ww) (hs : st = true) : ∃ S, tBuild l inp ic = some S ∧ twH l ic S vl tl tlf tof tnf tnc tic ∧ tOK l ic l.length S ∧ tNet l inp ic st = S.1 ∧ S.1.length ≤ 1629 := by
  obtain ⟨hN, h1, h2, h3, h4, h5⟩ := h
  obtain ⟨-, S, hS, hT⟩ := h5 hs
  have ht := tLoop_ok hN l.length (Nat.le_refl _) S hS
  refine ⟨S, hS, hT, ht, by rw [tNet, if_pos hs, hS], ?_⟩
  have h6 := ht.2.1
  have h7 := ht.2.2.1
  have h8 := hN.2.2.2.1
  omega
theorem tNet_f {l : NT} {inp : Nat → Nat} {ic : Nat} {st : Bool} (h : ¬ st = true) : tNet l inp ic st = [] := if_neg h
theorem tNet_len {l : NT} {inp : Nat → Nat} {ic : Nat} {st : Bool} (h : NI l inp ic) : (tNet l inp ic st).length ≤ 1629 := by
  unfold tNet
  split
  · cases hS : tBuild l inp ic with
    | none => simp
    | some S =>
      have ht := tLoop_ok h l.length (Nat.le_refl _) S hS
      have h6 := ht.2.1
      have h7 := ht.2.2.1
      have h8 := h.2.2.2.1
      show S.1.length ≤ 1629
      omega
  · simp
theorem sL_len {l : NT} {inp : Nat → Nat} {ic : Nat} {st : Bool} {q : Int32} (h : NI l inp ic) : (sL l inp ic st q).length ≤ 1629 := by
  unfold sL
  split
  · have := NI_len h; omega
  · exact tNet_len h
theorem kept_xor {M : Nat} {l : NT} {x y : Option Nat} (hok : nOK l) (hx : vO l.length x) (hy : vO l.length y) (hM : nGates l ≤ M) : kept M l (nXa M l x y) ∧ kept M l (nXb M l x y) ∧ kept M l (nXor M l x y) ∧ vO (nXb M l x y).2.length (nXa M l x y).1 := by
  have k1 : kept M l (nXa M l x y) := kept_and hok hx (vO_not hy) hM
  have l1 := k1.2.2.2.2.1
  have k2' : kept M (nXa M l x y).2 (nXb M l x y) := kept_and k1.1 (vO_mono (vO_not hx) l1) (vO_mono hy l1) k1.2.2.1
  have v1 := vO_mono k1.2.1 k2'.2.2.2.2.1
  have k2 := kept_tr k1 k2'
  exact ⟨k1, k2, kept_tr k2 (kept_or k2.1 v1 k2.2.1 k2.2.2.1), v1⟩
theorem kept_ch {M : Nat} {l : NT} {z x y : Option Nat} (hok : nOK l) (hz : vO l.length z) (hx : vO l.length x) (hy : vO l.length y) (hM : nGates l ≤ M) : kept M l (nCa M l z x) ∧ kept M l (nCb M l z x y) ∧ kept M l (nCh M l z x y) ∧ vO (nCb M l z x y).2.length (nCa M l z x).1 := by
  have k1 : kept M l (nCa M l z x) := kept_and hok hz hx hM
  have l1 := k1.2.2.2.2.1
  have k2' : kept M (nCa M l z x).2 (nCb M l z x y) := kept_and k1.1 (vO_mono (vO_not hz) l1) (vO_mono hy l1) k1.2.2.1
  have v1 := vO_mono k1.2.1 k2'.2.2.2.2.1
  have k2 := kept_tr k1 k2'
  exact ⟨k1, k2, kept_tr k2 (kept_or k2.1 v1 k2.2.1 k2.2.2.1), v1⟩
/-- a literal keeps its meaning where the net has grown by a making that used it -/
theorem dO_mono {n m : Nat} {x : Int32} {k : Nat} (hm : m < 100000) (h : dO n x = some k) (hn : n ≤ m) : dO m x = some k := by
  rcases dO_cases (show n < 100000 by omega) x with ⟨-, e⟩ | ⟨j, hj, rfl, e, -⟩
  · rw [e] at h; cases h
  · rw [e] at h; cases h
    exact dO_nI hm (by omega)
theorem dO_same {l l2 : NT} {x : Int32} {o : Option Nat} (hm : l2.length < 100000) (hn : l.length ≤ l2.length) (ho : dO l.length x = o) (h : o = none → l2 = l) : dO l2.length x = o := by
  cases o with
  | none => rw [h rfl]; exact ho
  | some k => exact dO_mono hm ho hn
theorem nAnd_nl {M : Nat} {l : NT} {x y : Option Nat} (h : x = none ∨ y = none) : nAnd M l x y = (none, l) := by
  rcases h with rfl | rfl
  · exact nAnd_l M l y
  · exact nAnd_r M l x
theorem nNot_none {x : Option Nat} : nNot x = none ↔ x = none := by cases x <;> simp [nNot]
end
