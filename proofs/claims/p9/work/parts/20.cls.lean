/-! The tables of this claim, by a program of ours (wip/gen_tables.py) out of the Statement and the printed names. -/
def RX0 : String := "HandshakeForge$Circuit"
def TX0 : u_T := fun k => match k with
  | 0 => ("HandshakeForge$Circuit", "kind", "[I", true)
  | 1 => ("HandshakeForge$Circuit", "a", "[I", true)
  | 2 => ("HandshakeForge$Circuit", "b", "[I", true)
  | 3 => ("HandshakeForge$Circuit", "c", "[I", true)
  | 4 => ("HandshakeForge$Circuit", "next", "[I", true)
  | 5 => ("HandshakeForge$Circuit", "names", "LHandshakeForge$Names;", true)
  | 6 => ("HandshakeForge$Circuit", "counts", "[I", true)
  | 7 => ("HandshakeForge$Circuit", "bits", "[I", true)
  | 8 => ("HandshakeForge$Circuit", "sizes", "[I", true)
  | 9 => ("HandshakeForge$Circuit", "parameters", "[I", true)
  | 10 => ("HandshakeForge$Circuit", "firstParameter", "[I", true)
  | 11 => ("HandshakeForge$Circuit", "body", "[I", true)
  | 12 => ("HandshakeForge$Circuit", "parts", "I", false)
  | _ => ("HandshakeForge$Circuit", "main", "I", false)
def tyX0 : Nat → FieldType := fun k => match k with
  | 0 => .array .int
  | 1 => .array .int
  | 2 => .array .int
  | 3 => .array .int
  | 4 => .array .int
  | 5 => .object "HandshakeForge$Names"
  | 6 => .array .int
  | 7 => .array .int
  | 8 => .array .int
  | 9 => .array .int
  | 10 => .array .int
  | 11 => .array .int
  | 12 => .int
  | _ => .int
theorem nmX0 : ∀ a, a < 14 → ∀ b, b < 14 → a ≠ b → (TX0 a).2.1 ≠ (TX0 b).2.1 := by decide +kernel
theorem tyX0_ok : ∀ k, k < 14 → parseFieldDescriptor (TX0 k).2.2.1 = some (tyX0 k) := by decide +kernel
def RX1 : String := "HandshakeForge$Compiler"
def TX1 : u_T := fun k => match k with
  | 0 => ("HandshakeForge$Compiler", "tokens", "LHandshakeForge$Tokens;", true)
  | 1 => ("HandshakeForge$Compiler", "circuit", "LHandshakeForge$Circuit;", false)
  | 2 => ("HandshakeForge$Compiler", "fault", "I", false)
  | 3 => ("HandshakeForge$Compiler", "parFault", "I", false)
  | 4 => ("HandshakeForge$Compiler", "pendingSign", "[I", true)
  | 5 => ("HandshakeForge$Compiler", "pendingLeft", "[I", true)
  | 6 => ("HandshakeForge$Compiler", "pending", "I", false)
  | 7 => ("HandshakeForge$Compiler", "used", "J", false)
  | 8 => ("HandshakeForge$Compiler", "assigned", "J", false)
  | 9 => ("HandshakeForge$Compiler", "single", "J", false)
  | 10 => ("HandshakeForge$Compiler", "usedBy", "[J", true)
  | 11 => ("HandshakeForge$Compiler", "assignedBy", "[J", true)
  | 12 => ("HandshakeForge$Compiler", "singleBy", "[J", true)
  | 13 => ("HandshakeForge$Compiler", "self", "I", false)
  | 14 => ("HandshakeForge$Compiler", "ownFrom", "I", false)
  | 15 => ("HandshakeForge$Compiler", "lastOfRow", "I", false)
  | _ => ("HandshakeForge$Compiler", "sizeOfRow", "I", false)
def tyX1 : Nat → FieldType := fun k => match k with
  | 0 => .object "HandshakeForge$Tokens"
  | 1 => .object "HandshakeForge$Circuit"
  | 2 => .int
  | 3 => .int
  | 4 => .array .int
  | 5 => .array .int
  | 6 => .int
  | 7 => .long
  | 8 => .long
  | 9 => .long
  | 10 => .array .long
  | 11 => .array .long
  | 12 => .array .long
  | 13 => .int
  | 14 => .int
  | 15 => .int
  | _ => .int
theorem nmX1 : ∀ a, a < 17 → ∀ b, b < 17 → a ≠ b → (TX1 a).2.1 ≠ (TX1 b).2.1 := by decide +kernel
theorem tyX1_ok : ∀ k, k < 17 → parseFieldDescriptor (TX1 k).2.2.1 = some (tyX1 k) := by decide +kernel
def RX2 : String := "HandshakeForge$Names"
def TX2 : u_T := fun k => match k with
  | 0 => ("HandshakeForge$Names", "words", "[J", true)
  | 1 => ("HandshakeForge$Names", "kinds", "[I", true)
  | 2 => ("HandshakeForge$Names", "numbers", "[I", true)
  | _ => ("HandshakeForge$Names", "size", "I", false)
def tyX2 : Nat → FieldType := fun k => match k with
  | 0 => .array .long
  | 1 => .array .int
  | 2 => .array .int
  | _ => .int
theorem nmX2 : ∀ a, a < 4 → ∀ b, b < 4 → a ≠ b → (TX2 a).2.1 ≠ (TX2 b).2.1 := by decide +kernel
theorem tyX2_ok : ∀ k, k < 4 → parseFieldDescriptor (TX2 k).2.2.1 = some (tyX2 k) := by decide +kernel
def RX3 : String := "HandshakeForge$Queue"
def TX3 : u_T := fun k => match k with
  | 0 => ("HandshakeForge$Queue", "values", "[I", true)
  | 1 => ("HandshakeForge$Queue", "first", "I", false)
  | _ => ("HandshakeForge$Queue", "size", "I", false)
def tyX3 : Nat → FieldType := fun k => match k with
  | 0 => .array .int
  | 1 => .int
  | _ => .int
theorem nmX3 : ∀ a, a < 3 → ∀ b, b < 3 → a ≠ b → (TX3 a).2.1 ≠ (TX3 b).2.1 := by decide +kernel
theorem tyX3_ok : ∀ k, k < 3 → parseFieldDescriptor (TX3 k).2.2.1 = some (tyX3 k) := by decide +kernel
def RX4 : String := "HandshakeForge$Tape"
def TX4 : u_T := fun k => match k with
  | 0 => ("HandshakeForge$Tape", "bytes", "[B", true)
  | _ => ("HandshakeForge$Tape", "size", "I", false)
def tyX4 : Nat → FieldType := fun k => match k with
  | 0 => .array .byte
  | _ => .int
theorem nmX4 : ∀ a, a < 2 → ∀ b, b < 2 → a ≠ b → (TX4 a).2.1 ≠ (TX4 b).2.1 := by decide +kernel
theorem tyX4_ok : ∀ k, k < 2 → parseFieldDescriptor (TX4 k).2.2.1 = some (tyX4 k) := by decide +kernel
def RX5 : String := "HandshakeForge$Tokens"
def TX5 : u_T := fun k => match k with
  | 0 => ("HandshakeForge$Tokens", "tape", "LHandshakeForge$Tape;", true)
  | 1 => ("HandshakeForge$Tokens", "words", "[J", true)
  | 2 => ("HandshakeForge$Tokens", "kinds", "[I", true)
  | 3 => ("HandshakeForge$Tokens", "places", "[I", true)
  | 4 => ("HandshakeForge$Tokens", "values", "[J", true)
  | 5 => ("HandshakeForge$Tokens", "at", "I", false)
  | _ => ("HandshakeForge$Tokens", "next", "I", false)
def tyX5 : Nat → FieldType := fun k => match k with
  | 0 => .object "HandshakeForge$Tape"
  | 1 => .array .long
  | 2 => .array .int
  | 3 => .array .int
  | 4 => .array .long
  | 5 => .int
  | _ => .int
theorem nmX5 : ∀ a, a < 7 → ∀ b, b < 7 → a ≠ b → (TX5 a).2.1 ≠ (TX5 b).2.1 := by decide +kernel
theorem tyX5_ok : ∀ k, k < 7 → parseFieldDescriptor (TX5 k).2.2.1 = some (tyX5 k) := by decide +kernel
def RX6 : String := "HandshakeForge$Work"
def TX6 : u_T := fun k => match k with
  | 0 => ("HandshakeForge$Work", "circuit", "LHandshakeForge$Circuit;", false)
  | 1 => ("HandshakeForge$Work", "by", "[I", true)
  | 2 => ("HandshakeForge$Work", "turns", "[I", true)
  | 3 => ("HandshakeForge$Work", "values", "[I", true)
  | 4 => ("HandshakeForge$Work", "current", "[I", true)
  | 5 => ("HandshakeForge$Work", "ready", "[I", true)
  | 6 => ("HandshakeForge$Work", "top", "I", false)
  | 7 => ("HandshakeForge$Work", "variables", "[I", true)
  | 8 => ("HandshakeForge$Work", "items", "[I", true)
  | 9 => ("HandshakeForge$Work", "ins", "[LHandshakeForge$Queue;", true)
  | 10 => ("HandshakeForge$Work", "outs", "[LHandshakeForge$Queue;", true)
  | 11 => ("HandshakeForge$Work", "senders", "[I", true)
  | 12 => ("HandshakeForge$Work", "receivers", "[I", true)
  | 13 => ("HandshakeForge$Work", "done", "Z", false)
  | 14 => ("HandshakeForge$Work", "state", "I", false)
  | _ => ("HandshakeForge$Work", "steps", "I", false)
def tyX6 : Nat → FieldType := fun k => match k with
  | 0 => .object "HandshakeForge$Circuit"
  | 1 => .array .int
  | 2 => .array .int
  | 3 => .array .int
  | 4 => .array .int
  | 5 => .array .int
  | 6 => .int
  | 7 => .array .int
  | 8 => .array .int
  | 9 => .array (.object "HandshakeForge$Queue")
  | 10 => .array (.object "HandshakeForge$Queue")
  | 11 => .array .int
  | 12 => .array .int
  | 13 => .boolean
  | 14 => .int
  | _ => .int
theorem nmX6 : ∀ a, a < 16 → ∀ b, b < 16 → a ≠ b → (TX6 a).2.1 ≠ (TX6 b).2.1 := by decide +kernel
theorem tyX6_ok : ∀ k, k < 16 → parseFieldDescriptor (TX6 k).2.2.1 = some (tyX6 k) := by decide +kernel
def RX7 : String := "HandshakeForge"
def TX7 : u_T := fun k => match k with
  | 0 => ("HandshakeForge", "tape", "LHandshakeForge$Tape;", true)
  | 1 => ("HandshakeForge", "circuit", "LHandshakeForge$Circuit;", false)
  | 2 => ("HandshakeForge", "spare", "LHandshakeForge$Circuit;", false)
  | 3 => ("HandshakeForge", "made", "Z", false)
  | 4 => ("HandshakeForge", "compiler", "LHandshakeForge$Compiler;", true)
  | _ => ("HandshakeForge", "work", "LHandshakeForge$Work;", true)
def tyX7 : Nat → FieldType := fun k => match k with
  | 0 => .object "HandshakeForge$Tape"
  | 1 => .object "HandshakeForge$Circuit"
  | 2 => .object "HandshakeForge$Circuit"
  | 3 => .boolean
  | 4 => .object "HandshakeForge$Compiler"
  | _ => .object "HandshakeForge$Work"
theorem nmX7 : ∀ a, a < 6 → ∀ b, b < 6 → a ≠ b → (TX7 a).2.1 ≠ (TX7 b).2.1 := by decide +kernel
theorem tyX7_ok : ∀ k, k < 6 → parseFieldDescriptor (TX7 k).2.2.1 = some (tyX7 k) := by decide +kernel
def RX8 : String := "HandshakeForgeModel$Circuit"
def TX8 : u_T := fun k => match k with
  | 0 => ("HandshakeForgeModel$Circuit", "step", "[I", true)
  | 1 => ("HandshakeForgeModel$Circuit", "many", "I", false)
  | 2 => ("HandshakeForgeModel$Circuit", "start", "I", false)
  | 3 => ("HandshakeForgeModel$Circuit", "parts", "I", false)
  | 4 => ("HandshakeForgeModel$Circuit", "variables", "I", false)
  | 5 => ("HandshakeForgeModel$Circuit", "arrays", "I", false)
  | 6 => ("HandshakeForgeModel$Circuit", "chans", "I", false)
  | 7 => ("HandshakeForgeModel$Circuit", "inlets", "I", false)
  | 8 => ("HandshakeForgeModel$Circuit", "outlets", "I", false)
  | 9 => ("HandshakeForgeModel$Circuit", "routines", "I", false)
  | 10 => ("HandshakeForgeModel$Circuit", "counters", "I", false)
  | 11 => ("HandshakeForgeModel$Circuit", "bits", "[I", true)
  | 12 => ("HandshakeForgeModel$Circuit", "sizeOf", "[I", true)
  | 13 => ("HandshakeForgeModel$Circuit", "text", "[B", true)
  | 14 => ("HandshakeForgeModel$Circuit", "lookFrom", "[I", true)
  | 15 => ("HandshakeForgeModel$Circuit", "lookTo", "[I", true)
  | 16 => ("HandshakeForgeModel$Circuit", "lookWhat", "[I", true)
  | 17 => ("HandshakeForgeModel$Circuit", "lookWhich", "[I", true)
  | _ => ("HandshakeForgeModel$Circuit", "looks", "I", false)
def tyX8 : Nat → FieldType := fun k => match k with
  | 0 => .array .int
  | 1 => .int
  | 2 => .int
  | 3 => .int
  | 4 => .int
  | 5 => .int
  | 6 => .int
  | 7 => .int
  | 8 => .int
  | 9 => .int
  | 10 => .int
  | 11 => .array .int
  | 12 => .array .int
  | 13 => .array .byte
  | 14 => .array .int
  | 15 => .array .int
  | 16 => .array .int
  | 17 => .array .int
  | _ => .int
theorem nmX8 : ∀ a, a < 19 → ∀ b, b < 19 → a ≠ b → (TX8 a).2.1 ≠ (TX8 b).2.1 := by decide +kernel
theorem tyX8_ok : ∀ k, k < 19 → parseFieldDescriptor (TX8 k).2.2.1 = some (tyX8 k) := by decide +kernel
def RX9 : String := "HandshakeForgeModel"
def TX9 : u_T := fun k => match k with
  | 0 => ("HandshakeForgeModel", "tape", "[B", true)
  | 1 => ("HandshakeForgeModel", "tapeMany", "I", false)
  | 2 => ("HandshakeForgeModel", "size", "I", false)
  | 3 => ("HandshakeForgeModel", "next", "I", false)
  | 4 => ("HandshakeForgeModel", "kind", "I", false)
  | 5 => ("HandshakeForgeModel", "from", "I", false)
  | 6 => ("HandshakeForgeModel", "to", "I", false)
  | 7 => ("HandshakeForgeModel", "number", "I", false)
  | 8 => ("HandshakeForgeModel", "fault", "I", false)
  | 9 => ("HandshakeForgeModel", "nameFrom", "[I", true)
  | 10 => ("HandshakeForgeModel", "nameTo", "[I", true)
  | 11 => ("HandshakeForgeModel", "what", "[I", true)
  | 12 => ("HandshakeForgeModel", "which", "[I", true)
  | 13 => ("HandshakeForgeModel", "scopeOf", "[I", true)
  | 14 => ("HandshakeForgeModel", "names", "I", false)
  | 15 => ("HandshakeForgeModel", "scope", "I", false)
  | 16 => ("HandshakeForgeModel", "scopes", "I", false)
  | 17 => ("HandshakeForgeModel", "circuit", "LHandshakeForgeModel$Circuit;", false)
  | 18 => ("HandshakeForgeModel", "spare", "LHandshakeForgeModel$Circuit;", false)
  | 19 => ("HandshakeForgeModel", "c", "LHandshakeForgeModel$Circuit;", false)
  | 20 => ("HandshakeForgeModel", "there", "Z", false)
  | 21 => ("HandshakeForgeModel", "parOut", "I", false)
  | 22 => ("HandshakeForgeModel", "assigned", "J", false)
  | 23 => ("HandshakeForgeModel", "used", "J", false)
  | 24 => ("HandshakeForgeModel", "sent", "J", false)
  | 25 => ("HandshakeForgeModel", "received", "J", false)
  | 26 => ("HandshakeForgeModel", "called", "J", false)
  | 27 => ("HandshakeForgeModel", "ofAssigned", "[J", true)
  | 28 => ("HandshakeForgeModel", "ofUsed", "[J", true)
  | 29 => ("HandshakeForgeModel", "ofSent", "[J", true)
  | 30 => ("HandshakeForgeModel", "ofReceived", "[J", true)
  | 31 => ("HandshakeForgeModel", "ofCalled", "[J", true)
  | 32 => ("HandshakeForgeModel", "entry", "[I", true)
  | 33 => ("HandshakeForgeModel", "parametersOf", "[I", true)
  | 34 => ("HandshakeForgeModel", "firstOf", "[I", true)
  | 35 => ("HandshakeForgeModel", "routine", "I", false)
  | 36 => ("HandshakeForgeModel", "own", "I", false)
  | 37 => ("HandshakeForgeModel", "fun", "Z", false)
  | 38 => ("HandshakeForgeModel", "variable", "[I", true)
  | 39 => ("HandshakeForgeModel", "counter", "[I", true)
  | 40 => ("HandshakeForgeModel", "place", "[I", true)
  | 41 => ("HandshakeForgeModel", "how", "[I", true)
  | 42 => ("HandshakeForgeModel", "way", "[I", true)
  | 43 => ("HandshakeForgeModel", "top", "[I", true)
  | 44 => ("HandshakeForgeModel", "calls", "[I", true)
  | 45 => ("HandshakeForgeModel", "parent", "[I", true)
  | 46 => ("HandshakeForgeModel", "children", "[I", true)
  | 47 => ("HandshakeForgeModel", "item", "[[I", true)
  | 48 => ("HandshakeForgeModel", "stack", "[[I", true)
  | 49 => ("HandshakeForgeModel", "back", "[[I", true)
  | 50 => ("HandshakeForgeModel", "inside", "[[I", true)
  | 51 => ("HandshakeForgeModel", "held", "[I", true)
  | 52 => ("HandshakeForgeModel", "state", "I", false)
  | 53 => ("HandshakeForgeModel", "steps", "I", false)
  | 54 => ("HandshakeForgeModel", "most", "I", false)
  | _ => ("HandshakeForgeModel", "branches", "I", false)
def tyX9 : Nat → FieldType := fun k => match k with
  | 0 => .array .byte
  | 1 => .int
  | 2 => .int
  | 3 => .int
  | 4 => .int
  | 5 => .int
  | 6 => .int
  | 7 => .int
  | 8 => .int
  | 9 => .array .int
  | 10 => .array .int
  | 11 => .array .int
  | 12 => .array .int
  | 13 => .array .int
  | 14 => .int
  | 15 => .int
  | 16 => .int
  | 17 => .object "HandshakeForgeModel$Circuit"
  | 18 => .object "HandshakeForgeModel$Circuit"
  | 19 => .object "HandshakeForgeModel$Circuit"
  | 20 => .boolean
  | 21 => .int
  | 22 => .long
  | 23 => .long
  | 24 => .long
  | 25 => .long
  | 26 => .long
  | 27 => .array .long
  | 28 => .array .long
  | 29 => .array .long
  | 30 => .array .long
  | 31 => .array .long
  | 32 => .array .int
  | 33 => .array .int
  | 34 => .array .int
  | 35 => .int
  | 36 => .int
  | 37 => .boolean
  | 38 => .array .int
  | 39 => .array .int
  | 40 => .array .int
  | 41 => .array .int
  | 42 => .array .int
  | 43 => .array .int
  | 44 => .array .int
  | 45 => .array .int
  | 46 => .array .int
  | 47 => .array (.array .int)
  | 48 => .array (.array .int)
  | 49 => .array (.array .int)
  | 50 => .array (.array .int)
  | 51 => .array .int
  | 52 => .int
  | 53 => .int
  | 54 => .int
  | _ => .int
theorem nmX9 : ∀ a, a < 56 → ∀ b, b < 56 → a ≠ b → (TX9 a).2.1 ≠ (TX9 b).2.1 := by decide +kernel
theorem tyX9_ok : ∀ k, k < 56 → parseFieldDescriptor (TX9 k).2.2.1 = some (tyX9 k) := by decide +kernel
def tb_cl : List vw_C := [(RX0, TX0, 14), (RX1, TX1, 17), (RX2, TX2, 4), (RX3, TX3, 3), (RX4, TX4, 2), (RX5, TX5, 7), (RX6, TX6, 16), (RX7, TX7, 6), (RX8, TX8, 19), (RX9, TX9, 56)]
def tb_ty : Nat → Nat → FieldType := fun c => match c with
  | 0 => tyX0
  | 1 => tyX1
  | 2 => tyX2
  | 3 => tyX3
  | 4 => tyX4
  | 5 => tyX5
  | 6 => tyX6
  | 7 => tyX7
  | 8 => tyX8
  | 9 => tyX9
  | _ => fun _ => .int
def tb_cn : List String := ["HandshakeForgeLaw", "HandshakeForge", "HandshakeForge$Tape", "HandshakeForge$Circuit", "HandshakeForge$Names", "HandshakeForge$Compiler", "HandshakeForge$Tokens", "java/lang/String", "java/lang/StringLatin1", "jdk/internal/util/Preconditions", "HandshakeForge$Work", "HandshakeForge$Queue", "java/util/Arrays", "java/lang/Integer", "HandshakeForgeModel", "HandshakeForgeModel$Circuit"]
def tb_Ts : List Cond := lw_tbl.filter goodWord
def tb_nw : List Cond := lw_tbl.filter hm_nw
theorem tb_g {w : Cond} (h : w ∈ lw_tbl) (hg : goodWord w = true) : w ∈ tb_Ts := List.mem_filter.mpr ⟨h, hg⟩
theorem tb_n {w : Cond} (h : w ∈ lw_tbl) (hg : hm_nw w = true) : w ∈ tb_nw := List.mem_filter.mpr ⟨h, hg⟩
theorem tb_i0 {w : Cond} (h : w ∈ k2_sels lw_privs) : w ∈ lw_tbl := List.mem_append_left _ h
theorem tb_i1 {w : Cond} (h : w ∈ tables_1_1) : w ∈ lw_tbl := List.mem_append_right _ (show w ∈ tables_1 from List.mem_append_left _ h)
theorem tb_i2 {w : Cond} (h : w ∈ tables_1_2) : w ∈ lw_tbl := List.mem_append_right _ (show w ∈ tables_1 from List.mem_append_right _ (List.mem_append_left _ h))
theorem tb_i3 {w : Cond} (h : w ∈ tables_1_3) : w ∈ lw_tbl := List.mem_append_right _ (show w ∈ tables_1 from List.mem_append_right _ (List.mem_append_right _ (List.mem_append_left _ h)))
theorem tb_i4 {w : Cond} (h : w ∈ tables_1_4) : w ∈ lw_tbl := List.mem_append_right _ (show w ∈ tables_1 from List.mem_append_right _ (List.mem_append_right _ (List.mem_append_right _ (List.mem_append_left _ h))))
theorem tb_i5 {w : Cond} (h : w ∈ tables_1_5) : w ∈ lw_tbl := List.mem_append_right _ (show w ∈ tables_1 from List.mem_append_right _ (List.mem_append_right _ (List.mem_append_right _ (List.mem_append_right _ (List.mem_append_left _ h)))))
theorem tb_i6 {w : Cond} (h : w ∈ tables_1_6) : w ∈ lw_tbl := List.mem_append_right _ (show w ∈ tables_1 from List.mem_append_right _ (List.mem_append_right _ (List.mem_append_right _ (List.mem_append_right _ (List.mem_append_right _ (h))))))
theorem tb_words : (∀ w ∈ tb_Ts, goodWord w = true) ∧ ∀ w ∈ tb_nw, hm_nw w = true := ⟨fun _ h => (List.mem_filter.mp h).2, fun _ h => (List.mem_filter.mp h).2⟩
set_option maxRecDepth 20000 in
theorem tb_cls : hm_cls tb_cl tb_ty tb_Ts := by
  intro ci q h
  match ci, h with
  | 0, h =>
    cases h
    refine ⟨?_, tyX0_ok, nmX0⟩
    show ∀ w ∈ u_ws RX0 TX0 14, w ∈ tb_Ts
    intro w hw
    obtain ⟨k, hk, rfl⟩ := List.mem_map.mp hw
    have hk := List.mem_range.mp hk
    match k, hk with
    | 0, _ => exact (tb_g (tb_i1 (List.mem_of_getElem? (i := 104) (by decide +kernel))) (by decide +kernel))
    | 1, _ => exact (tb_g (tb_i1 (List.mem_of_getElem? (i := 106) (by decide +kernel))) (by decide +kernel))
    | 2, _ => exact (tb_g (tb_i1 (List.mem_of_getElem? (i := 108) (by decide +kernel))) (by decide +kernel))
    | 3, _ => exact (tb_g (tb_i1 (List.mem_of_getElem? (i := 110) (by decide +kernel))) (by decide +kernel))
    | 4, _ => exact (tb_g (tb_i1 (List.mem_of_getElem? (i := 112) (by decide +kernel))) (by decide +kernel))
    | 5, _ => exact (tb_g (tb_i1 (List.mem_of_getElem? (i := 114) (by decide +kernel))) (by decide +kernel))
    | 6, _ => exact (tb_g (tb_i1 (List.mem_of_getElem? (i := 116) (by decide +kernel))) (by decide +kernel))
    | 7, _ => exact (tb_g (tb_i1 (List.mem_of_getElem? (i := 118) (by decide +kernel))) (by decide +kernel))
    | 8, _ => exact (tb_g (tb_i1 (List.mem_of_getElem? (i := 120) (by decide +kernel))) (by decide +kernel))
    | 9, _ => exact (tb_g (tb_i1 (List.mem_of_getElem? (i := 122) (by decide +kernel))) (by decide +kernel))
    | 10, _ => exact (tb_g (tb_i1 (List.mem_of_getElem? (i := 124) (by decide +kernel))) (by decide +kernel))
    | 11, _ => exact (tb_g (tb_i1 (List.mem_of_getElem? (i := 126) (by decide +kernel))) (by decide +kernel))
    | 12, _ => exact (tb_g (tb_i1 (List.mem_of_getElem? (i := 128) (by decide +kernel))) (by decide +kernel))
    | 13, _ => exact (tb_g (tb_i1 (List.mem_of_getElem? (i := 130) (by decide +kernel))) (by decide +kernel))
    | k + 14, hk => exact absurd hk (by omega)
  | 1, h =>
    cases h
    refine ⟨?_, tyX1_ok, nmX1⟩
    show ∀ w ∈ u_ws RX1 TX1 17, w ∈ tb_Ts
    intro w hw
    obtain ⟨k, hk, rfl⟩ := List.mem_map.mp hw
    have hk := List.mem_range.mp hk
    match k, hk with
    | 0, _ => exact (tb_g (tb_i1 (List.mem_of_getElem? (i := 235) (by decide +kernel))) (by decide +kernel))
    | 1, _ => exact (tb_g (tb_i1 (List.mem_of_getElem? (i := 237) (by decide +kernel))) (by decide +kernel))
    | 2, _ => exact (tb_g (tb_i1 (List.mem_of_getElem? (i := 239) (by decide +kernel))) (by decide +kernel))
    | 3, _ => exact (tb_g (tb_i2 (List.mem_of_getElem? (i := 1) (by decide +kernel))) (by decide +kernel))
    | 4, _ => exact (tb_g (tb_i2 (List.mem_of_getElem? (i := 3) (by decide +kernel))) (by decide +kernel))
    | 5, _ => exact (tb_g (tb_i2 (List.mem_of_getElem? (i := 5) (by decide +kernel))) (by decide +kernel))
    | 6, _ => exact (tb_g (tb_i2 (List.mem_of_getElem? (i := 7) (by decide +kernel))) (by decide +kernel))
    | 7, _ => exact (tb_g (tb_i2 (List.mem_of_getElem? (i := 9) (by decide +kernel))) (by decide +kernel))
    | 8, _ => exact (tb_g (tb_i2 (List.mem_of_getElem? (i := 11) (by decide +kernel))) (by decide +kernel))
    | 9, _ => exact (tb_g (tb_i2 (List.mem_of_getElem? (i := 13) (by decide +kernel))) (by decide +kernel))
    | 10, _ => exact (tb_g (tb_i2 (List.mem_of_getElem? (i := 15) (by decide +kernel))) (by decide +kernel))
    | 11, _ => exact (tb_g (tb_i2 (List.mem_of_getElem? (i := 17) (by decide +kernel))) (by decide +kernel))
    | 12, _ => exact (tb_g (tb_i2 (List.mem_of_getElem? (i := 19) (by decide +kernel))) (by decide +kernel))
    | 13, _ => exact (tb_g (tb_i2 (List.mem_of_getElem? (i := 21) (by decide +kernel))) (by decide +kernel))
    | 14, _ => exact (tb_g (tb_i2 (List.mem_of_getElem? (i := 23) (by decide +kernel))) (by decide +kernel))
    | 15, _ => exact (tb_g (tb_i2 (List.mem_of_getElem? (i := 25) (by decide +kernel))) (by decide +kernel))
    | 16, _ => exact (tb_g (tb_i2 (List.mem_of_getElem? (i := 27) (by decide +kernel))) (by decide +kernel))
    | k + 17, hk => exact absurd hk (by omega)
  | 2, h =>
    cases h
    refine ⟨?_, tyX2_ok, nmX2⟩
    show ∀ w ∈ u_ws RX2 TX2 4, w ∈ tb_Ts
    intro w hw
    obtain ⟨k, hk, rfl⟩ := List.mem_map.mp hw
    have hk := List.mem_range.mp hk
    match k, hk with
    | 0, _ => exact (tb_g (tb_i1 (List.mem_of_getElem? (i := 64) (by decide +kernel))) (by decide +kernel))
    | 1, _ => exact (tb_g (tb_i1 (List.mem_of_getElem? (i := 66) (by decide +kernel))) (by decide +kernel))
    | 2, _ => exact (tb_g (tb_i1 (List.mem_of_getElem? (i := 68) (by decide +kernel))) (by decide +kernel))
    | 3, _ => exact (tb_g (tb_i1 (List.mem_of_getElem? (i := 70) (by decide +kernel))) (by decide +kernel))
    | k + 4, hk => exact absurd hk (by omega)
  | 3, h =>
    cases h
    refine ⟨?_, tyX3_ok, nmX3⟩
    show ∀ w ∈ u_ws RX3 TX3 3, w ∈ tb_Ts
    intro w hw
    obtain ⟨k, hk, rfl⟩ := List.mem_map.mp hw
    have hk := List.mem_range.mp hk
    match k, hk with
    | 0, _ => exact (tb_g (tb_i2 (List.mem_of_getElem? (i := 48) (by decide +kernel))) (by decide +kernel))
    | 1, _ => exact (tb_g (tb_i2 (List.mem_of_getElem? (i := 50) (by decide +kernel))) (by decide +kernel))
    | 2, _ => exact (tb_g (tb_i2 (List.mem_of_getElem? (i := 52) (by decide +kernel))) (by decide +kernel))
    | k + 3, hk => exact absurd hk (by omega)
  | 4, h =>
    cases h
    refine ⟨?_, tyX4_ok, nmX4⟩
    show ∀ w ∈ u_ws RX4 TX4 2, w ∈ tb_Ts
    intro w hw
    obtain ⟨k, hk, rfl⟩ := List.mem_map.mp hw
    have hk := List.mem_range.mp hk
    match k, hk with
    | 0, _ => exact (tb_g (tb_i1 (List.mem_of_getElem? (i := 41) (by decide +kernel))) (by decide +kernel))
    | 1, _ => exact (tb_g (tb_i1 (List.mem_of_getElem? (i := 43) (by decide +kernel))) (by decide +kernel))
    | k + 2, hk => exact absurd hk (by omega)
  | 5, h =>
    cases h
    refine ⟨?_, tyX5_ok, nmX5⟩
    show ∀ w ∈ u_ws RX5 TX5 7, w ∈ tb_Ts
    intro w hw
    obtain ⟨k, hk, rfl⟩ := List.mem_map.mp hw
    have hk := List.mem_range.mp hk
    match k, hk with
    | 0, _ => exact (tb_g (tb_i1 (List.mem_of_getElem? (i := 201) (by decide +kernel))) (by decide +kernel))
    | 1, _ => exact (tb_g (tb_i1 (List.mem_of_getElem? (i := 203) (by decide +kernel))) (by decide +kernel))
    | 2, _ => exact (tb_g (tb_i1 (List.mem_of_getElem? (i := 205) (by decide +kernel))) (by decide +kernel))
    | 3, _ => exact (tb_g (tb_i1 (List.mem_of_getElem? (i := 207) (by decide +kernel))) (by decide +kernel))
    | 4, _ => exact (tb_g (tb_i1 (List.mem_of_getElem? (i := 209) (by decide +kernel))) (by decide +kernel))
    | 5, _ => exact (tb_g (tb_i1 (List.mem_of_getElem? (i := 211) (by decide +kernel))) (by decide +kernel))
    | 6, _ => exact (tb_g (tb_i1 (List.mem_of_getElem? (i := 213) (by decide +kernel))) (by decide +kernel))
    | k + 7, hk => exact absurd hk (by omega)
  | 6, h =>
    cases h
    refine ⟨?_, tyX6_ok, nmX6⟩
    show ∀ w ∈ u_ws RX6 TX6 16, w ∈ tb_Ts
    intro w hw
    obtain ⟨k, hk, rfl⟩ := List.mem_map.mp hw
    have hk := List.mem_range.mp hk
    match k, hk with
    | 0, _ => exact (tb_g (tb_i2 (List.mem_of_getElem? (i := 75) (by decide +kernel))) (by decide +kernel))
    | 1, _ => exact (tb_g (tb_i2 (List.mem_of_getElem? (i := 77) (by decide +kernel))) (by decide +kernel))
    | 2, _ => exact (tb_g (tb_i2 (List.mem_of_getElem? (i := 79) (by decide +kernel))) (by decide +kernel))
    | 3, _ => exact (tb_g (tb_i2 (List.mem_of_getElem? (i := 81) (by decide +kernel))) (by decide +kernel))
    | 4, _ => exact (tb_g (tb_i2 (List.mem_of_getElem? (i := 83) (by decide +kernel))) (by decide +kernel))
    | 5, _ => exact (tb_g (tb_i2 (List.mem_of_getElem? (i := 85) (by decide +kernel))) (by decide +kernel))
    | 6, _ => exact (tb_g (tb_i2 (List.mem_of_getElem? (i := 87) (by decide +kernel))) (by decide +kernel))
    | 7, _ => exact (tb_g (tb_i2 (List.mem_of_getElem? (i := 89) (by decide +kernel))) (by decide +kernel))
    | 8, _ => exact (tb_g (tb_i2 (List.mem_of_getElem? (i := 91) (by decide +kernel))) (by decide +kernel))
    | 9, _ => exact (tb_g (tb_i2 (List.mem_of_getElem? (i := 93) (by decide +kernel))) (by decide +kernel))
    | 10, _ => exact (tb_g (tb_i2 (List.mem_of_getElem? (i := 95) (by decide +kernel))) (by decide +kernel))
    | 11, _ => exact (tb_g (tb_i2 (List.mem_of_getElem? (i := 97) (by decide +kernel))) (by decide +kernel))
    | 12, _ => exact (tb_g (tb_i2 (List.mem_of_getElem? (i := 99) (by decide +kernel))) (by decide +kernel))
    | 13, _ => exact (tb_g (tb_i2 (List.mem_of_getElem? (i := 101) (by decide +kernel))) (by decide +kernel))
    | 14, _ => exact (tb_g (tb_i2 (List.mem_of_getElem? (i := 103) (by decide +kernel))) (by decide +kernel))
    | 15, _ => exact (tb_g (tb_i2 (List.mem_of_getElem? (i := 105) (by decide +kernel))) (by decide +kernel))
    | k + 16, hk => exact absurd hk (by omega)
  | 7, h =>
    cases h
    refine ⟨?_, tyX7_ok, nmX7⟩
    show ∀ w ∈ u_ws RX7 TX7 6, w ∈ tb_Ts
    intro w hw
    obtain ⟨k, hk, rfl⟩ := List.mem_map.mp hw
    have hk := List.mem_range.mp hk
    match k, hk with
    | 0, _ => exact (tb_g (tb_i2 (List.mem_of_getElem? (i := 114) (by decide +kernel))) (by decide +kernel))
    | 1, _ => exact (tb_g (tb_i2 (List.mem_of_getElem? (i := 116) (by decide +kernel))) (by decide +kernel))
    | 2, _ => exact (tb_g (tb_i2 (List.mem_of_getElem? (i := 118) (by decide +kernel))) (by decide +kernel))
    | 3, _ => exact (tb_g (tb_i2 (List.mem_of_getElem? (i := 120) (by decide +kernel))) (by decide +kernel))
    | 4, _ => exact (tb_g (tb_i2 (List.mem_of_getElem? (i := 122) (by decide +kernel))) (by decide +kernel))
    | 5, _ => exact (tb_g (tb_i2 (List.mem_of_getElem? (i := 124) (by decide +kernel))) (by decide +kernel))
    | k + 6, hk => exact absurd hk (by omega)
  | 8, h =>
    cases h
    refine ⟨?_, tyX8_ok, nmX8⟩
    show ∀ w ∈ u_ws RX8 TX8 19, w ∈ tb_Ts
    intro w hw
    obtain ⟨k, hk, rfl⟩ := List.mem_map.mp hw
    have hk := List.mem_range.mp hk
    match k, hk with
    | 0, _ => exact (tb_g (tb_i4 (List.mem_of_getElem? (i := 170) (by decide +kernel))) (by decide +kernel))
    | 1, _ => exact (tb_g (tb_i4 (List.mem_of_getElem? (i := 172) (by decide +kernel))) (by decide +kernel))
    | 2, _ => exact (tb_g (tb_i4 (List.mem_of_getElem? (i := 174) (by decide +kernel))) (by decide +kernel))
    | 3, _ => exact (tb_g (tb_i4 (List.mem_of_getElem? (i := 176) (by decide +kernel))) (by decide +kernel))
    | 4, _ => exact (tb_g (tb_i4 (List.mem_of_getElem? (i := 178) (by decide +kernel))) (by decide +kernel))
    | 5, _ => exact (tb_g (tb_i4 (List.mem_of_getElem? (i := 180) (by decide +kernel))) (by decide +kernel))
    | 6, _ => exact (tb_g (tb_i4 (List.mem_of_getElem? (i := 182) (by decide +kernel))) (by decide +kernel))
    | 7, _ => exact (tb_g (tb_i4 (List.mem_of_getElem? (i := 184) (by decide +kernel))) (by decide +kernel))
    | 8, _ => exact (tb_g (tb_i4 (List.mem_of_getElem? (i := 186) (by decide +kernel))) (by decide +kernel))
    | 9, _ => exact (tb_g (tb_i4 (List.mem_of_getElem? (i := 188) (by decide +kernel))) (by decide +kernel))
    | 10, _ => exact (tb_g (tb_i4 (List.mem_of_getElem? (i := 190) (by decide +kernel))) (by decide +kernel))
    | 11, _ => exact (tb_g (tb_i4 (List.mem_of_getElem? (i := 192) (by decide +kernel))) (by decide +kernel))
    | 12, _ => exact (tb_g (tb_i4 (List.mem_of_getElem? (i := 194) (by decide +kernel))) (by decide +kernel))
    | 13, _ => exact (tb_g (tb_i4 (List.mem_of_getElem? (i := 196) (by decide +kernel))) (by decide +kernel))
    | 14, _ => exact (tb_g (tb_i4 (List.mem_of_getElem? (i := 198) (by decide +kernel))) (by decide +kernel))
    | 15, _ => exact (tb_g (tb_i4 (List.mem_of_getElem? (i := 200) (by decide +kernel))) (by decide +kernel))
    | 16, _ => exact (tb_g (tb_i4 (List.mem_of_getElem? (i := 202) (by decide +kernel))) (by decide +kernel))
    | 17, _ => exact (tb_g (tb_i4 (List.mem_of_getElem? (i := 204) (by decide +kernel))) (by decide +kernel))
    | 18, _ => exact (tb_g (tb_i4 (List.mem_of_getElem? (i := 206) (by decide +kernel))) (by decide +kernel))
    | k + 19, hk => exact absurd hk (by omega)
  | 9, h =>
    cases h
    refine ⟨?_, tyX9_ok, nmX9⟩
    show ∀ w ∈ u_ws RX9 TX9 56, w ∈ tb_Ts
    intro w hw
    obtain ⟨k, hk, rfl⟩ := List.mem_map.mp hw
    have hk := List.mem_range.mp hk
    match k, hk with
    | 0, _ => exact (tb_g (tb_i5 (List.mem_of_getElem? (i := 27) (by decide +kernel))) (by decide +kernel))
    | 1, _ => exact (tb_g (tb_i5 (List.mem_of_getElem? (i := 29) (by decide +kernel))) (by decide +kernel))
    | 2, _ => exact (tb_g (tb_i5 (List.mem_of_getElem? (i := 31) (by decide +kernel))) (by decide +kernel))
    | 3, _ => exact (tb_g (tb_i5 (List.mem_of_getElem? (i := 33) (by decide +kernel))) (by decide +kernel))
    | 4, _ => exact (tb_g (tb_i5 (List.mem_of_getElem? (i := 35) (by decide +kernel))) (by decide +kernel))
    | 5, _ => exact (tb_g (tb_i5 (List.mem_of_getElem? (i := 37) (by decide +kernel))) (by decide +kernel))
    | 6, _ => exact (tb_g (tb_i5 (List.mem_of_getElem? (i := 39) (by decide +kernel))) (by decide +kernel))
    | 7, _ => exact (tb_g (tb_i5 (List.mem_of_getElem? (i := 41) (by decide +kernel))) (by decide +kernel))
    | 8, _ => exact (tb_g (tb_i5 (List.mem_of_getElem? (i := 43) (by decide +kernel))) (by decide +kernel))
    | 9, _ => exact (tb_g (tb_i5 (List.mem_of_getElem? (i := 45) (by decide +kernel))) (by decide +kernel))
    | 10, _ => exact (tb_g (tb_i5 (List.mem_of_getElem? (i := 47) (by decide +kernel))) (by decide +kernel))
    | 11, _ => exact (tb_g (tb_i5 (List.mem_of_getElem? (i := 49) (by decide +kernel))) (by decide +kernel))
    | 12, _ => exact (tb_g (tb_i5 (List.mem_of_getElem? (i := 51) (by decide +kernel))) (by decide +kernel))
    | 13, _ => exact (tb_g (tb_i5 (List.mem_of_getElem? (i := 53) (by decide +kernel))) (by decide +kernel))
    | 14, _ => exact (tb_g (tb_i5 (List.mem_of_getElem? (i := 55) (by decide +kernel))) (by decide +kernel))
    | 15, _ => exact (tb_g (tb_i5 (List.mem_of_getElem? (i := 57) (by decide +kernel))) (by decide +kernel))
    | 16, _ => exact (tb_g (tb_i5 (List.mem_of_getElem? (i := 59) (by decide +kernel))) (by decide +kernel))
    | 17, _ => exact (tb_g (tb_i5 (List.mem_of_getElem? (i := 61) (by decide +kernel))) (by decide +kernel))
    | 18, _ => exact (tb_g (tb_i5 (List.mem_of_getElem? (i := 63) (by decide +kernel))) (by decide +kernel))
    | 19, _ => exact (tb_g (tb_i5 (List.mem_of_getElem? (i := 65) (by decide +kernel))) (by decide +kernel))
    | 20, _ => exact (tb_g (tb_i5 (List.mem_of_getElem? (i := 67) (by decide +kernel))) (by decide +kernel))
    | 21, _ => exact (tb_g (tb_i5 (List.mem_of_getElem? (i := 69) (by decide +kernel))) (by decide +kernel))
    | 22, _ => exact (tb_g (tb_i5 (List.mem_of_getElem? (i := 71) (by decide +kernel))) (by decide +kernel))
    | 23, _ => exact (tb_g (tb_i5 (List.mem_of_getElem? (i := 73) (by decide +kernel))) (by decide +kernel))
    | 24, _ => exact (tb_g (tb_i5 (List.mem_of_getElem? (i := 75) (by decide +kernel))) (by decide +kernel))
    | 25, _ => exact (tb_g (tb_i5 (List.mem_of_getElem? (i := 77) (by decide +kernel))) (by decide +kernel))
    | 26, _ => exact (tb_g (tb_i5 (List.mem_of_getElem? (i := 79) (by decide +kernel))) (by decide +kernel))
    | 27, _ => exact (tb_g (tb_i5 (List.mem_of_getElem? (i := 81) (by decide +kernel))) (by decide +kernel))
    | 28, _ => exact (tb_g (tb_i5 (List.mem_of_getElem? (i := 83) (by decide +kernel))) (by decide +kernel))
    | 29, _ => exact (tb_g (tb_i5 (List.mem_of_getElem? (i := 85) (by decide +kernel))) (by decide +kernel))
    | 30, _ => exact (tb_g (tb_i5 (List.mem_of_getElem? (i := 87) (by decide +kernel))) (by decide +kernel))
    | 31, _ => exact (tb_g (tb_i5 (List.mem_of_getElem? (i := 89) (by decide +kernel))) (by decide +kernel))
    | 32, _ => exact (tb_g (tb_i5 (List.mem_of_getElem? (i := 91) (by decide +kernel))) (by decide +kernel))
    | 33, _ => exact (tb_g (tb_i5 (List.mem_of_getElem? (i := 93) (by decide +kernel))) (by decide +kernel))
    | 34, _ => exact (tb_g (tb_i5 (List.mem_of_getElem? (i := 95) (by decide +kernel))) (by decide +kernel))
    | 35, _ => exact (tb_g (tb_i5 (List.mem_of_getElem? (i := 97) (by decide +kernel))) (by decide +kernel))
    | 36, _ => exact (tb_g (tb_i5 (List.mem_of_getElem? (i := 99) (by decide +kernel))) (by decide +kernel))
    | 37, _ => exact (tb_g (tb_i5 (List.mem_of_getElem? (i := 101) (by decide +kernel))) (by decide +kernel))
    | 38, _ => exact (tb_g (tb_i5 (List.mem_of_getElem? (i := 103) (by decide +kernel))) (by decide +kernel))
    | 39, _ => exact (tb_g (tb_i5 (List.mem_of_getElem? (i := 105) (by decide +kernel))) (by decide +kernel))
    | 40, _ => exact (tb_g (tb_i5 (List.mem_of_getElem? (i := 107) (by decide +kernel))) (by decide +kernel))
    | 41, _ => exact (tb_g (tb_i5 (List.mem_of_getElem? (i := 109) (by decide +kernel))) (by decide +kernel))
    | 42, _ => exact (tb_g (tb_i5 (List.mem_of_getElem? (i := 111) (by decide +kernel))) (by decide +kernel))
    | 43, _ => exact (tb_g (tb_i5 (List.mem_of_getElem? (i := 113) (by decide +kernel))) (by decide +kernel))
    | 44, _ => exact (tb_g (tb_i5 (List.mem_of_getElem? (i := 115) (by decide +kernel))) (by decide +kernel))
    | 45, _ => exact (tb_g (tb_i5 (List.mem_of_getElem? (i := 117) (by decide +kernel))) (by decide +kernel))
    | 46, _ => exact (tb_g (tb_i5 (List.mem_of_getElem? (i := 119) (by decide +kernel))) (by decide +kernel))
    | 47, _ => exact (tb_g (tb_i5 (List.mem_of_getElem? (i := 121) (by decide +kernel))) (by decide +kernel))
    | 48, _ => exact (tb_g (tb_i5 (List.mem_of_getElem? (i := 123) (by decide +kernel))) (by decide +kernel))
    | 49, _ => exact (tb_g (tb_i5 (List.mem_of_getElem? (i := 125) (by decide +kernel))) (by decide +kernel))
    | 50, _ => exact (tb_g (tb_i5 (List.mem_of_getElem? (i := 127) (by decide +kernel))) (by decide +kernel))
    | 51, _ => exact (tb_g (tb_i5 (List.mem_of_getElem? (i := 129) (by decide +kernel))) (by decide +kernel))
    | 52, _ => exact (tb_g (tb_i5 (List.mem_of_getElem? (i := 131) (by decide +kernel))) (by decide +kernel))
    | 53, _ => exact (tb_g (tb_i5 (List.mem_of_getElem? (i := 133) (by decide +kernel))) (by decide +kernel))
    | 54, _ => exact (tb_g (tb_i5 (List.mem_of_getElem? (i := 135) (by decide +kernel))) (by decide +kernel))
    | 55, _ => exact (tb_g (tb_i5 (List.mem_of_getElem? (i := 137) (by decide +kernel))) (by decide +kernel))
    | k + 56, hk => exact absurd hk (by omega)
  | ci + 10, h => simp [tb_cl] at h
