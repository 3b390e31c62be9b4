def tb_fl : List Cond := flatC (Jvm.Cond.and given_1 narrow_1)
/-- the texts: whose pool, entry, text, bytes; then where the Statement speaks of them -/
def tb_tx : List (String × Nat × String × List Int32) := [("HandshakeForge$Tokens", 36, "var int array chan in out proc fun if else while repeat par return skip ", [118, 97, 114, 32, 105, 110, 116, 32, 97, 114, 114, 97, 121, 32, 99, 104, 97, 110, 32, 105, 110, 32, 111, 117, 116, 32, 112, 114, 111, 99, 32, 102, 117, 110, 32, 105, 102, 32, 101, 108, 115, 101, 32, 119, 104, 105, 108, 101, 32, 114, 101, 112, 101, 97, 116, 32, 112, 97, 114, 32, 114, 101, 116, 117, 114, 110, 32, 115, 107, 105, 112, 32]), ("HandshakeForgeModel", 1, " var int array chan in out proc fun if else while repeat par return skip ", [32, 118, 97, 114, 32, 105, 110, 116, 32, 97, 114, 114, 97, 121, 32, 99, 104, 97, 110, 32, 105, 110, 32, 111, 117, 116, 32, 112, 114, 111, 99, 32, 102, 117, 110, 32, 105, 102, 32, 101, 108, 115, 101, 32, 119, 104, 105, 108, 101, 32, 114, 101, 112, 101, 97, 116, 32, 112, 97, 114, 32, 114, 101, 116, 117, 114, 110, 32, 115, 107, 105, 112, 32]), ("HandshakeForgeModel", 159, "var", [118, 97, 114]), ("HandshakeForgeModel", 161, "int", [105, 110, 116]), ("HandshakeForgeModel", 163, "array", [97, 114, 114, 97, 121]), ("HandshakeForgeModel", 165, "chan", [99, 104, 97, 110]), ("HandshakeForgeModel", 167, "in", [105, 110]), ("HandshakeForgeModel", 169, "out", [111, 117, 116]), ("HandshakeForgeModel", 171, "proc", [112, 114, 111, 99]), ("HandshakeForgeModel", 173, "fun", [102, 117, 110]), ("HandshakeForgeModel", 277, "(", [40]), ("HandshakeForgeModel", 279, ")", [41]), ("HandshakeForgeModel", 281, ",", [44]), ("HandshakeForgeModel", 305, "{", [123]), ("HandshakeForgeModel", 245, ";", [59]), ("HandshakeForgeModel", 315, "}", [125]), ("HandshakeForgeModel", 317, "skip", [115, 107, 105, 112]), ("HandshakeForgeModel", 322, "if", [105, 102]), ("HandshakeForgeModel", 394, "-", [45]), ("HandshakeForgeModel", 411, "~", [126]), ("HandshakeForgeModel", 366, "!", [33]), ("HandshakeForgeModel", 269, "]", [93]), ("HandshakeForgeModel", 368, "||", [124, 124]), ("HandshakeForgeModel", 370, "&&", [38, 38]), ("HandshakeForgeModel", 348, "|", [124]), ("HandshakeForgeModel", 372, "^", [94]), ("HandshakeForgeModel", 374, "&", [38]), ("HandshakeForgeModel", 376, "==", [61, 61]), ("HandshakeForgeModel", 378, "!=", [33, 61]), ("HandshakeForgeModel", 380, "<", [60]), ("HandshakeForgeModel", 382, "<=", [60, 61]), ("HandshakeForgeModel", 384, ">", [62]), ("HandshakeForgeModel", 386, ">=", [62, 61]), ("HandshakeForgeModel", 388, "<<", [60, 60]), ("HandshakeForgeModel", 390, ">>", [62, 62]), ("HandshakeForgeModel", 392, "+", [43]), ("HandshakeForgeModel", 396, "*", [42]), ("HandshakeForgeModel", 398, "/", [47]), ("HandshakeForgeModel", 400, "%", [37]), ("HandshakeForgeModel", 343, "else", [101, 108, 115, 101]), ("HandshakeForgeModel", 327, "while", [119, 104, 105, 108, 101]), ("HandshakeForgeModel", 332, "repeat", [114, 101, 112, 101, 97, 116]), ("HandshakeForgeModel", 336, "par", [112, 97, 114]), ("HandshakeForgeModel", 361, "=", [61]), ("HandshakeForgeModel", 307, "return", [114, 101, 116, 117, 114, 110]), ("HandshakeForgeModel", 250, ":", [58]), ("HandshakeForgeModel", 257, "[", [91])]
def tb_p1 : List Nat := [30, 106, 183, 190, 197, 206, 214, 220, 227, 235, 242, 247, 252, 257, 262, 267, 272, 280, 286, 291, 296, 301, 306, 312, 318, 323, 328, 333, 339, 345, 350, 356, 361, 367, 373, 379, 384, 389, 394, 399, 407, 416, 426, 433, 438, 448, 453]
def tb_p2 : List Nat := [31, 107, 184, 191, 198, 207, 215, 221, 228, 236, 243, 248, 253, 258, 263, 268, 273, 281, 287, 292, 297, 302, 307, 313, 319, 324, 329, 334, 340, 346, 351, 357, 362, 368, 374, 380, 385, 390, 395, 400, 408, 417, 427, 434, 439, 449, 454]
def tb_p3 : List Nat := [32, 108, 185, 192, 199, 208, 216, 222, 229, 237, 244, 249, 254, 259, 264, 269, 274, 282, 288, 293, 298, 303, 308, 314, 320, 325, 330, 335, 341, 347, 352, 358, 363, 369, 375, 381, 386, 391, 396, 401, 409, 418, 428, 435, 440, 450, 455]
def tb_p4 : List Nat := [33, 109, 186, 193, 200, 209, 217, 223, 230, 238, 245, 250, 255, 260, 265, 270, 275, 283, 289, 294, 299, 304, 309, 315, 321, 326, 331, 336, 342, 348, 353, 359, 364, 370, 376, 382, 387, 392, 397, 402, 410, 419, 429, 436, 441, 451, 456]
def tb_p5 : List (List Nat) := [[34, 35, 36, 37, 38, 39, 40, 41, 42, 43, 44, 45, 46, 47, 48, 49, 50, 51, 52, 53, 54, 55, 56, 57, 58, 59, 60, 61, 62, 63, 64, 65, 66, 67, 68, 69, 70, 71, 72, 73, 74, 75, 76, 77, 78, 79, 80, 81, 82, 83, 84, 85, 86, 87, 88, 89, 90, 91, 92, 93, 94, 95, 96, 97, 98, 99, 100, 101, 102, 103, 104, 105], [110, 111, 112, 113, 114, 115, 116, 117, 118, 119, 120, 121, 122, 123, 124, 125, 126, 127, 128, 129, 130, 131, 132, 133, 134, 135, 136, 137, 138, 139, 140, 141, 142, 143, 144, 145, 146, 147, 148, 149, 150, 151, 152, 153, 154, 155, 156, 157, 158, 159, 160, 161, 162, 163, 164, 165, 166, 167, 168, 169, 170, 171, 172, 173, 174, 175, 176, 177, 178, 179, 180, 181, 182], [187, 188, 189], [194, 195, 196], [201, 202, 203, 204, 205], [210, 211, 212, 213], [218, 219], [224, 225, 226], [231, 232, 233, 234], [239, 240, 241], [246], [251], [256], [261], [266], [271], [276, 277, 278, 279], [284, 285], [290], [295], [300], [305], [310, 311], [316, 317], [322], [327], [332], [337, 338], [343, 344], [349], [354, 355], [360], [365, 366], [371, 372], [377, 378], [383], [388], [393], [398], [403, 404, 405, 406], [411, 412, 413, 414, 415], [420, 421, 422, 423, 424, 425], [430, 431, 432], [437], [442, 443, 444, 445, 446, 447], [452], [457]]
def tb_tm (t : String × Nat × String × List Int32) : Term := .string t.1 t.2.1
def tb_tv (t : String × Nat × String × List Int32) : Term := .field (tb_tm t) "java/lang/String" "value" "[B"
/-- what the Statement says of a text -/
def tb_tok (i : Nat) (t : String × Nat × String × List Int32) : Bool :=
  decide (tb_fl[tb_p1.getD i 0]? = some (Cond.exactly (tb_tm t) "java/lang/String")) && decide (tb_fl[tb_p2.getD i 0]? = some (Cond.eq (.field (tb_tm t) "java/lang/String" "coder" "B") (.int 0))) && decide (tb_fl[tb_p3.getD i 0]? = some (Cond.arrayOf (tb_tv t) .byte)) && decide (tb_fl[tb_p4.getD i 0]? = some (Cond.eq (.length (tb_tv t)) (.int (Int32.ofNat t.2.2.2.length)))) && decide (t.2.2.2.length < 2 ^ 31) && (List.range t.2.2.2.length).all fun j => decide (tb_fl[(tb_p5.getD i []).getD j 0]? = some (Cond.eq (.elem (tb_tv t) (.int (Int32.ofNat j))) (.int (t.2.2.2.getD j 0))))
set_option maxRecDepth 100000 in
theorem tb_toks : (List.range tb_tx.length).all (fun i => match tb_tx[i]? with
  | some t => tb_tok i t
  | none => true) = true := by decide +kernel
set_option maxRecDepth 100000 in
theorem tb_inst : ∀ (ci : Nat) (q : vw_C), tb_cl[ci]? = some q → Cond.instantiable q.1 q.2.2 ∈ tb_Ts := by
  intro ci q h
  match ci, h with
  | 0, h => cases h; exact (tb_g (tb_i1 (List.mem_of_getElem? (i := 48) (by decide +kernel))) (by decide +kernel))
  | 1, h => cases h; exact (tb_g (tb_i1 (List.mem_of_getElem? (i := 134) (by decide +kernel))) (by decide +kernel))
  | 2, h => cases h; exact (tb_g (tb_i1 (List.mem_of_getElem? (i := 54) (by decide +kernel))) (by decide +kernel))
  | 3, h => cases h; exact (tb_g (tb_i2 (List.mem_of_getElem? (i := 38) (by decide +kernel))) (by decide +kernel))
  | 4, h => cases h; exact (tb_g (tb_i1 (List.mem_of_getElem? (i := 32) (by decide +kernel))) (by decide +kernel))
  | 5, h => cases h; exact (tb_g (tb_i1 (List.mem_of_getElem? (i := 140) (by decide +kernel))) (by decide +kernel))
  | 6, h => cases h; exact (tb_g (tb_i2 (List.mem_of_getElem? (i := 31) (by decide +kernel))) (by decide +kernel))
  | 7, h => cases h; exact (tb_g (tb_i1 (List.mem_of_getElem? (i := 24) (by decide +kernel))) (by decide +kernel))
  | 8, h => cases h; exact (tb_g (tb_i4 (List.mem_of_getElem? (i := 138) (by decide +kernel))) (by decide +kernel))
  | 9, h => cases h; exact (tb_g (tb_i4 (List.mem_of_getElem? (i := 132) (by decide +kernel))) (by decide +kernel))
  | ci + 10, h => simp [tb_cl] at h
/-- the texts' own words -/
def tb_ps : List (Nat × Nat) := [(1, 145), (5, 173), (5, 181), (5, 186), (5, 187), (5, 188), (5, 189), (5, 190), (5, 191), (5, 192), (5, 225), (5, 230), (5, 231), (6, 4), (6, 9), (6, 10), (6, 15), (6, 20), (6, 33), (6, 34), (6, 35), (6, 56), (6, 61), (6, 62), (6, 63), (6, 64), (6, 65), (6, 66), (6, 67), (6, 68), (6, 69), (6, 70), (6, 71), (6, 72), (6, 73), (6, 74), (6, 75), (6, 76), (6, 77), (6, 82), (6, 83), (6, 88), (6, 93), (6, 106), (6, 115), (6, 116), (6, 118)]
def tb_lst (q : Nat) : List Cond := match q with
  | 1 => tables_1_1
  | 2 => tables_1_2
  | 3 => tables_1_3
  | 4 => tables_1_4
  | 5 => tables_1_5
  | 6 => tables_1_6
  | _ => []
theorem tb_lst_in {q : Nat} {w : Cond} (h : w ∈ tb_lst q) : w ∈ lw_tbl := by
  match q, h with
  | 1, h => exact tb_i1 h
  | 2, h => exact tb_i2 h
  | 3, h => exact tb_i3 h
  | 4, h => exact tb_i4 h
  | 5, h => exact tb_i5 h
  | 6, h => exact tb_i6 h
  | 0, h => cases h
  | q + 7, h => cases h
set_option maxRecDepth 100000 in
theorem tb_srs : (List.range tb_tx.length).all (fun i => match tb_tx[i]? with
  | some t => decide ((tb_lst (tb_ps.getD i (0, 0)).1)[(tb_ps.getD i (0, 0)).2]? = some (Cond.stringRef t.1 t.2.1 t.2.2.1))
  | none => true) = true := by decide +kernel
theorem tb_w1 : Cond.laysStatic "java/lang/String" "COMPACT_STRINGS" "Z" ∈ lw_tbl ∧ Cond.initialized "java/lang/String" ∈ lw_tbl := ⟨(tb_i1 (List.mem_of_getElem? (i := 155) (by decide +kernel))), (tb_i1 (List.mem_of_getElem? (i := 7) (by decide +kernel)))⟩
theorem tb_w2 : Cond.laysStatic "jdk/internal/util/Preconditions" "SIOOBE_FORMATTER" "Ljava/util/function/BiFunction;" ∈ lw_tbl ∧ Cond.initialized "jdk/internal/util/Preconditions" ∈ lw_tbl := ⟨(tb_i1 (List.mem_of_getElem? (i := 171) (by decide +kernel))), (tb_i1 (List.mem_of_getElem? (i := 9) (by decide +kernel)))⟩
theorem tb_w3 : Cond.laysStatic "HandshakeForge$Compiler" "LIMITS" "[I" ∈ lw_tbl ∧ Cond.initialized "HandshakeForge$Compiler" ∈ lw_tbl := ⟨(tb_i3 (List.mem_of_getElem? (i := 61) (by decide +kernel))), (tb_i1 (List.mem_of_getElem? (i := 5) (by decide +kernel)))⟩
theorem tb_w4 : Cond.laysStatic Bundle.tN "UNASSIGNED_STACK" Bundle.steD ∈ lw_tbl ∧ Cond.laysStatic Bundle.tN "SUPPRESSED_SENTINEL" Bundle.listD ∈ lw_tbl ∧ Cond.initialized Bundle.tN ∈ lw_tbl := ⟨(tb_i3 (List.mem_of_getElem? (i := 26) (by decide +kernel))), (tb_i3 (List.mem_of_getElem? (i := 28) (by decide +kernel))), (tb_i1 (List.mem_of_getElem? (i := 17) (by decide +kernel)))⟩
theorem tb_w5 : ∀ x ∈ tb_A, Cond.arrayOver (.object x.2.2) ∈ lw_tbl := by
  intro x hx
  obtain ⟨i, hi⟩ := List.getElem?_of_mem hx
  match i, hi with
  | 0, hi => cases hi; exact (tb_i2 (List.mem_of_getElem? (i := 37) (by decide +kernel)))
  | i + 1, hi => exact absurd hi (by simp [tb_A])
theorem tb_w6 : Cond.arrayOver (.array .int) ∈ lw_tbl := (tb_i4 (List.mem_of_getElem? (i := 210) (by decide +kernel)))
def tb_lim : List Int32 := [24, 6, 8, 4, 4, 12]
theorem tb_f1 : Cond.eq (.static "java/lang/String" "COMPACT_STRINGS" "Z") (.int 1) ∈ tb_fl := (List.mem_of_getElem? (i := 4) (by decide +kernel))
theorem tb_f2 : Cond.isRef (.static "jdk/internal/util/Preconditions" "SIOOBE_FORMATTER" "Ljava/util/function/BiFunction;") ∈ tb_fl := (List.mem_of_getElem? (i := 5) (by decide +kernel))
theorem tb_f3 : Cond.arrayOf (.static "HandshakeForge$Compiler" "LIMITS" "[I") .int ∈ tb_fl ∧ Cond.eq (.length (.static "HandshakeForge$Compiler" "LIMITS" "[I")) (.int (Int32.ofNat tb_lim.length)) ∈ tb_fl := ⟨(List.mem_of_getElem? (i := 12) (by decide +kernel)), (List.mem_of_getElem? (i := 13) (by decide +kernel))⟩
theorem tb_f4 : ∀ j, j < tb_lim.length → Cond.eq (.elem (.static "HandshakeForge$Compiler" "LIMITS" "[I") (.int (Int32.ofNat j))) (.int (tb_lim.getD j 0)) ∈ tb_fl := by
  intro j hj
  match j, hj with
  | 0, _ => exact (List.mem_of_getElem? (i := 14) (by decide +kernel))
  | 1, _ => exact (List.mem_of_getElem? (i := 15) (by decide +kernel))
  | 2, _ => exact (List.mem_of_getElem? (i := 16) (by decide +kernel))
  | 3, _ => exact (List.mem_of_getElem? (i := 17) (by decide +kernel))
  | 4, _ => exact (List.mem_of_getElem? (i := 18) (by decide +kernel))
  | 5, _ => exact (List.mem_of_getElem? (i := 19) (by decide +kernel))
  | j + 6, hj => exact absurd hj (by simp [tb_lim])
theorem tb_f5 : Cond.isRef (.static Bundle.tN "UNASSIGNED_STACK" Bundle.steD) ∈ tb_fl ∧ Cond.isRef (.static Bundle.tN "SUPPRESSED_SENTINEL" Bundle.listD) ∈ tb_fl := ⟨(List.mem_of_getElem? (i := 9) (by decide +kernel)), (List.mem_of_getElem? (i := 10) (by decide +kernel))⟩
