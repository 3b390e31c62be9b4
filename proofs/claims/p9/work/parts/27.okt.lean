def tb_Fz0 : List (Nat × Nat × Nat × Nat) := [(1, 12, 7, 0), (1, 19, 7, 1), (1, 23, 7, 2), (1, 26, 7, 3), (1, 35, 7, 4), (1, 44, 7, 5), (2, 9, 4, 0), (2, 15, 4, 1), (3, 9, 0, 0), (3, 15, 0, 1), (3, 18, 0, 2), (3, 21, 0, 3), (3, 24, 0, 4), (3, 30, 0, 5), (3, 34, 0, 6), (3, 37, 0, 7), (3, 40, 0, 8), (3, 43, 0, 9), (3, 46, 0, 10), (3, 49, 0, 11), (3, 52, 0, 12), (3, 56, 0, 13), (4, 9, 2, 0), (4, 15, 2, 1), (4, 19, 2, 2)]
set_option maxRecDepth 20000 in
theorem tb_okF_0 : ∀ x ∈ tb_Fz0, ∃ (q : vw_C) (own : String), tb_cl[x.2.2.1]? = some q ∧ x.2.2.2 < q.2.2 ∧ tb_cn[x.1]? = some own ∧ ((Cond.fieldLink own x.2.1 (q.2.1 x.2.2.2).1 (q.2.1 x.2.2.2).2.1 (q.2.1 x.2.2.2).2.2.1) ∈ tb_Ts ∨ ((q.2.1 x.2.2.2).1 ≠ own ∧ ∃ host, (Cond.fieldLinkNest own x.2.1 (q.2.1 x.2.2.2).1 (q.2.1 x.2.2.2).2.1 (q.2.1 x.2.2.2).2.2.1 host) ∈ tb_nw)) := by
  intro x hx
  obtain ⟨i, hi⟩ := List.getElem?_of_mem hx
  match i, hi with
  | 0, hi => cases hi; exact ⟨(RX7, TX7, 6), "HandshakeForge", rfl, by decide, rfl, Or.inl (tb_g (tb_i2 (List.mem_of_getElem? (i := 108) (by decide +kernel))) (by decide +kernel))⟩
  | 1, hi => cases hi; exact ⟨(RX7, TX7, 6), "HandshakeForge", rfl, by decide, rfl, Or.inl (tb_g (tb_i2 (List.mem_of_getElem? (i := 109) (by decide +kernel))) (by decide +kernel))⟩
  | 2, hi => cases hi; exact ⟨(RX7, TX7, 6), "HandshakeForge", rfl, by decide, rfl, Or.inl (tb_g (tb_i2 (List.mem_of_getElem? (i := 110) (by decide +kernel))) (by decide +kernel))⟩
  | 3, hi => cases hi; exact ⟨(RX7, TX7, 6), "HandshakeForge", rfl, by decide, rfl, Or.inl (tb_g (tb_i2 (List.mem_of_getElem? (i := 111) (by decide +kernel))) (by decide +kernel))⟩
  | 4, hi => cases hi; exact ⟨(RX7, TX7, 6), "HandshakeForge", rfl, by decide, rfl, Or.inl (tb_g (tb_i2 (List.mem_of_getElem? (i := 112) (by decide +kernel))) (by decide +kernel))⟩
  | 5, hi => cases hi; exact ⟨(RX7, TX7, 6), "HandshakeForge", rfl, by decide, rfl, Or.inl (tb_g (tb_i2 (List.mem_of_getElem? (i := 113) (by decide +kernel))) (by decide +kernel))⟩
  | 6, hi => cases hi; exact ⟨(RX4, TX4, 2), "HandshakeForge$Tape", rfl, by decide, rfl, Or.inl (tb_g (tb_i1 (List.mem_of_getElem? (i := 37) (by decide +kernel))) (by decide +kernel))⟩
  | 7, hi => cases hi; exact ⟨(RX4, TX4, 2), "HandshakeForge$Tape", rfl, by decide, rfl, Or.inl (tb_g (tb_i1 (List.mem_of_getElem? (i := 38) (by decide +kernel))) (by decide +kernel))⟩
  | 8, hi => cases hi; exact ⟨(RX0, TX0, 14), "HandshakeForge$Circuit", rfl, by decide, rfl, Or.inl (tb_g (tb_i1 (List.mem_of_getElem? (i := 75) (by decide +kernel))) (by decide +kernel))⟩
  | 9, hi => cases hi; exact ⟨(RX0, TX0, 14), "HandshakeForge$Circuit", rfl, by decide, rfl, Or.inl (tb_g (tb_i1 (List.mem_of_getElem? (i := 77) (by decide +kernel))) (by decide +kernel))⟩
  | 10, hi => cases hi; exact ⟨(RX0, TX0, 14), "HandshakeForge$Circuit", rfl, by decide, rfl, Or.inl (tb_g (tb_i1 (List.mem_of_getElem? (i := 79) (by decide +kernel))) (by decide +kernel))⟩
  | 11, hi => cases hi; exact ⟨(RX0, TX0, 14), "HandshakeForge$Circuit", rfl, by decide, rfl, Or.inl (tb_g (tb_i1 (List.mem_of_getElem? (i := 81) (by decide +kernel))) (by decide +kernel))⟩
  | 12, hi => cases hi; exact ⟨(RX0, TX0, 14), "HandshakeForge$Circuit", rfl, by decide, rfl, Or.inl (tb_g (tb_i1 (List.mem_of_getElem? (i := 83) (by decide +kernel))) (by decide +kernel))⟩
  | 13, hi => cases hi; exact ⟨(RX0, TX0, 14), "HandshakeForge$Circuit", rfl, by decide, rfl, Or.inl (tb_g (tb_i1 (List.mem_of_getElem? (i := 84) (by decide +kernel))) (by decide +kernel))⟩
  | 14, hi => cases hi; exact ⟨(RX0, TX0, 14), "HandshakeForge$Circuit", rfl, by decide, rfl, Or.inl (tb_g (tb_i1 (List.mem_of_getElem? (i := 87) (by decide +kernel))) (by decide +kernel))⟩
  | 15, hi => cases hi; exact ⟨(RX0, TX0, 14), "HandshakeForge$Circuit", rfl, by decide, rfl, Or.inl (tb_g (tb_i1 (List.mem_of_getElem? (i := 90) (by decide +kernel))) (by decide +kernel))⟩
  | 16, hi => cases hi; exact ⟨(RX0, TX0, 14), "HandshakeForge$Circuit", rfl, by decide, rfl, Or.inl (tb_g (tb_i1 (List.mem_of_getElem? (i := 92) (by decide +kernel))) (by decide +kernel))⟩
  | 17, hi => cases hi; exact ⟨(RX0, TX0, 14), "HandshakeForge$Circuit", rfl, by decide, rfl, Or.inl (tb_g (tb_i1 (List.mem_of_getElem? (i := 93) (by decide +kernel))) (by decide +kernel))⟩
  | 18, hi => cases hi; exact ⟨(RX0, TX0, 14), "HandshakeForge$Circuit", rfl, by decide, rfl, Or.inl (tb_g (tb_i1 (List.mem_of_getElem? (i := 95) (by decide +kernel))) (by decide +kernel))⟩
  | 19, hi => cases hi; exact ⟨(RX0, TX0, 14), "HandshakeForge$Circuit", rfl, by decide, rfl, Or.inl (tb_g (tb_i1 (List.mem_of_getElem? (i := 97) (by decide +kernel))) (by decide +kernel))⟩
  | 20, hi => cases hi; exact ⟨(RX0, TX0, 14), "HandshakeForge$Circuit", rfl, by decide, rfl, Or.inl (tb_g (tb_i1 (List.mem_of_getElem? (i := 99) (by decide +kernel))) (by decide +kernel))⟩
  | 21, hi => cases hi; exact ⟨(RX0, TX0, 14), "HandshakeForge$Circuit", rfl, by decide, rfl, Or.inl (tb_g (tb_i1 (List.mem_of_getElem? (i := 101) (by decide +kernel))) (by decide +kernel))⟩
  | 22, hi => cases hi; exact ⟨(RX2, TX2, 4), "HandshakeForge$Names", rfl, by decide, rfl, Or.inl (tb_g (tb_i1 (List.mem_of_getElem? (i := 59) (by decide +kernel))) (by decide +kernel))⟩
  | 23, hi => cases hi; exact ⟨(RX2, TX2, 4), "HandshakeForge$Names", rfl, by decide, rfl, Or.inl (tb_g (tb_i1 (List.mem_of_getElem? (i := 60) (by decide +kernel))) (by decide +kernel))⟩
  | 24, hi => cases hi; exact ⟨(RX2, TX2, 4), "HandshakeForge$Names", rfl, by decide, rfl, Or.inl (tb_g (tb_i1 (List.mem_of_getElem? (i := 61) (by decide +kernel))) (by decide +kernel))⟩
  | i + 25, hi => exact absurd hi (by simp [tb_Fz0])
def tb_Fz1 : List (Nat × Nat × Nat × Nat) := [(4, 22, 2, 3), (5, 9, 1, 2), (5, 15, 1, 3), (5, 18, 1, 4), (5, 22, 1, 5), (5, 25, 1, 6), (5, 28, 1, 7), (5, 32, 1, 8), (5, 35, 1, 9), (5, 38, 1, 10), (5, 42, 1, 11), (5, 45, 1, 12), (5, 48, 1, 13), (5, 51, 1, 14), (5, 54, 1, 15), (5, 57, 1, 16), (5, 65, 1, 0), (5, 69, 1, 1), (6, 9, 5, 1), (6, 15, 5, 2), (6, 19, 5, 3), (6, 22, 5, 4), (6, 25, 5, 5), (6, 29, 5, 6), (6, 32, 5, 0)]
set_option maxRecDepth 20000 in
theorem tb_okF_1 : ∀ x ∈ tb_Fz1, ∃ (q : vw_C) (own : String), tb_cl[x.2.2.1]? = some q ∧ x.2.2.2 < q.2.2 ∧ tb_cn[x.1]? = some own ∧ ((Cond.fieldLink own x.2.1 (q.2.1 x.2.2.2).1 (q.2.1 x.2.2.2).2.1 (q.2.1 x.2.2.2).2.2.1) ∈ tb_Ts ∨ ((q.2.1 x.2.2.2).1 ≠ own ∧ ∃ host, (Cond.fieldLinkNest own x.2.1 (q.2.1 x.2.2.2).1 (q.2.1 x.2.2.2).2.1 (q.2.1 x.2.2.2).2.2.1 host) ∈ tb_nw)) := by
  intro x hx
  obtain ⟨i, hi⟩ := List.getElem?_of_mem hx
  match i, hi with
  | 0, hi => cases hi; exact ⟨(RX2, TX2, 4), "HandshakeForge$Names", rfl, by decide, rfl, Or.inl (tb_g (tb_i1 (List.mem_of_getElem? (i := 62) (by decide +kernel))) (by decide +kernel))⟩
  | 1, hi => cases hi; exact ⟨(RX1, TX1, 17), "HandshakeForge$Compiler", rfl, by decide, rfl, Or.inl (tb_g (tb_i1 (List.mem_of_getElem? (i := 218) (by decide +kernel))) (by decide +kernel))⟩
  | 2, hi => cases hi; exact ⟨(RX1, TX1, 17), "HandshakeForge$Compiler", rfl, by decide, rfl, Or.inl (tb_g (tb_i1 (List.mem_of_getElem? (i := 220) (by decide +kernel))) (by decide +kernel))⟩
  | 3, hi => cases hi; exact ⟨(RX1, TX1, 17), "HandshakeForge$Compiler", rfl, by decide, rfl, Or.inl (tb_g (tb_i1 (List.mem_of_getElem? (i := 222) (by decide +kernel))) (by decide +kernel))⟩
  | 4, hi => cases hi; exact ⟨(RX1, TX1, 17), "HandshakeForge$Compiler", rfl, by decide, rfl, Or.inl (tb_g (tb_i1 (List.mem_of_getElem? (i := 223) (by decide +kernel))) (by decide +kernel))⟩
  | 5, hi => cases hi; exact ⟨(RX1, TX1, 17), "HandshakeForge$Compiler", rfl, by decide, rfl, Or.inl (tb_g (tb_i1 (List.mem_of_getElem? (i := 224) (by decide +kernel))) (by decide +kernel))⟩
  | 6, hi => cases hi; exact ⟨(RX1, TX1, 17), "HandshakeForge$Compiler", rfl, by decide, rfl, Or.inl (tb_g (tb_i1 (List.mem_of_getElem? (i := 225) (by decide +kernel))) (by decide +kernel))⟩
  | 7, hi => cases hi; exact ⟨(RX1, TX1, 17), "HandshakeForge$Compiler", rfl, by decide, rfl, Or.inl (tb_g (tb_i1 (List.mem_of_getElem? (i := 226) (by decide +kernel))) (by decide +kernel))⟩
  | 8, hi => cases hi; exact ⟨(RX1, TX1, 17), "HandshakeForge$Compiler", rfl, by decide, rfl, Or.inl (tb_g (tb_i1 (List.mem_of_getElem? (i := 227) (by decide +kernel))) (by decide +kernel))⟩
  | 9, hi => cases hi; exact ⟨(RX1, TX1, 17), "HandshakeForge$Compiler", rfl, by decide, rfl, Or.inl (tb_g (tb_i1 (List.mem_of_getElem? (i := 228) (by decide +kernel))) (by decide +kernel))⟩
  | 10, hi => cases hi; exact ⟨(RX1, TX1, 17), "HandshakeForge$Compiler", rfl, by decide, rfl, Or.inl (tb_g (tb_i1 (List.mem_of_getElem? (i := 229) (by decide +kernel))) (by decide +kernel))⟩
  | 11, hi => cases hi; exact ⟨(RX1, TX1, 17), "HandshakeForge$Compiler", rfl, by decide, rfl, Or.inl (tb_g (tb_i1 (List.mem_of_getElem? (i := 230) (by decide +kernel))) (by decide +kernel))⟩
  | 12, hi => cases hi; exact ⟨(RX1, TX1, 17), "HandshakeForge$Compiler", rfl, by decide, rfl, Or.inl (tb_g (tb_i1 (List.mem_of_getElem? (i := 231) (by decide +kernel))) (by decide +kernel))⟩
  | 13, hi => cases hi; exact ⟨(RX1, TX1, 17), "HandshakeForge$Compiler", rfl, by decide, rfl, Or.inl (tb_g (tb_i1 (List.mem_of_getElem? (i := 232) (by decide +kernel))) (by decide +kernel))⟩
  | 14, hi => cases hi; exact ⟨(RX1, TX1, 17), "HandshakeForge$Compiler", rfl, by decide, rfl, Or.inl (tb_g (tb_i1 (List.mem_of_getElem? (i := 233) (by decide +kernel))) (by decide +kernel))⟩
  | 15, hi => cases hi; exact ⟨(RX1, TX1, 17), "HandshakeForge$Compiler", rfl, by decide, rfl, Or.inl (tb_g (tb_i1 (List.mem_of_getElem? (i := 234) (by decide +kernel))) (by decide +kernel))⟩
  | 16, hi => cases hi; exact ⟨(RX1, TX1, 17), "HandshakeForge$Compiler", rfl, by decide, rfl, Or.inl (tb_g (tb_i1 (List.mem_of_getElem? (i := 216) (by decide +kernel))) (by decide +kernel))⟩
  | 17, hi => cases hi; exact ⟨(RX1, TX1, 17), "HandshakeForge$Compiler", rfl, by decide, rfl, Or.inl (tb_g (tb_i1 (List.mem_of_getElem? (i := 217) (by decide +kernel))) (by decide +kernel))⟩
  | 18, hi => cases hi; exact ⟨(RX5, TX5, 7), "HandshakeForge$Tokens", rfl, by decide, rfl, Or.inl (tb_g (tb_i1 (List.mem_of_getElem? (i := 195) (by decide +kernel))) (by decide +kernel))⟩
  | 19, hi => cases hi; exact ⟨(RX5, TX5, 7), "HandshakeForge$Tokens", rfl, by decide, rfl, Or.inl (tb_g (tb_i1 (List.mem_of_getElem? (i := 196) (by decide +kernel))) (by decide +kernel))⟩
  | 20, hi => cases hi; exact ⟨(RX5, TX5, 7), "HandshakeForge$Tokens", rfl, by decide, rfl, Or.inl (tb_g (tb_i1 (List.mem_of_getElem? (i := 197) (by decide +kernel))) (by decide +kernel))⟩
  | 21, hi => cases hi; exact ⟨(RX5, TX5, 7), "HandshakeForge$Tokens", rfl, by decide, rfl, Or.inl (tb_g (tb_i1 (List.mem_of_getElem? (i := 198) (by decide +kernel))) (by decide +kernel))⟩
  | 22, hi => cases hi; exact ⟨(RX5, TX5, 7), "HandshakeForge$Tokens", rfl, by decide, rfl, Or.inl (tb_g (tb_i1 (List.mem_of_getElem? (i := 199) (by decide +kernel))) (by decide +kernel))⟩
  | 23, hi => cases hi; exact ⟨(RX5, TX5, 7), "HandshakeForge$Tokens", rfl, by decide, rfl, Or.inl (tb_g (tb_i1 (List.mem_of_getElem? (i := 200) (by decide +kernel))) (by decide +kernel))⟩
  | 24, hi => cases hi; exact ⟨(RX5, TX5, 7), "HandshakeForge$Tokens", rfl, by decide, rfl, Or.inl (tb_g (tb_i1 (List.mem_of_getElem? (i := 194) (by decide +kernel))) (by decide +kernel))⟩
  | i + 25, hi => exact absurd hi (by simp [tb_Fz1])
def tb_Fz2 : List (Nat × Nat × Nat × Nat) := [(10, 9, 6, 1), (10, 15, 6, 2), (10, 18, 6, 3), (10, 21, 6, 4), (10, 24, 6, 5), (10, 27, 6, 6), (10, 31, 6, 7), (10, 34, 6, 8), (10, 39, 6, 9), (10, 43, 6, 10), (10, 46, 6, 11), (10, 49, 6, 12), (10, 52, 6, 13), (10, 56, 6, 14), (10, 59, 6, 15), (10, 62, 6, 0), (11, 9, 3, 0), (11, 15, 3, 1), (11, 19, 3, 2), (1, 48, 4, 1), (1, 59, 1, 3), (1, 64, 1, 2), (5, 92, 0, 5), (5, 96, 2, 3), (5, 119, 0, 13)]
set_option maxRecDepth 20000 in
theorem tb_okF_2 : ∀ x ∈ tb_Fz2, ∃ (q : vw_C) (own : String), tb_cl[x.2.2.1]? = some q ∧ x.2.2.2 < q.2.2 ∧ tb_cn[x.1]? = some own ∧ ((Cond.fieldLink own x.2.1 (q.2.1 x.2.2.2).1 (q.2.1 x.2.2.2).2.1 (q.2.1 x.2.2.2).2.2.1) ∈ tb_Ts ∨ ((q.2.1 x.2.2.2).1 ≠ own ∧ ∃ host, (Cond.fieldLinkNest own x.2.1 (q.2.1 x.2.2.2).1 (q.2.1 x.2.2.2).2.1 (q.2.1 x.2.2.2).2.2.1 host) ∈ tb_nw)) := by
  intro x hx
  obtain ⟨i, hi⟩ := List.getElem?_of_mem hx
  match i, hi with
  | 0, hi => cases hi; exact ⟨(RX6, TX6, 16), "HandshakeForge$Work", rfl, by decide, rfl, Or.inl (tb_g (tb_i2 (List.mem_of_getElem? (i := 56) (by decide +kernel))) (by decide +kernel))⟩
  | 1, hi => cases hi; exact ⟨(RX6, TX6, 16), "HandshakeForge$Work", rfl, by decide, rfl, Or.inl (tb_g (tb_i2 (List.mem_of_getElem? (i := 57) (by decide +kernel))) (by decide +kernel))⟩
  | 2, hi => cases hi; exact ⟨(RX6, TX6, 16), "HandshakeForge$Work", rfl, by decide, rfl, Or.inl (tb_g (tb_i2 (List.mem_of_getElem? (i := 58) (by decide +kernel))) (by decide +kernel))⟩
  | 3, hi => cases hi; exact ⟨(RX6, TX6, 16), "HandshakeForge$Work", rfl, by decide, rfl, Or.inl (tb_g (tb_i2 (List.mem_of_getElem? (i := 59) (by decide +kernel))) (by decide +kernel))⟩
  | 4, hi => cases hi; exact ⟨(RX6, TX6, 16), "HandshakeForge$Work", rfl, by decide, rfl, Or.inl (tb_g (tb_i2 (List.mem_of_getElem? (i := 60) (by decide +kernel))) (by decide +kernel))⟩
  | 5, hi => cases hi; exact ⟨(RX6, TX6, 16), "HandshakeForge$Work", rfl, by decide, rfl, Or.inl (tb_g (tb_i2 (List.mem_of_getElem? (i := 61) (by decide +kernel))) (by decide +kernel))⟩
  | 6, hi => cases hi; exact ⟨(RX6, TX6, 16), "HandshakeForge$Work", rfl, by decide, rfl, Or.inl (tb_g (tb_i2 (List.mem_of_getElem? (i := 62) (by decide +kernel))) (by decide +kernel))⟩
  | 7, hi => cases hi; exact ⟨(RX6, TX6, 16), "HandshakeForge$Work", rfl, by decide, rfl, Or.inl (tb_g (tb_i2 (List.mem_of_getElem? (i := 63) (by decide +kernel))) (by decide +kernel))⟩
  | 8, hi => cases hi; exact ⟨(RX6, TX6, 16), "HandshakeForge$Work", rfl, by decide, rfl, Or.inl (tb_g (tb_i2 (List.mem_of_getElem? (i := 64) (by decide +kernel))) (by decide +kernel))⟩
  | 9, hi => cases hi; exact ⟨(RX6, TX6, 16), "HandshakeForge$Work", rfl, by decide, rfl, Or.inl (tb_g (tb_i2 (List.mem_of_getElem? (i := 66) (by decide +kernel))) (by decide +kernel))⟩
  | 10, hi => cases hi; exact ⟨(RX6, TX6, 16), "HandshakeForge$Work", rfl, by decide, rfl, Or.inl (tb_g (tb_i2 (List.mem_of_getElem? (i := 68) (by decide +kernel))) (by decide +kernel))⟩
  | 11, hi => cases hi; exact ⟨(RX6, TX6, 16), "HandshakeForge$Work", rfl, by decide, rfl, Or.inl (tb_g (tb_i2 (List.mem_of_getElem? (i := 69) (by decide +kernel))) (by decide +kernel))⟩
  | 12, hi => cases hi; exact ⟨(RX6, TX6, 16), "HandshakeForge$Work", rfl, by decide, rfl, Or.inl (tb_g (tb_i2 (List.mem_of_getElem? (i := 70) (by decide +kernel))) (by decide +kernel))⟩
  | 13, hi => cases hi; exact ⟨(RX6, TX6, 16), "HandshakeForge$Work", rfl, by decide, rfl, Or.inl (tb_g (tb_i2 (List.mem_of_getElem? (i := 71) (by decide +kernel))) (by decide +kernel))⟩
  | 14, hi => cases hi; exact ⟨(RX6, TX6, 16), "HandshakeForge$Work", rfl, by decide, rfl, Or.inl (tb_g (tb_i2 (List.mem_of_getElem? (i := 73) (by decide +kernel))) (by decide +kernel))⟩
  | 15, hi => cases hi; exact ⟨(RX6, TX6, 16), "HandshakeForge$Work", rfl, by decide, rfl, Or.inl (tb_g (tb_i2 (List.mem_of_getElem? (i := 55) (by decide +kernel))) (by decide +kernel))⟩
  | 16, hi => cases hi; exact ⟨(RX3, TX3, 3), "HandshakeForge$Queue", rfl, by decide, rfl, Or.inl (tb_g (tb_i2 (List.mem_of_getElem? (i := 43) (by decide +kernel))) (by decide +kernel))⟩
  | 17, hi => cases hi; exact ⟨(RX3, TX3, 3), "HandshakeForge$Queue", rfl, by decide, rfl, Or.inl (tb_g (tb_i2 (List.mem_of_getElem? (i := 44) (by decide +kernel))) (by decide +kernel))⟩
  | 18, hi => cases hi; exact ⟨(RX3, TX3, 3), "HandshakeForge$Queue", rfl, by decide, rfl, Or.inl (tb_g (tb_i2 (List.mem_of_getElem? (i := 45) (by decide +kernel))) (by decide +kernel))⟩
  | 19, hi => cases hi; exact ⟨(RX4, TX4, 2), "HandshakeForge", rfl, by decide, rfl, Or.inr ⟨by decide +kernel, "HandshakeForge", (tb_n (tb_i1 (List.mem_of_getElem? (i := 39) (by decide +kernel))) (by decide +kernel))⟩⟩
  | 20, hi => cases hi; exact ⟨(RX1, TX1, 17), "HandshakeForge", rfl, by decide, rfl, Or.inr ⟨by decide +kernel, "HandshakeForge", (tb_n (tb_i1 (List.mem_of_getElem? (i := 221) (by decide +kernel))) (by decide +kernel))⟩⟩
  | 21, hi => cases hi; exact ⟨(RX1, TX1, 17), "HandshakeForge", rfl, by decide, rfl, Or.inr ⟨by decide +kernel, "HandshakeForge", (tb_n (tb_i1 (List.mem_of_getElem? (i := 219) (by decide +kernel))) (by decide +kernel))⟩⟩
  | 22, hi => cases hi; exact ⟨(RX0, TX0, 14), "HandshakeForge$Compiler", rfl, by decide, rfl, Or.inr ⟨by decide +kernel, "HandshakeForge", (tb_n (tb_i1 (List.mem_of_getElem? (i := 85) (by decide +kernel))) (by decide +kernel))⟩⟩
  | 23, hi => cases hi; exact ⟨(RX2, TX2, 4), "HandshakeForge$Compiler", rfl, by decide, rfl, Or.inr ⟨by decide +kernel, "HandshakeForge", (tb_n (tb_i1 (List.mem_of_getElem? (i := 63) (by decide +kernel))) (by decide +kernel))⟩⟩
  | 24, hi => cases hi; exact ⟨(RX0, TX0, 14), "HandshakeForge$Compiler", rfl, by decide, rfl, Or.inr ⟨by decide +kernel, "HandshakeForge", (tb_n (tb_i1 (List.mem_of_getElem? (i := 102) (by decide +kernel))) (by decide +kernel))⟩⟩
  | i + 25, hi => exact absurd hi (by simp [tb_Fz2])
def tb_Fz3 : List (Nat × Nat × Nat × Nat) := [(6, 51, 4, 1), (5, 149, 0, 6), (5, 160, 0, 11), (5, 163, 0, 9), (5, 165, 0, 10), (1, 70, 6, 14), (10, 76, 0, 13), (10, 101, 0, 0), (10, 116, 0, 1), (10, 119, 0, 2), (10, 122, 0, 3), (10, 190, 0, 7), (10, 177, 3, 2), (1, 76, 0, 6), (1, 80, 6, 9), (1, 89, 3, 2), (1, 92, 6, 10), (1, 103, 0, 5), (1, 127, 0, 12), (1, 130, 6, 15), (14, 22, 9, 0), (14, 80, 9, 9), (14, 76, 9, 10), (14, 92, 9, 11), (14, 95, 9, 12)]
set_option maxRecDepth 20000 in
theorem tb_okF_3 : ∀ x ∈ tb_Fz3, ∃ (q : vw_C) (own : String), tb_cl[x.2.2.1]? = some q ∧ x.2.2.2 < q.2.2 ∧ tb_cn[x.1]? = some own ∧ ((Cond.fieldLink own x.2.1 (q.2.1 x.2.2.2).1 (q.2.1 x.2.2.2).2.1 (q.2.1 x.2.2.2).2.2.1) ∈ tb_Ts ∨ ((q.2.1 x.2.2.2).1 ≠ own ∧ ∃ host, (Cond.fieldLinkNest own x.2.1 (q.2.1 x.2.2.2).1 (q.2.1 x.2.2.2).2.1 (q.2.1 x.2.2.2).2.2.1 host) ∈ tb_nw)) := by
  intro x hx
  obtain ⟨i, hi⟩ := List.getElem?_of_mem hx
  match i, hi with
  | 0, hi => cases hi; exact ⟨(RX4, TX4, 2), "HandshakeForge$Tokens", rfl, by decide, rfl, Or.inr ⟨by decide +kernel, "HandshakeForge", (tb_n (tb_i1 (List.mem_of_getElem? (i := 40) (by decide +kernel))) (by decide +kernel))⟩⟩
  | 1, hi => cases hi; exact ⟨(RX0, TX0, 14), "HandshakeForge$Compiler", rfl, by decide, rfl, Or.inr ⟨by decide +kernel, "HandshakeForge", (tb_n (tb_i1 (List.mem_of_getElem? (i := 88) (by decide +kernel))) (by decide +kernel))⟩⟩
  | 2, hi => cases hi; exact ⟨(RX0, TX0, 14), "HandshakeForge$Compiler", rfl, by decide, rfl, Or.inr ⟨by decide +kernel, "HandshakeForge", (tb_n (tb_i1 (List.mem_of_getElem? (i := 98) (by decide +kernel))) (by decide +kernel))⟩⟩
  | 3, hi => cases hi; exact ⟨(RX0, TX0, 14), "HandshakeForge$Compiler", rfl, by decide, rfl, Or.inr ⟨by decide +kernel, "HandshakeForge", (tb_n (tb_i1 (List.mem_of_getElem? (i := 94) (by decide +kernel))) (by decide +kernel))⟩⟩
  | 4, hi => cases hi; exact ⟨(RX0, TX0, 14), "HandshakeForge$Compiler", rfl, by decide, rfl, Or.inr ⟨by decide +kernel, "HandshakeForge", (tb_n (tb_i1 (List.mem_of_getElem? (i := 96) (by decide +kernel))) (by decide +kernel))⟩⟩
  | 5, hi => cases hi; exact ⟨(RX6, TX6, 16), "HandshakeForge", rfl, by decide, rfl, Or.inr ⟨by decide +kernel, "HandshakeForge", (tb_n (tb_i2 (List.mem_of_getElem? (i := 72) (by decide +kernel))) (by decide +kernel))⟩⟩
  | 6, hi => cases hi; exact ⟨(RX0, TX0, 14), "HandshakeForge$Work", rfl, by decide, rfl, Or.inr ⟨by decide +kernel, "HandshakeForge", (tb_n (tb_i1 (List.mem_of_getElem? (i := 103) (by decide +kernel))) (by decide +kernel))⟩⟩
  | 7, hi => cases hi; exact ⟨(RX0, TX0, 14), "HandshakeForge$Work", rfl, by decide, rfl, Or.inr ⟨by decide +kernel, "HandshakeForge", (tb_n (tb_i1 (List.mem_of_getElem? (i := 76) (by decide +kernel))) (by decide +kernel))⟩⟩
  | 8, hi => cases hi; exact ⟨(RX0, TX0, 14), "HandshakeForge$Work", rfl, by decide, rfl, Or.inr ⟨by decide +kernel, "HandshakeForge", (tb_n (tb_i1 (List.mem_of_getElem? (i := 78) (by decide +kernel))) (by decide +kernel))⟩⟩
  | 9, hi => cases hi; exact ⟨(RX0, TX0, 14), "HandshakeForge$Work", rfl, by decide, rfl, Or.inr ⟨by decide +kernel, "HandshakeForge", (tb_n (tb_i1 (List.mem_of_getElem? (i := 80) (by decide +kernel))) (by decide +kernel))⟩⟩
  | 10, hi => cases hi; exact ⟨(RX0, TX0, 14), "HandshakeForge$Work", rfl, by decide, rfl, Or.inr ⟨by decide +kernel, "HandshakeForge", (tb_n (tb_i1 (List.mem_of_getElem? (i := 82) (by decide +kernel))) (by decide +kernel))⟩⟩
  | 11, hi => cases hi; exact ⟨(RX0, TX0, 14), "HandshakeForge$Work", rfl, by decide, rfl, Or.inr ⟨by decide +kernel, "HandshakeForge", (tb_n (tb_i1 (List.mem_of_getElem? (i := 91) (by decide +kernel))) (by decide +kernel))⟩⟩
  | 12, hi => cases hi; exact ⟨(RX3, TX3, 3), "HandshakeForge$Work", rfl, by decide, rfl, Or.inr ⟨by decide +kernel, "HandshakeForge", (tb_n (tb_i2 (List.mem_of_getElem? (i := 47) (by decide +kernel))) (by decide +kernel))⟩⟩
  | 13, hi => cases hi; exact ⟨(RX0, TX0, 14), "HandshakeForge", rfl, by decide, rfl, Or.inr ⟨by decide +kernel, "HandshakeForge", (tb_n (tb_i1 (List.mem_of_getElem? (i := 89) (by decide +kernel))) (by decide +kernel))⟩⟩
  | 14, hi => cases hi; exact ⟨(RX6, TX6, 16), "HandshakeForge", rfl, by decide, rfl, Or.inr ⟨by decide +kernel, "HandshakeForge", (tb_n (tb_i2 (List.mem_of_getElem? (i := 65) (by decide +kernel))) (by decide +kernel))⟩⟩
  | 15, hi => cases hi; exact ⟨(RX3, TX3, 3), "HandshakeForge", rfl, by decide, rfl, Or.inr ⟨by decide +kernel, "HandshakeForge", (tb_n (tb_i2 (List.mem_of_getElem? (i := 46) (by decide +kernel))) (by decide +kernel))⟩⟩
  | 16, hi => cases hi; exact ⟨(RX6, TX6, 16), "HandshakeForge", rfl, by decide, rfl, Or.inr ⟨by decide +kernel, "HandshakeForge", (tb_n (tb_i2 (List.mem_of_getElem? (i := 67) (by decide +kernel))) (by decide +kernel))⟩⟩
  | 17, hi => cases hi; exact ⟨(RX0, TX0, 14), "HandshakeForge", rfl, by decide, rfl, Or.inr ⟨by decide +kernel, "HandshakeForge", (tb_n (tb_i1 (List.mem_of_getElem? (i := 86) (by decide +kernel))) (by decide +kernel))⟩⟩
  | 18, hi => cases hi; exact ⟨(RX0, TX0, 14), "HandshakeForge", rfl, by decide, rfl, Or.inr ⟨by decide +kernel, "HandshakeForge", (tb_n (tb_i1 (List.mem_of_getElem? (i := 100) (by decide +kernel))) (by decide +kernel))⟩⟩
  | 19, hi => cases hi; exact ⟨(RX6, TX6, 16), "HandshakeForge", rfl, by decide, rfl, Or.inr ⟨by decide +kernel, "HandshakeForge", (tb_n (tb_i2 (List.mem_of_getElem? (i := 74) (by decide +kernel))) (by decide +kernel))⟩⟩
  | 20, hi => cases hi; exact ⟨(RX9, TX9, 56), "HandshakeForgeModel", rfl, by decide, rfl, Or.inl (tb_g (tb_i4 (List.mem_of_getElem? (i := 211) (by decide +kernel))) (by decide +kernel))⟩
  | 21, hi => cases hi; exact ⟨(RX9, TX9, 56), "HandshakeForgeModel", rfl, by decide, rfl, Or.inl (tb_g (tb_i4 (List.mem_of_getElem? (i := 220) (by decide +kernel))) (by decide +kernel))⟩
  | 22, hi => cases hi; exact ⟨(RX9, TX9, 56), "HandshakeForgeModel", rfl, by decide, rfl, Or.inl (tb_g (tb_i4 (List.mem_of_getElem? (i := 221) (by decide +kernel))) (by decide +kernel))⟩
  | 23, hi => cases hi; exact ⟨(RX9, TX9, 56), "HandshakeForgeModel", rfl, by decide, rfl, Or.inl (tb_g (tb_i4 (List.mem_of_getElem? (i := 222) (by decide +kernel))) (by decide +kernel))⟩
  | 24, hi => cases hi; exact ⟨(RX9, TX9, 56), "HandshakeForgeModel", rfl, by decide, rfl, Or.inl (tb_g (tb_i4 (List.mem_of_getElem? (i := 223) (by decide +kernel))) (by decide +kernel))⟩
  | i + 25, hi => exact absurd hi (by simp [tb_Fz3])
def tb_Fz4 : List (Nat × Nat × Nat × Nat) := [(14, 86, 9, 13), (14, 425, 9, 17), (14, 116, 9, 18), (14, 289, 9, 27), (14, 293, 9, 28), (14, 296, 9, 29), (14, 299, 9, 30), (14, 302, 9, 31), (14, 283, 9, 32), (14, 274, 9, 33), (14, 271, 9, 34), (14, 428, 9, 38), (14, 430, 9, 39), (14, 433, 9, 40), (14, 436, 9, 41), (14, 439, 9, 42), (14, 442, 9, 43), (14, 445, 9, 44), (14, 448, 9, 45), (14, 451, 9, 46), (14, 456, 9, 47), (14, 459, 9, 48), (14, 462, 9, 49), (14, 465, 9, 50), (14, 468, 9, 51)]
set_option maxRecDepth 20000 in
theorem tb_okF_4 : ∀ x ∈ tb_Fz4, ∃ (q : vw_C) (own : String), tb_cl[x.2.2.1]? = some q ∧ x.2.2.2 < q.2.2 ∧ tb_cn[x.1]? = some own ∧ ((Cond.fieldLink own x.2.1 (q.2.1 x.2.2.2).1 (q.2.1 x.2.2.2).2.1 (q.2.1 x.2.2.2).2.2.1) ∈ tb_Ts ∨ ((q.2.1 x.2.2.2).1 ≠ own ∧ ∃ host, (Cond.fieldLinkNest own x.2.1 (q.2.1 x.2.2.2).1 (q.2.1 x.2.2.2).2.1 (q.2.1 x.2.2.2).2.2.1 host) ∈ tb_nw)) := by
  intro x hx
  obtain ⟨i, hi⟩ := List.getElem?_of_mem hx
  match i, hi with
  | 0, hi => cases hi; exact ⟨(RX9, TX9, 56), "HandshakeForgeModel", rfl, by decide, rfl, Or.inl (tb_g (tb_i4 (List.mem_of_getElem? (i := 224) (by decide +kernel))) (by decide +kernel))⟩
  | 1, hi => cases hi; exact ⟨(RX9, TX9, 56), "HandshakeForgeModel", rfl, by decide, rfl, Or.inl (tb_g (tb_i4 (List.mem_of_getElem? (i := 228) (by decide +kernel))) (by decide +kernel))⟩
  | 2, hi => cases hi; exact ⟨(RX9, TX9, 56), "HandshakeForgeModel", rfl, by decide, rfl, Or.inl (tb_g (tb_i4 (List.mem_of_getElem? (i := 229) (by decide +kernel))) (by decide +kernel))⟩
  | 3, hi => cases hi; exact ⟨(RX9, TX9, 56), "HandshakeForgeModel", rfl, by decide, rfl, Or.inl (tb_g (tb_i4 (List.mem_of_getElem? (i := 238) (by decide +kernel))) (by decide +kernel))⟩
  | 4, hi => cases hi; exact ⟨(RX9, TX9, 56), "HandshakeForgeModel", rfl, by decide, rfl, Or.inl (tb_g (tb_i4 (List.mem_of_getElem? (i := 239) (by decide +kernel))) (by decide +kernel))⟩
  | 5, hi => cases hi; exact ⟨(RX9, TX9, 56), "HandshakeForgeModel", rfl, by decide, rfl, Or.inl (tb_g (tb_i5 (List.mem_of_getElem? (i := 0) (by decide +kernel))) (by decide +kernel))⟩
  | 6, hi => cases hi; exact ⟨(RX9, TX9, 56), "HandshakeForgeModel", rfl, by decide, rfl, Or.inl (tb_g (tb_i5 (List.mem_of_getElem? (i := 1) (by decide +kernel))) (by decide +kernel))⟩
  | 7, hi => cases hi; exact ⟨(RX9, TX9, 56), "HandshakeForgeModel", rfl, by decide, rfl, Or.inl (tb_g (tb_i5 (List.mem_of_getElem? (i := 2) (by decide +kernel))) (by decide +kernel))⟩
  | 8, hi => cases hi; exact ⟨(RX9, TX9, 56), "HandshakeForgeModel", rfl, by decide, rfl, Or.inl (tb_g (tb_i5 (List.mem_of_getElem? (i := 3) (by decide +kernel))) (by decide +kernel))⟩
  | 9, hi => cases hi; exact ⟨(RX9, TX9, 56), "HandshakeForgeModel", rfl, by decide, rfl, Or.inl (tb_g (tb_i5 (List.mem_of_getElem? (i := 4) (by decide +kernel))) (by decide +kernel))⟩
  | 10, hi => cases hi; exact ⟨(RX9, TX9, 56), "HandshakeForgeModel", rfl, by decide, rfl, Or.inl (tb_g (tb_i5 (List.mem_of_getElem? (i := 5) (by decide +kernel))) (by decide +kernel))⟩
  | 11, hi => cases hi; exact ⟨(RX9, TX9, 56), "HandshakeForgeModel", rfl, by decide, rfl, Or.inl (tb_g (tb_i5 (List.mem_of_getElem? (i := 9) (by decide +kernel))) (by decide +kernel))⟩
  | 12, hi => cases hi; exact ⟨(RX9, TX9, 56), "HandshakeForgeModel", rfl, by decide, rfl, Or.inl (tb_g (tb_i5 (List.mem_of_getElem? (i := 10) (by decide +kernel))) (by decide +kernel))⟩
  | 13, hi => cases hi; exact ⟨(RX9, TX9, 56), "HandshakeForgeModel", rfl, by decide, rfl, Or.inl (tb_g (tb_i5 (List.mem_of_getElem? (i := 11) (by decide +kernel))) (by decide +kernel))⟩
  | 14, hi => cases hi; exact ⟨(RX9, TX9, 56), "HandshakeForgeModel", rfl, by decide, rfl, Or.inl (tb_g (tb_i5 (List.mem_of_getElem? (i := 12) (by decide +kernel))) (by decide +kernel))⟩
  | 15, hi => cases hi; exact ⟨(RX9, TX9, 56), "HandshakeForgeModel", rfl, by decide, rfl, Or.inl (tb_g (tb_i5 (List.mem_of_getElem? (i := 13) (by decide +kernel))) (by decide +kernel))⟩
  | 16, hi => cases hi; exact ⟨(RX9, TX9, 56), "HandshakeForgeModel", rfl, by decide, rfl, Or.inl (tb_g (tb_i5 (List.mem_of_getElem? (i := 14) (by decide +kernel))) (by decide +kernel))⟩
  | 17, hi => cases hi; exact ⟨(RX9, TX9, 56), "HandshakeForgeModel", rfl, by decide, rfl, Or.inl (tb_g (tb_i5 (List.mem_of_getElem? (i := 15) (by decide +kernel))) (by decide +kernel))⟩
  | 18, hi => cases hi; exact ⟨(RX9, TX9, 56), "HandshakeForgeModel", rfl, by decide, rfl, Or.inl (tb_g (tb_i5 (List.mem_of_getElem? (i := 16) (by decide +kernel))) (by decide +kernel))⟩
  | 19, hi => cases hi; exact ⟨(RX9, TX9, 56), "HandshakeForgeModel", rfl, by decide, rfl, Or.inl (tb_g (tb_i5 (List.mem_of_getElem? (i := 17) (by decide +kernel))) (by decide +kernel))⟩
  | 20, hi => cases hi; exact ⟨(RX9, TX9, 56), "HandshakeForgeModel", rfl, by decide, rfl, Or.inl (tb_g (tb_i5 (List.mem_of_getElem? (i := 18) (by decide +kernel))) (by decide +kernel))⟩
  | 21, hi => cases hi; exact ⟨(RX9, TX9, 56), "HandshakeForgeModel", rfl, by decide, rfl, Or.inl (tb_g (tb_i5 (List.mem_of_getElem? (i := 19) (by decide +kernel))) (by decide +kernel))⟩
  | 22, hi => cases hi; exact ⟨(RX9, TX9, 56), "HandshakeForgeModel", rfl, by decide, rfl, Or.inl (tb_g (tb_i5 (List.mem_of_getElem? (i := 20) (by decide +kernel))) (by decide +kernel))⟩
  | 23, hi => cases hi; exact ⟨(RX9, TX9, 56), "HandshakeForgeModel", rfl, by decide, rfl, Or.inl (tb_g (tb_i5 (List.mem_of_getElem? (i := 21) (by decide +kernel))) (by decide +kernel))⟩
  | 24, hi => cases hi; exact ⟨(RX9, TX9, 56), "HandshakeForgeModel", rfl, by decide, rfl, Or.inl (tb_g (tb_i5 (List.mem_of_getElem? (i := 22) (by decide +kernel))) (by decide +kernel))⟩
  | i + 25, hi => exact absurd hi (by simp [tb_Fz4])
def tb_Fz5 : List (Nat × Nat × Nat × Nat) := [(15, 9, 8, 0), (15, 15, 8, 11), (15, 18, 8, 12), (15, 21, 8, 13), (15, 25, 8, 14), (15, 28, 8, 15), (15, 31, 8, 16), (15, 34, 8, 17), (14, 140, 9, 1), (14, 60, 9, 8), (14, 474, 9, 20), (14, 98, 9, 19), (14, 106, 8, 1), (14, 113, 8, 3), (14, 119, 8, 4), (14, 122, 8, 5), (14, 125, 8, 6), (14, 128, 8, 7), (14, 131, 8, 8), (14, 134, 8, 9), (14, 137, 8, 10), (14, 29, 9, 2), (14, 26, 9, 3), (14, 143, 9, 21), (14, 73, 9, 14)]
set_option maxRecDepth 20000 in
theorem tb_okF_5 : ∀ x ∈ tb_Fz5, ∃ (q : vw_C) (own : String), tb_cl[x.2.2.1]? = some q ∧ x.2.2.2 < q.2.2 ∧ tb_cn[x.1]? = some own ∧ ((Cond.fieldLink own x.2.1 (q.2.1 x.2.2.2).1 (q.2.1 x.2.2.2).2.1 (q.2.1 x.2.2.2).2.2.1) ∈ tb_Ts ∨ ((q.2.1 x.2.2.2).1 ≠ own ∧ ∃ host, (Cond.fieldLinkNest own x.2.1 (q.2.1 x.2.2.2).1 (q.2.1 x.2.2.2).2.1 (q.2.1 x.2.2.2).2.2.1 host) ∈ tb_nw)) := by
  intro x hx
  obtain ⟨i, hi⟩ := List.getElem?_of_mem hx
  match i, hi with
  | 0, hi => cases hi; exact ⟨(RX8, TX8, 19), "HandshakeForgeModel$Circuit", rfl, by decide, rfl, Or.inl (tb_g (tb_i4 (List.mem_of_getElem? (i := 143) (by decide +kernel))) (by decide +kernel))⟩
  | 1, hi => cases hi; exact ⟨(RX8, TX8, 19), "HandshakeForgeModel$Circuit", rfl, by decide, rfl, Or.inl (tb_g (tb_i4 (List.mem_of_getElem? (i := 155) (by decide +kernel))) (by decide +kernel))⟩
  | 2, hi => cases hi; exact ⟨(RX8, TX8, 19), "HandshakeForgeModel$Circuit", rfl, by decide, rfl, Or.inl (tb_g (tb_i4 (List.mem_of_getElem? (i := 157) (by decide +kernel))) (by decide +kernel))⟩
  | 3, hi => cases hi; exact ⟨(RX8, TX8, 19), "HandshakeForgeModel$Circuit", rfl, by decide, rfl, Or.inl (tb_g (tb_i4 (List.mem_of_getElem? (i := 159) (by decide +kernel))) (by decide +kernel))⟩
  | 4, hi => cases hi; exact ⟨(RX8, TX8, 19), "HandshakeForgeModel$Circuit", rfl, by decide, rfl, Or.inl (tb_g (tb_i4 (List.mem_of_getElem? (i := 161) (by decide +kernel))) (by decide +kernel))⟩
  | 5, hi => cases hi; exact ⟨(RX8, TX8, 19), "HandshakeForgeModel$Circuit", rfl, by decide, rfl, Or.inl (tb_g (tb_i4 (List.mem_of_getElem? (i := 163) (by decide +kernel))) (by decide +kernel))⟩
  | 6, hi => cases hi; exact ⟨(RX8, TX8, 19), "HandshakeForgeModel$Circuit", rfl, by decide, rfl, Or.inl (tb_g (tb_i4 (List.mem_of_getElem? (i := 165) (by decide +kernel))) (by decide +kernel))⟩
  | 7, hi => cases hi; exact ⟨(RX8, TX8, 19), "HandshakeForgeModel$Circuit", rfl, by decide, rfl, Or.inl (tb_g (tb_i4 (List.mem_of_getElem? (i := 167) (by decide +kernel))) (by decide +kernel))⟩
  | 8, hi => cases hi; exact ⟨(RX9, TX9, 56), "HandshakeForgeModel", rfl, by decide, rfl, Or.inl (tb_g (tb_i4 (List.mem_of_getElem? (i := 212) (by decide +kernel))) (by decide +kernel))⟩
  | 9, hi => cases hi; exact ⟨(RX9, TX9, 56), "HandshakeForgeModel", rfl, by decide, rfl, Or.inl (tb_g (tb_i4 (List.mem_of_getElem? (i := 219) (by decide +kernel))) (by decide +kernel))⟩
  | 10, hi => cases hi; exact ⟨(RX9, TX9, 56), "HandshakeForgeModel", rfl, by decide, rfl, Or.inl (tb_g (tb_i4 (List.mem_of_getElem? (i := 231) (by decide +kernel))) (by decide +kernel))⟩
  | 11, hi => cases hi; exact ⟨(RX9, TX9, 56), "HandshakeForgeModel", rfl, by decide, rfl, Or.inl (tb_g (tb_i4 (List.mem_of_getElem? (i := 230) (by decide +kernel))) (by decide +kernel))⟩
  | 12, hi => cases hi; exact ⟨(RX8, TX8, 19), "HandshakeForgeModel", rfl, by decide, rfl, Or.inl (tb_g (tb_i4 (List.mem_of_getElem? (i := 145) (by decide +kernel))) (by decide +kernel))⟩
  | 13, hi => cases hi; exact ⟨(RX8, TX8, 19), "HandshakeForgeModel", rfl, by decide, rfl, Or.inl (tb_g (tb_i4 (List.mem_of_getElem? (i := 147) (by decide +kernel))) (by decide +kernel))⟩
  | 14, hi => cases hi; exact ⟨(RX8, TX8, 19), "HandshakeForgeModel", rfl, by decide, rfl, Or.inl (tb_g (tb_i4 (List.mem_of_getElem? (i := 148) (by decide +kernel))) (by decide +kernel))⟩
  | 15, hi => cases hi; exact ⟨(RX8, TX8, 19), "HandshakeForgeModel", rfl, by decide, rfl, Or.inl (tb_g (tb_i4 (List.mem_of_getElem? (i := 149) (by decide +kernel))) (by decide +kernel))⟩
  | 16, hi => cases hi; exact ⟨(RX8, TX8, 19), "HandshakeForgeModel", rfl, by decide, rfl, Or.inl (tb_g (tb_i4 (List.mem_of_getElem? (i := 150) (by decide +kernel))) (by decide +kernel))⟩
  | 17, hi => cases hi; exact ⟨(RX8, TX8, 19), "HandshakeForgeModel", rfl, by decide, rfl, Or.inl (tb_g (tb_i4 (List.mem_of_getElem? (i := 151) (by decide +kernel))) (by decide +kernel))⟩
  | 18, hi => cases hi; exact ⟨(RX8, TX8, 19), "HandshakeForgeModel", rfl, by decide, rfl, Or.inl (tb_g (tb_i4 (List.mem_of_getElem? (i := 152) (by decide +kernel))) (by decide +kernel))⟩
  | 19, hi => cases hi; exact ⟨(RX8, TX8, 19), "HandshakeForgeModel", rfl, by decide, rfl, Or.inl (tb_g (tb_i4 (List.mem_of_getElem? (i := 153) (by decide +kernel))) (by decide +kernel))⟩
  | 20, hi => cases hi; exact ⟨(RX8, TX8, 19), "HandshakeForgeModel", rfl, by decide, rfl, Or.inl (tb_g (tb_i4 (List.mem_of_getElem? (i := 154) (by decide +kernel))) (by decide +kernel))⟩
  | 21, hi => cases hi; exact ⟨(RX9, TX9, 56), "HandshakeForgeModel", rfl, by decide, rfl, Or.inl (tb_g (tb_i4 (List.mem_of_getElem? (i := 213) (by decide +kernel))) (by decide +kernel))⟩
  | 22, hi => cases hi; exact ⟨(RX9, TX9, 56), "HandshakeForgeModel", rfl, by decide, rfl, Or.inl (tb_g (tb_i4 (List.mem_of_getElem? (i := 214) (by decide +kernel))) (by decide +kernel))⟩
  | 23, hi => cases hi; exact ⟨(RX9, TX9, 56), "HandshakeForgeModel", rfl, by decide, rfl, Or.inl (tb_g (tb_i4 (List.mem_of_getElem? (i := 232) (by decide +kernel))) (by decide +kernel))⟩
  | 24, hi => cases hi; exact ⟨(RX9, TX9, 56), "HandshakeForgeModel", rfl, by decide, rfl, Or.inl (tb_g (tb_i4 (List.mem_of_getElem? (i := 225) (by decide +kernel))) (by decide +kernel))⟩
  | i + 25, hi => exact absurd hi (by simp [tb_Fz5])
def tb_Fz6 : List (Nat × Nat × Nat × Nat) := [(14, 89, 9, 15), (14, 146, 9, 16), (14, 149, 9, 35), (14, 152, 9, 37), (14, 156, 9, 36), (14, 177, 8, 18), (14, 180, 8, 14), (14, 183, 8, 15), (14, 186, 8, 16), (14, 189, 8, 17), (14, 192, 8, 13), (14, 201, 8, 2), (14, 32, 9, 4), (14, 9, 9, 5), (14, 3, 9, 6), (14, 46, 9, 7), (14, 236, 8, 11), (14, 266, 8, 12), (14, 213, 9, 22), (14, 217, 9, 23), (14, 220, 9, 24), (14, 223, 9, 25), (14, 226, 9, 26), (14, 102, 8, 0), (14, 480, 9, 52)]
set_option maxRecDepth 20000 in
theorem tb_okF_6 : ∀ x ∈ tb_Fz6, ∃ (q : vw_C) (own : String), tb_cl[x.2.2.1]? = some q ∧ x.2.2.2 < q.2.2 ∧ tb_cn[x.1]? = some own ∧ ((Cond.fieldLink own x.2.1 (q.2.1 x.2.2.2).1 (q.2.1 x.2.2.2).2.1 (q.2.1 x.2.2.2).2.2.1) ∈ tb_Ts ∨ ((q.2.1 x.2.2.2).1 ≠ own ∧ ∃ host, (Cond.fieldLinkNest own x.2.1 (q.2.1 x.2.2.2).1 (q.2.1 x.2.2.2).2.1 (q.2.1 x.2.2.2).2.2.1 host) ∈ tb_nw)) := by
  intro x hx
  obtain ⟨i, hi⟩ := List.getElem?_of_mem hx
  match i, hi with
  | 0, hi => cases hi; exact ⟨(RX9, TX9, 56), "HandshakeForgeModel", rfl, by decide, rfl, Or.inl (tb_g (tb_i4 (List.mem_of_getElem? (i := 226) (by decide +kernel))) (by decide +kernel))⟩
  | 1, hi => cases hi; exact ⟨(RX9, TX9, 56), "HandshakeForgeModel", rfl, by decide, rfl, Or.inl (tb_g (tb_i4 (List.mem_of_getElem? (i := 227) (by decide +kernel))) (by decide +kernel))⟩
  | 2, hi => cases hi; exact ⟨(RX9, TX9, 56), "HandshakeForgeModel", rfl, by decide, rfl, Or.inl (tb_g (tb_i5 (List.mem_of_getElem? (i := 6) (by decide +kernel))) (by decide +kernel))⟩
  | 3, hi => cases hi; exact ⟨(RX9, TX9, 56), "HandshakeForgeModel", rfl, by decide, rfl, Or.inl (tb_g (tb_i5 (List.mem_of_getElem? (i := 8) (by decide +kernel))) (by decide +kernel))⟩
  | 4, hi => cases hi; exact ⟨(RX9, TX9, 56), "HandshakeForgeModel", rfl, by decide, rfl, Or.inl (tb_g (tb_i5 (List.mem_of_getElem? (i := 7) (by decide +kernel))) (by decide +kernel))⟩
  | 5, hi => cases hi; exact ⟨(RX8, TX8, 19), "HandshakeForgeModel", rfl, by decide, rfl, Or.inl (tb_g (tb_i4 (List.mem_of_getElem? (i := 169) (by decide +kernel))) (by decide +kernel))⟩
  | 6, hi => cases hi; exact ⟨(RX8, TX8, 19), "HandshakeForgeModel", rfl, by decide, rfl, Or.inl (tb_g (tb_i4 (List.mem_of_getElem? (i := 162) (by decide +kernel))) (by decide +kernel))⟩
  | 7, hi => cases hi; exact ⟨(RX8, TX8, 19), "HandshakeForgeModel", rfl, by decide, rfl, Or.inl (tb_g (tb_i4 (List.mem_of_getElem? (i := 164) (by decide +kernel))) (by decide +kernel))⟩
  | 8, hi => cases hi; exact ⟨(RX8, TX8, 19), "HandshakeForgeModel", rfl, by decide, rfl, Or.inl (tb_g (tb_i4 (List.mem_of_getElem? (i := 166) (by decide +kernel))) (by decide +kernel))⟩
  | 9, hi => cases hi; exact ⟨(RX8, TX8, 19), "HandshakeForgeModel", rfl, by decide, rfl, Or.inl (tb_g (tb_i4 (List.mem_of_getElem? (i := 168) (by decide +kernel))) (by decide +kernel))⟩
  | 10, hi => cases hi; exact ⟨(RX8, TX8, 19), "HandshakeForgeModel", rfl, by decide, rfl, Or.inl (tb_g (tb_i4 (List.mem_of_getElem? (i := 160) (by decide +kernel))) (by decide +kernel))⟩
  | 11, hi => cases hi; exact ⟨(RX8, TX8, 19), "HandshakeForgeModel", rfl, by decide, rfl, Or.inl (tb_g (tb_i4 (List.mem_of_getElem? (i := 146) (by decide +kernel))) (by decide +kernel))⟩
  | 12, hi => cases hi; exact ⟨(RX9, TX9, 56), "HandshakeForgeModel", rfl, by decide, rfl, Or.inl (tb_g (tb_i4 (List.mem_of_getElem? (i := 215) (by decide +kernel))) (by decide +kernel))⟩
  | 13, hi => cases hi; exact ⟨(RX9, TX9, 56), "HandshakeForgeModel", rfl, by decide, rfl, Or.inl (tb_g (tb_i4 (List.mem_of_getElem? (i := 216) (by decide +kernel))) (by decide +kernel))⟩
  | 14, hi => cases hi; exact ⟨(RX9, TX9, 56), "HandshakeForgeModel", rfl, by decide, rfl, Or.inl (tb_g (tb_i4 (List.mem_of_getElem? (i := 217) (by decide +kernel))) (by decide +kernel))⟩
  | 15, hi => cases hi; exact ⟨(RX9, TX9, 56), "HandshakeForgeModel", rfl, by decide, rfl, Or.inl (tb_g (tb_i4 (List.mem_of_getElem? (i := 218) (by decide +kernel))) (by decide +kernel))⟩
  | 16, hi => cases hi; exact ⟨(RX8, TX8, 19), "HandshakeForgeModel", rfl, by decide, rfl, Or.inl (tb_g (tb_i4 (List.mem_of_getElem? (i := 156) (by decide +kernel))) (by decide +kernel))⟩
  | 17, hi => cases hi; exact ⟨(RX8, TX8, 19), "HandshakeForgeModel", rfl, by decide, rfl, Or.inl (tb_g (tb_i4 (List.mem_of_getElem? (i := 158) (by decide +kernel))) (by decide +kernel))⟩
  | 18, hi => cases hi; exact ⟨(RX9, TX9, 56), "HandshakeForgeModel", rfl, by decide, rfl, Or.inl (tb_g (tb_i4 (List.mem_of_getElem? (i := 233) (by decide +kernel))) (by decide +kernel))⟩
  | 19, hi => cases hi; exact ⟨(RX9, TX9, 56), "HandshakeForgeModel", rfl, by decide, rfl, Or.inl (tb_g (tb_i4 (List.mem_of_getElem? (i := 234) (by decide +kernel))) (by decide +kernel))⟩
  | 20, hi => cases hi; exact ⟨(RX9, TX9, 56), "HandshakeForgeModel", rfl, by decide, rfl, Or.inl (tb_g (tb_i4 (List.mem_of_getElem? (i := 235) (by decide +kernel))) (by decide +kernel))⟩
  | 21, hi => cases hi; exact ⟨(RX9, TX9, 56), "HandshakeForgeModel", rfl, by decide, rfl, Or.inl (tb_g (tb_i4 (List.mem_of_getElem? (i := 236) (by decide +kernel))) (by decide +kernel))⟩
  | 22, hi => cases hi; exact ⟨(RX9, TX9, 56), "HandshakeForgeModel", rfl, by decide, rfl, Or.inl (tb_g (tb_i4 (List.mem_of_getElem? (i := 237) (by decide +kernel))) (by decide +kernel))⟩
  | 23, hi => cases hi; exact ⟨(RX8, TX8, 19), "HandshakeForgeModel", rfl, by decide, rfl, Or.inl (tb_g (tb_i4 (List.mem_of_getElem? (i := 144) (by decide +kernel))) (by decide +kernel))⟩
  | 24, hi => cases hi; exact ⟨(RX9, TX9, 56), "HandshakeForgeModel", rfl, by decide, rfl, Or.inl (tb_g (tb_i5 (List.mem_of_getElem? (i := 23) (by decide +kernel))) (by decide +kernel))⟩
  | i + 25, hi => exact absurd hi (by simp [tb_Fz6])
def tb_Fz7 : List (Nat × Nat × Nat × Nat) := [(14, 483, 9, 53), (14, 492, 9, 55), (14, 501, 9, 54)]
set_option maxRecDepth 20000 in
theorem tb_okF_7 : ∀ x ∈ tb_Fz7, ∃ (q : vw_C) (own : String), tb_cl[x.2.2.1]? = some q ∧ x.2.2.2 < q.2.2 ∧ tb_cn[x.1]? = some own ∧ ((Cond.fieldLink own x.2.1 (q.2.1 x.2.2.2).1 (q.2.1 x.2.2.2).2.1 (q.2.1 x.2.2.2).2.2.1) ∈ tb_Ts ∨ ((q.2.1 x.2.2.2).1 ≠ own ∧ ∃ host, (Cond.fieldLinkNest own x.2.1 (q.2.1 x.2.2.2).1 (q.2.1 x.2.2.2).2.1 (q.2.1 x.2.2.2).2.2.1 host) ∈ tb_nw)) := by
  intro x hx
  obtain ⟨i, hi⟩ := List.getElem?_of_mem hx
  match i, hi with
  | 0, hi => cases hi; exact ⟨(RX9, TX9, 56), "HandshakeForgeModel", rfl, by decide, rfl, Or.inl (tb_g (tb_i5 (List.mem_of_getElem? (i := 24) (by decide +kernel))) (by decide +kernel))⟩
  | 1, hi => cases hi; exact ⟨(RX9, TX9, 56), "HandshakeForgeModel", rfl, by decide, rfl, Or.inl (tb_g (tb_i5 (List.mem_of_getElem? (i := 26) (by decide +kernel))) (by decide +kernel))⟩
  | 2, hi => cases hi; exact ⟨(RX9, TX9, 56), "HandshakeForgeModel", rfl, by decide, rfl, Or.inl (tb_g (tb_i5 (List.mem_of_getElem? (i := 25) (by decide +kernel))) (by decide +kernel))⟩
  | i + 3, hi => exact absurd hi (by simp [tb_Fz7])
set_option maxRecDepth 20000 in
theorem tb_okF : ∀ x ∈ tb_F, ∃ (q : vw_C) (own : String), tb_cl[x.2.2.1]? = some q ∧ x.2.2.2 < q.2.2 ∧ tb_cn[x.1]? = some own ∧ ((Cond.fieldLink own x.2.1 (q.2.1 x.2.2.2).1 (q.2.1 x.2.2.2).2.1 (q.2.1 x.2.2.2).2.2.1) ∈ tb_Ts ∨ ((q.2.1 x.2.2.2).1 ≠ own ∧ ∃ host, (Cond.fieldLinkNest own x.2.1 (q.2.1 x.2.2.2).1 (q.2.1 x.2.2.2).2.1 (q.2.1 x.2.2.2).2.2.1 host) ∈ tb_nw)) := by
  have e : tb_F = tb_Fz0 ++ (tb_Fz1 ++ (tb_Fz2 ++ (tb_Fz3 ++ (tb_Fz4 ++ (tb_Fz5 ++ (tb_Fz6 ++ (tb_Fz7))))))) := rfl
  intro x hx
  rw [e] at hx
  rcases List.mem_append.mp hx with hx | hx
  · exact tb_okF_0 x hx
  rcases List.mem_append.mp hx with hx | hx
  · exact tb_okF_1 x hx
  rcases List.mem_append.mp hx with hx | hx
  · exact tb_okF_2 x hx
  rcases List.mem_append.mp hx with hx | hx
  · exact tb_okF_3 x hx
  rcases List.mem_append.mp hx with hx | hx
  · exact tb_okF_4 x hx
  rcases List.mem_append.mp hx with hx | hx
  · exact tb_okF_5 x hx
  rcases List.mem_append.mp hx with hx | hx
  · exact tb_okF_6 x hx
  exact tb_okF_7 x hx
set_option maxRecDepth 20000 in
theorem tb_okG : ∀ x ∈ tb_G, ∃ own : String, tb_cn[x.1]? = some own ∧ (Cond.fieldLink own x.2.1 x.2.2.2.1 x.2.2.2.2.1 x.2.2.2.2.2) ∈ tb_Ts := by
  intro x hx
  obtain ⟨i, hi⟩ := List.getElem?_of_mem hx
  match i, hi with
  | 0, hi => cases hi; exact ⟨"java/lang/String", rfl, (tb_g (tb_i6 (List.mem_of_getElem? (i := 197) (by decide +kernel))) (by decide +kernel))⟩
  | 1, hi => cases hi; exact ⟨"java/lang/String", rfl, (tb_g (tb_i6 (List.mem_of_getElem? (i := 198) (by decide +kernel))) (by decide +kernel))⟩
  | i + 2, hi => exact absurd hi (by simp [tb_G])
set_option maxRecDepth 20000 in
theorem tb_okN : ∀ x ∈ tb_N, ∃ (q : vw_C) (own : String), tb_cl[x.2.2]? = some q ∧ tb_cn[x.1]? = some own ∧ Cond.classLink own x.2.1 q.1 ∈ tb_Ts ∧ Cond.instantiable q.1 q.2.2 ∈ tb_Ts ∧ Cond.initialized q.1 ∈ tb_Ts := by
  intro x hx
  obtain ⟨i, hi⟩ := List.getElem?_of_mem hx
  match i, hi with
  | 0, hi => cases hi; exact ⟨(RX7, TX7, 6), "HandshakeForgeLaw", rfl, rfl, (tb_g (tb_i1 (List.mem_of_getElem? (i := 23) (by decide +kernel))) (by decide +kernel)), (tb_g (tb_i1 (List.mem_of_getElem? (i := 24) (by decide +kernel))) (by decide +kernel)), (tb_g (tb_i1 (List.mem_of_getElem? (i := 1) (by decide +kernel))) (by decide +kernel))⟩
  | 1, hi => cases hi; exact ⟨(RX9, TX9, 56), "HandshakeForgeLaw", rfl, rfl, (tb_g (tb_i4 (List.mem_of_getElem? (i := 131) (by decide +kernel))) (by decide +kernel)), (tb_g (tb_i4 (List.mem_of_getElem? (i := 132) (by decide +kernel))) (by decide +kernel)), (tb_g (tb_i1 (List.mem_of_getElem? (i := 13) (by decide +kernel))) (by decide +kernel))⟩
  | 2, hi => cases hi; exact ⟨(RX4, TX4, 2), "HandshakeForge", rfl, rfl, (tb_g (tb_i1 (List.mem_of_getElem? (i := 31) (by decide +kernel))) (by decide +kernel)), (tb_g (tb_i1 (List.mem_of_getElem? (i := 32) (by decide +kernel))) (by decide +kernel)), (tb_g (tb_i1 (List.mem_of_getElem? (i := 2) (by decide +kernel))) (by decide +kernel))⟩
  | 3, hi => cases hi; exact ⟨(RX0, TX0, 14), "HandshakeForge", rfl, rfl, (tb_g (tb_i1 (List.mem_of_getElem? (i := 47) (by decide +kernel))) (by decide +kernel)), (tb_g (tb_i1 (List.mem_of_getElem? (i := 48) (by decide +kernel))) (by decide +kernel)), (tb_g (tb_i1 (List.mem_of_getElem? (i := 3) (by decide +kernel))) (by decide +kernel))⟩
  | 4, hi => cases hi; exact ⟨(RX1, TX1, 17), "HandshakeForge", rfl, rfl, (tb_g (tb_i1 (List.mem_of_getElem? (i := 133) (by decide +kernel))) (by decide +kernel)), (tb_g (tb_i1 (List.mem_of_getElem? (i := 134) (by decide +kernel))) (by decide +kernel)), (tb_g (tb_i1 (List.mem_of_getElem? (i := 5) (by decide +kernel))) (by decide +kernel))⟩
  | 5, hi => cases hi; exact ⟨(RX6, TX6, 16), "HandshakeForge", rfl, rfl, (tb_g (tb_i2 (List.mem_of_getElem? (i := 30) (by decide +kernel))) (by decide +kernel)), (tb_g (tb_i2 (List.mem_of_getElem? (i := 31) (by decide +kernel))) (by decide +kernel)), (tb_g (tb_i1 (List.mem_of_getElem? (i := 11) (by decide +kernel))) (by decide +kernel))⟩
  | 6, hi => cases hi; exact ⟨(RX2, TX2, 4), "HandshakeForge$Circuit", rfl, rfl, (tb_g (tb_i1 (List.mem_of_getElem? (i := 53) (by decide +kernel))) (by decide +kernel)), (tb_g (tb_i1 (List.mem_of_getElem? (i := 54) (by decide +kernel))) (by decide +kernel)), (tb_g (tb_i1 (List.mem_of_getElem? (i := 4) (by decide +kernel))) (by decide +kernel))⟩
  | 7, hi => cases hi; exact ⟨(RX5, TX5, 7), "HandshakeForge$Compiler", rfl, rfl, (tb_g (tb_i1 (List.mem_of_getElem? (i := 139) (by decide +kernel))) (by decide +kernel)), (tb_g (tb_i1 (List.mem_of_getElem? (i := 140) (by decide +kernel))) (by decide +kernel)), (tb_g (tb_i1 (List.mem_of_getElem? (i := 6) (by decide +kernel))) (by decide +kernel))⟩
  | 8, hi => cases hi; exact ⟨(RX3, TX3, 3), "HandshakeForge$Work", rfl, rfl, (tb_g (tb_i2 (List.mem_of_getElem? (i := 36) (by decide +kernel))) (by decide +kernel)), (tb_g (tb_i2 (List.mem_of_getElem? (i := 38) (by decide +kernel))) (by decide +kernel)), (tb_g (tb_i1 (List.mem_of_getElem? (i := 12) (by decide +kernel))) (by decide +kernel))⟩
  | 9, hi => cases hi; exact ⟨(RX8, TX8, 19), "HandshakeForgeModel", rfl, rfl, (tb_g (tb_i4 (List.mem_of_getElem? (i := 137) (by decide +kernel))) (by decide +kernel)), (tb_g (tb_i4 (List.mem_of_getElem? (i := 138) (by decide +kernel))) (by decide +kernel)), (tb_g (tb_i1 (List.mem_of_getElem? (i := 14) (by decide +kernel))) (by decide +kernel))⟩
  | i + 10, hi => exact absurd hi (by simp [tb_N])
theorem tb_okY : Cond.arrayClass .int ∈ tb_Ts ∧ Cond.arrayClass .long ∈ tb_Ts ∧ Cond.arrayClass .byte ∈ tb_Ts := ⟨(tb_g (tb_i1 (List.mem_of_getElem? (i := 73) (by decide +kernel))) (by decide +kernel)), (tb_g (tb_i1 (List.mem_of_getElem? (i := 74) (by decide +kernel))) (by decide +kernel)), (tb_g (tb_i1 (List.mem_of_getElem? (i := 46) (by decide +kernel))) (by decide +kernel))⟩
set_option maxRecDepth 20000 in
theorem tb_okA : ∀ x ∈ tb_A, ∃ own : String, tb_cn[x.1]? = some own ∧ Cond.classLink own x.2.1 x.2.2 ∈ tb_Ts := by
  intro x hx
  obtain ⟨i, hi⟩ := List.getElem?_of_mem hx
  match i, hi with
  | 0, hi => cases hi; exact ⟨"HandshakeForge$Work", rfl, (tb_g (tb_i2 (List.mem_of_getElem? (i := 36) (by decide +kernel))) (by decide +kernel))⟩
  | i + 1, hi => exact absurd hi (by simp [tb_A])
set_option maxRecDepth 20000 in
theorem tb_okMu : ∀ x ∈ tb_Mu, ∃ own : String, tb_cn[x.1]? = some own ∧ Cond.classLink own x.2 "[[I" ∈ tb_Ts := by
  intro x hx
  obtain ⟨i, hi⟩ := List.getElem?_of_mem hx
  match i, hi with
  | 0, hi => cases hi; exact ⟨"HandshakeForgeModel", rfl, (tb_g (tb_i4 (List.mem_of_getElem? (i := 209) (by decide +kernel))) (by decide +kernel))⟩
  | i + 1, hi => exact absurd hi (by simp [tb_Mu])
set_option maxRecDepth 20000 in
theorem tb_okK : ∀ x ∈ tb_K, ∃ own : String, tb_cn[x.1]? = some own ∧ match x.2.2 with
    | .int v => Cond.constant own x.2.1 v ∈ tb_Ts
    | .long v => Cond.constantLong own x.2.1 v ∈ tb_Ts
    | _ => True := by
  intro x hx
  obtain ⟨i, hi⟩ := List.getElem?_of_mem hx
  match i, hi with
  | 0, hi => cases hi; exact ⟨"HandshakeForge$Tokens", rfl, (tb_g (tb_i2 (List.mem_of_getElem? (i := 190) (by decide +kernel))) (by decide +kernel))⟩
  | 1, hi => cases hi; exact ⟨"HandshakeForge$Tokens", rfl, (tb_g (tb_i2 (List.mem_of_getElem? (i := 191) (by decide +kernel))) (by decide +kernel))⟩
  | 2, hi => cases hi; exact ⟨"HandshakeForge$Tokens", rfl, (tb_g (tb_i2 (List.mem_of_getElem? (i := 192) (by decide +kernel))) (by decide +kernel))⟩
  | 3, hi => cases hi; exact ⟨"HandshakeForge$Tokens", rfl, (tb_g (tb_i2 (List.mem_of_getElem? (i := 196) (by decide +kernel))) (by decide +kernel))⟩
  | 4, hi => cases hi; exact ⟨"HandshakeForge$Compiler", rfl, (tb_g (tb_i3 (List.mem_of_getElem? (i := 131) (by decide +kernel))) (by decide +kernel))⟩
  | 5, hi => cases hi; exact ⟨"java/lang/Integer", rfl, (tb_g (tb_i3 (List.mem_of_getElem? (i := 202) (by decide +kernel))) (by decide +kernel))⟩
  | 6, hi => cases hi; exact ⟨"java/lang/Integer", rfl, (tb_g (tb_i3 (List.mem_of_getElem? (i := 203) (by decide +kernel))) (by decide +kernel))⟩
  | 7, hi => cases hi; exact ⟨"java/lang/Integer", rfl, (tb_g (tb_i3 (List.mem_of_getElem? (i := 204) (by decide +kernel))) (by decide +kernel))⟩
  | 8, hi => cases hi; exact ⟨"HandshakeForge$Work", rfl, (tb_g (tb_i4 (List.mem_of_getElem? (i := 3) (by decide +kernel))) (by decide +kernel))⟩
  | 9, hi => cases hi; exact ⟨"HandshakeForge", rfl, (tb_g (tb_i4 (List.mem_of_getElem? (i := 110) (by decide +kernel))) (by decide +kernel))⟩
  | 10, hi => cases hi; exact ⟨"HandshakeForgeModel", rfl, (tb_g (tb_i5 (List.mem_of_getElem? (i := 176) (by decide +kernel))) (by decide +kernel))⟩
  | 11, hi => cases hi; exact ⟨"HandshakeForgeModel", rfl, (tb_g (tb_i5 (List.mem_of_getElem? (i := 180) (by decide +kernel))) (by decide +kernel))⟩
  | 12, hi => cases hi; exact ⟨"HandshakeForgeModel", rfl, (tb_g (tb_i6 (List.mem_of_getElem? (i := 117) (by decide +kernel))) (by decide +kernel))⟩
  | 13, hi => cases hi; exact ⟨"HandshakeForgeModel", rfl, (tb_g (tb_i6 (List.mem_of_getElem? (i := 119) (by decide +kernel))) (by decide +kernel))⟩
  | 14, hi => cases hi; exact ⟨"HandshakeForgeModel", rfl, (tb_g (tb_i6 (List.mem_of_getElem? (i := 138) (by decide +kernel))) (by decide +kernel))⟩
  | 15, hi => cases hi; exact ⟨"HandshakeForgeModel", rfl, (tb_g (tb_i6 (List.mem_of_getElem? (i := 186) (by decide +kernel))) (by decide +kernel))⟩
  | 16, hi => cases hi; exact ⟨"HandshakeForgeModel", rfl, (tb_g (tb_i6 (List.mem_of_getElem? (i := 195) (by decide +kernel))) (by decide +kernel))⟩
  | i + 17, hi => exact absurd hi (by simp [tb_K])
set_option maxRecDepth 20000 in
theorem tb_okZ : ∀ x ∈ tb_Z, ∃ own : String, tb_cn[x.1]? = some own ∧ (Cond.fieldLink own x.2.1 x.2.2.1 x.2.2.2.1 x.2.2.2.2.1) ∈ tb_Ts := by
  intro x hx
  obtain ⟨i, hi⟩ := List.getElem?_of_mem hx
  match i, hi with
  | 0, hi => cases hi; exact ⟨"java/lang/String", rfl, (tb_g (tb_i1 (List.mem_of_getElem? (i := 154) (by decide +kernel))) (by decide +kernel))⟩
  | 1, hi => cases hi; exact ⟨"java/lang/String", rfl, (tb_g (tb_i1 (List.mem_of_getElem? (i := 170) (by decide +kernel))) (by decide +kernel))⟩
  | 2, hi => cases hi; exact ⟨"HandshakeForge$Compiler", rfl, (tb_g (tb_i3 (List.mem_of_getElem? (i := 60) (by decide +kernel))) (by decide +kernel))⟩
  | i + 3, hi => exact absurd hi (by simp [tb_Z])
theorem tb_okT : hm_okT tb_T tb_cn tb_Ts tb_nw := ⟨tb_cls, tb_okF, tb_okG, tb_okN, tb_okY, tb_okA, tb_okMu, tb_okK, tb_okZ⟩
