set_option maxRecDepth 20000 in
theorem tb_okLa : ∀ x ∈ tb_L, ∃ own : String, tb_cn[x.1]? = some own ∧ match x.2.2 with
    | 0 => Cond.methodLink own x.2.1 Lib.objectInit ∈ tb_Ts ∧ Cond.instanceMethod Lib.objectInit ∈ tb_Ts ∧ Cond.code Lib.objectInit ⟨#[0xb1]⟩ 1 none ∈ tb_Ts
    | 1 => Cond.methodLink own x.2.1 Lib.Math.max.name ∈ tb_Ts ∧ Cond.static Lib.Math.max.name ∈ tb_Ts ∧ Cond.initialized "java/lang/Math" ∈ tb_Ts ∧ Cond.code Lib.Math.max.name Lib.Math.max.code 2 (some .int) ∈ tb_Ts
    | 2 => Cond.methodLink own x.2.1 Lib.Math.min.name ∈ tb_Ts ∧ Cond.static Lib.Math.min.name ∈ tb_Ts ∧ Cond.initialized "java/lang/Math" ∈ tb_Ts ∧ Cond.code Lib.Math.min.name Lib.Math.min.code 2 (some .int) ∈ tb_Ts
    | 3 => Cond.methodLink own x.2.1 Lib.MathLoose.min_long.x ∈ tb_Ts ∧ Cond.static Lib.MathLoose.min_long.x ∈ tb_Ts ∧ Cond.initialized "java/lang/Math" ∈ tb_Ts ∧ Cond.code Lib.MathLoose.min_long.x Lib.MathLoose.min_long.code 4 (some .long) ∈ tb_Ts
    | 4 => Cond.methodLink own x.2.1 arraycopyName ∈ tb_Ts ∧ Cond.native arraycopyName ∈ tb_Ts ∧ Cond.static arraycopyName ∈ tb_Ts ∧ Cond.initialized "java/lang/System" ∈ tb_Ts
    | _ => True := by
  intro x hx
  obtain ⟨i, hi⟩ := List.getElem?_of_mem hx
  match i, hi with
  | 0, hi => cases hi; exact ⟨"HandshakeForge", rfl, (tb_g (tb_i1 (List.mem_of_getElem? (i := 28) (by decide +kernel))) (by decide +kernel)), (tb_g (tb_i1 (List.mem_of_getElem? (i := 29) (by decide +kernel))) (by decide +kernel)), (tb_g (tb_i1 (List.mem_of_getElem? (i := 30) rfl)) rfl)⟩
  | 1, hi => cases hi; exact ⟨"HandshakeForge$Tape", rfl, (tb_g (tb_i1 (List.mem_of_getElem? (i := 36) (by decide +kernel))) (by decide +kernel)), (tb_g (tb_i1 (List.mem_of_getElem? (i := 29) (by decide +kernel))) (by decide +kernel)), (tb_g (tb_i1 (List.mem_of_getElem? (i := 30) rfl)) rfl)⟩
  | 2, hi => cases hi; exact ⟨"HandshakeForge$Circuit", rfl, (tb_g (tb_i1 (List.mem_of_getElem? (i := 52) (by decide +kernel))) (by decide +kernel)), (tb_g (tb_i1 (List.mem_of_getElem? (i := 29) (by decide +kernel))) (by decide +kernel)), (tb_g (tb_i1 (List.mem_of_getElem? (i := 30) rfl)) rfl)⟩
  | 3, hi => cases hi; exact ⟨"HandshakeForge$Names", rfl, (tb_g (tb_i1 (List.mem_of_getElem? (i := 58) (by decide +kernel))) (by decide +kernel)), (tb_g (tb_i1 (List.mem_of_getElem? (i := 29) (by decide +kernel))) (by decide +kernel)), (tb_g (tb_i1 (List.mem_of_getElem? (i := 30) rfl)) rfl)⟩
  | 4, hi => cases hi; exact ⟨"HandshakeForge$Compiler", rfl, (tb_g (tb_i1 (List.mem_of_getElem? (i := 138) (by decide +kernel))) (by decide +kernel)), (tb_g (tb_i1 (List.mem_of_getElem? (i := 29) (by decide +kernel))) (by decide +kernel)), (tb_g (tb_i1 (List.mem_of_getElem? (i := 30) rfl)) rfl)⟩
  | 5, hi => cases hi; exact ⟨"HandshakeForge$Tokens", rfl, (tb_g (tb_i1 (List.mem_of_getElem? (i := 144) (by decide +kernel))) (by decide +kernel)), (tb_g (tb_i1 (List.mem_of_getElem? (i := 29) (by decide +kernel))) (by decide +kernel)), (tb_g (tb_i1 (List.mem_of_getElem? (i := 30) rfl)) rfl)⟩
  | 6, hi => cases hi; exact ⟨"HandshakeForge$Work", rfl, (tb_g (tb_i2 (List.mem_of_getElem? (i := 35) (by decide +kernel))) (by decide +kernel)), (tb_g (tb_i1 (List.mem_of_getElem? (i := 29) (by decide +kernel))) (by decide +kernel)), (tb_g (tb_i1 (List.mem_of_getElem? (i := 30) rfl)) rfl)⟩
  | 7, hi => cases hi; exact ⟨"HandshakeForge$Queue", rfl, (tb_g (tb_i2 (List.mem_of_getElem? (i := 42) (by decide +kernel))) (by decide +kernel)), (tb_g (tb_i1 (List.mem_of_getElem? (i := 29) (by decide +kernel))) (by decide +kernel)), (tb_g (tb_i1 (List.mem_of_getElem? (i := 30) rfl)) rfl)⟩
  | 8, hi => cases hi; exact ⟨"HandshakeForge$Tokens", rfl, (tb_g (tb_i2 (List.mem_of_getElem? (i := 193) (by decide +kernel))) (by decide +kernel)), (tb_g (tb_i2 (List.mem_of_getElem? (i := 194) (by decide +kernel))) (by decide +kernel)), (tb_g (tb_i1 (List.mem_of_getElem? (i := 16) (by decide +kernel))) (by decide +kernel)), (tb_g (tb_i2 (List.mem_of_getElem? (i := 195) rfl)) rfl)⟩
  | 9, hi => cases hi; exact ⟨"HandshakeForge$Names", rfl, (tb_g (tb_i2 (List.mem_of_getElem? (i := 228) (by decide +kernel))) (by decide +kernel)), (tb_g (tb_i2 (List.mem_of_getElem? (i := 229) (by decide +kernel))) (by decide +kernel)), (tb_g (tb_i1 (List.mem_of_getElem? (i := 16) (by decide +kernel))) (by decide +kernel)), (tb_g (tb_i2 (List.mem_of_getElem? (i := 230) rfl)) rfl)⟩
  | 10, hi => cases hi; exact ⟨"HandshakeForgeModel", rfl, (tb_g (tb_i4 (List.mem_of_getElem? (i := 136) (by decide +kernel))) (by decide +kernel)), (tb_g (tb_i1 (List.mem_of_getElem? (i := 29) (by decide +kernel))) (by decide +kernel)), (tb_g (tb_i1 (List.mem_of_getElem? (i := 30) rfl)) rfl)⟩
  | 11, hi => cases hi; exact ⟨"HandshakeForgeModel$Circuit", rfl, (tb_g (tb_i4 (List.mem_of_getElem? (i := 142) (by decide +kernel))) (by decide +kernel)), (tb_g (tb_i1 (List.mem_of_getElem? (i := 29) (by decide +kernel))) (by decide +kernel)), (tb_g (tb_i1 (List.mem_of_getElem? (i := 30) rfl)) rfl)⟩
  | 12, hi => cases hi; exact ⟨"HandshakeForgeModel", rfl, (tb_g (tb_i6 (List.mem_of_getElem? (i := 121) (by decide +kernel))) (by decide +kernel)), (tb_g (tb_i6 (List.mem_of_getElem? (i := 123) (by decide +kernel))) (by decide +kernel)), (tb_g (tb_i6 (List.mem_of_getElem? (i := 122) (by decide +kernel))) (by decide +kernel)), (tb_g (tb_i1 (List.mem_of_getElem? (i := 22) (by decide +kernel))) (by decide +kernel))⟩
  | 13, hi => cases hi; exact ⟨"HandshakeForgeModel", rfl, (tb_g (tb_i5 (List.mem_of_getElem? (i := 177) (by decide +kernel))) (by decide +kernel)), (tb_g (tb_i5 (List.mem_of_getElem? (i := 178) (by decide +kernel))) (by decide +kernel)), (tb_g (tb_i1 (List.mem_of_getElem? (i := 16) (by decide +kernel))) (by decide +kernel)), (tb_g (tb_i5 (List.mem_of_getElem? (i := 179) rfl)) rfl)⟩
  | i + 14, hi => exact absurd hi (by simp [tb_L])
theorem tb_okL : hm_okL tb_T tb_cn tb_Ts := tb_okLa
theorem tb_okX : hm_okX tb_T tb_cn tb_Ts tb_nw := by
  intro x hx
  obtain ⟨i, hi⟩ := List.getElem?_of_mem hx
  match i, hi with
  | 0, hi =>
    cases hi
    refine ⟨"HandshakeForge$Compiler", rfl, (tb_g (tb_i2 (List.mem_of_getElem? (i := 239) (by decide +kernel))) (by decide +kernel)), (tb_g (tb_i1 (List.mem_of_getElem? (i := 20) (by decide +kernel))) (by decide +kernel)), ?_, by decide +kernel⟩
    have h : ∀ w ∈ vx_at0 "HandshakeForge$Compiler" 251 hm_xn hm_sup, w ∈ lw_tbl ∧ (goodWord w = true ∨ hm_nw w = true) := by decide +kernel
    intro w hw
    rcases (h w hw).2 with g | g
    · exact Or.inl (tb_g (h w hw).1 g)
    · exact Or.inr (tb_n (h w hw).1 g)
  | i + 1, hi => exact absurd hi (by simp [hm_Tx, tb_T, tb_X])
def tb_Mz0 : List hm_M := [tb_M0, tb_M1, tb_M2, tb_M3, tb_M4, tb_M5, tb_M6, tb_M7, tb_M8, tb_M9, tb_M10, tb_M11, tb_M12, tb_M13, tb_M14, tb_M15, tb_M16, tb_M17, tb_M18, tb_M19, tb_M20, tb_M21, tb_M22, tb_M23, tb_M24]
set_option maxRecDepth 20000 in
theorem tb_okM_0 : ∀ x ∈ tb_Mz0, plainName (hm_My x).cls = true ∧ tb_cn[hm_Mo x]? = some (hm_My x).cls ∧ hm_Ml x ≤ 45 ∧ (∀ (pc : Nat) (o : hm_O), (hm_Mi x)[pc]? = some (some o) → decode (hm_Mc x) pc = .ok (o.1, o.2.1)) ∧ ∀ y, hm_Mh x = [y] → y.2.2.2 ≠ 0 ∧ Cond.classLink (hm_My x).cls y.2.2.2 hm_xn ∈ tb_Ts ∧ Cond.castable hm_xn hm_xn ∈ tb_nw := by
  intro x hx
  obtain ⟨i, hi⟩ := List.getElem?_of_mem hx
  match i, hi with
  | 0, hi => cases hi; exact ⟨by decide +kernel, rfl, by decide, hm_dec_ok tb_d0 tb_e0, (fun y hy => by cases hy)⟩
  | 1, hi => cases hi; exact ⟨by decide +kernel, rfl, by decide, hm_dec_ok tb_d1 tb_e1, (fun y hy => by cases hy)⟩
  | 2, hi => cases hi; exact ⟨by decide +kernel, rfl, by decide, hm_dec_ok tb_d2 tb_e2, (fun y hy => by cases hy)⟩
  | 3, hi => cases hi; exact ⟨by decide +kernel, rfl, by decide, hm_dec_ok tb_d3 tb_e3, (fun y hy => by cases hy)⟩
  | 4, hi => cases hi; exact ⟨by decide +kernel, rfl, by decide, hm_dec_ok tb_d4 tb_e4, (fun y hy => by cases hy)⟩
  | 5, hi => cases hi; exact ⟨by decide +kernel, rfl, by decide, hm_dec_ok tb_d5 tb_e5, (fun y hy => by cases hy)⟩
  | 6, hi => cases hi; exact ⟨by decide +kernel, rfl, by decide, hm_dec_ok tb_d6 tb_e6, (fun y hy => by cases hy)⟩
  | 7, hi => cases hi; exact ⟨by decide +kernel, rfl, by decide, hm_dec_ok tb_d7 tb_e7, (fun y hy => by cases hy)⟩
  | 8, hi => cases hi; exact ⟨by decide +kernel, rfl, by decide, hm_dec_ok tb_d8 tb_e8, (fun y hy => by cases hy)⟩
  | 9, hi => cases hi; exact ⟨by decide +kernel, rfl, by decide, hm_dec_ok tb_d9 tb_e9, (fun y hy => by cases hy)⟩
  | 10, hi => cases hi; exact ⟨by decide +kernel, rfl, by decide, hm_dec_ok tb_d10 tb_e10, (fun y hy => by cases hy)⟩
  | 11, hi => cases hi; exact ⟨by decide +kernel, rfl, by decide, hm_dec_ok tb_d11 tb_e11, (fun y hy => by cases hy)⟩
  | 12, hi => cases hi; exact ⟨by decide +kernel, rfl, by decide, hm_dec_ok tb_d12 tb_e12, (fun y hy => by cases hy)⟩
  | 13, hi => cases hi; exact ⟨by decide +kernel, rfl, by decide, hm_dec_ok tb_d13 tb_e13, (fun y hy => by cases hy)⟩
  | 14, hi => cases hi; exact ⟨by decide +kernel, rfl, by decide, hm_dec_ok tb_d14 tb_e14, (fun y hy => by cases hy)⟩
  | 15, hi => cases hi; exact ⟨by decide +kernel, rfl, by decide, hm_dec_ok tb_d15 tb_e15, (fun y hy => by cases hy)⟩
  | 16, hi => cases hi; exact ⟨by decide +kernel, rfl, by decide, hm_dec_ok tb_d16 tb_e16, (fun y hy => by cases hy)⟩
  | 17, hi => cases hi; exact ⟨by decide +kernel, rfl, by decide, hm_dec_ok tb_d17 tb_e17, (fun y hy => by cases hy)⟩
  | 18, hi => cases hi; exact ⟨by decide +kernel, rfl, by decide, hm_dec_ok tb_d18 tb_e18, (fun y hy => by cases hy)⟩
  | 19, hi => cases hi; exact ⟨by decide +kernel, rfl, by decide, hm_dec_ok tb_d19 tb_e19, (fun y hy => by cases hy; exact ⟨by decide, (tb_g (tb_i2 (List.mem_of_getElem? (i := 143) (by decide +kernel))) (by decide +kernel)), (tb_n (tb_i3 (List.mem_of_getElem? (i := 1) (by decide +kernel))) (by decide +kernel))⟩)⟩
  | 20, hi => cases hi; exact ⟨by decide +kernel, rfl, by decide, hm_dec_ok tb_d20 tb_e20, (fun y hy => by cases hy)⟩
  | 21, hi => cases hi; exact ⟨by decide +kernel, rfl, by decide, hm_dec_ok tb_d21 tb_e21, (fun y hy => by cases hy)⟩
  | 22, hi => cases hi; exact ⟨by decide +kernel, rfl, by decide, hm_dec_ok tb_d22 tb_e22, (fun y hy => by cases hy)⟩
  | 23, hi => cases hi; exact ⟨by decide +kernel, rfl, by decide, hm_dec_ok tb_d23 tb_e23, (fun y hy => by cases hy)⟩
  | 24, hi => cases hi; exact ⟨by decide +kernel, rfl, by decide, hm_dec_ok tb_d24 tb_e24, (fun y hy => by cases hy)⟩
  | i + 25, hi => exact absurd hi (by simp [tb_Mz0])
def tb_Mz1 : List hm_M := [tb_M25, tb_M26, tb_M27, tb_M28, tb_M29, tb_M30, tb_M31, tb_M32, tb_M33, tb_M34, tb_M35, tb_M36, tb_M37, tb_M38, tb_M39, tb_M40, tb_M41, tb_M42, tb_M43, tb_M44, tb_M45, tb_M46, tb_M47, tb_M48, tb_M49]
set_option maxRecDepth 20000 in
theorem tb_okM_1 : ∀ x ∈ tb_Mz1, plainName (hm_My x).cls = true ∧ tb_cn[hm_Mo x]? = some (hm_My x).cls ∧ hm_Ml x ≤ 45 ∧ (∀ (pc : Nat) (o : hm_O), (hm_Mi x)[pc]? = some (some o) → decode (hm_Mc x) pc = .ok (o.1, o.2.1)) ∧ ∀ y, hm_Mh x = [y] → y.2.2.2 ≠ 0 ∧ Cond.classLink (hm_My x).cls y.2.2.2 hm_xn ∈ tb_Ts ∧ Cond.castable hm_xn hm_xn ∈ tb_nw := by
  intro x hx
  obtain ⟨i, hi⟩ := List.getElem?_of_mem hx
  match i, hi with
  | 0, hi => cases hi; exact ⟨by decide +kernel, rfl, by decide, hm_dec_ok tb_d25 tb_e25, (fun y hy => by cases hy)⟩
  | 1, hi => cases hi; exact ⟨by decide +kernel, rfl, by decide, hm_dec_ok tb_d26 tb_e26, (fun y hy => by cases hy)⟩
  | 2, hi => cases hi; exact ⟨by decide +kernel, rfl, by decide, hm_dec_ok tb_d27 tb_e27, (fun y hy => by cases hy)⟩
  | 3, hi => cases hi; exact ⟨by decide +kernel, rfl, by decide, hm_dec_ok tb_d28 tb_e28, (fun y hy => by cases hy)⟩
  | 4, hi => cases hi; exact ⟨by decide +kernel, rfl, by decide, hm_dec_ok tb_d29 tb_e29, (fun y hy => by cases hy)⟩
  | 5, hi => cases hi; exact ⟨by decide +kernel, rfl, by decide, hm_dec_ok tb_d30 tb_e30, (fun y hy => by cases hy)⟩
  | 6, hi => cases hi; exact ⟨by decide +kernel, rfl, by decide, hm_dec_ok tb_d31 tb_e31, (fun y hy => by cases hy)⟩
  | 7, hi => cases hi; exact ⟨by decide +kernel, rfl, by decide, hm_dec_ok tb_d32 tb_e32, (fun y hy => by cases hy)⟩
  | 8, hi => cases hi; exact ⟨by decide +kernel, rfl, by decide, hm_dec_ok tb_d33 tb_e33, (fun y hy => by cases hy)⟩
  | 9, hi => cases hi; exact ⟨by decide +kernel, rfl, by decide, hm_dec_ok tb_d34 tb_e34, (fun y hy => by cases hy)⟩
  | 10, hi => cases hi; exact ⟨by decide +kernel, rfl, by decide, hm_dec_ok tb_d35 tb_e35, (fun y hy => by cases hy)⟩
  | 11, hi => cases hi; exact ⟨by decide +kernel, rfl, by decide, hm_dec_ok tb_d36 tb_e36, (fun y hy => by cases hy)⟩
  | 12, hi => cases hi; exact ⟨by decide +kernel, rfl, by decide, hm_dec_ok tb_d37 tb_e37, (fun y hy => by cases hy)⟩
  | 13, hi => cases hi; exact ⟨by decide +kernel, rfl, by decide, hm_dec_ok tb_d38 tb_e38, (fun y hy => by cases hy)⟩
  | 14, hi => cases hi; exact ⟨by decide +kernel, rfl, by decide, hm_dec_ok tb_d39 tb_e39, (fun y hy => by cases hy)⟩
  | 15, hi => cases hi; exact ⟨by decide +kernel, rfl, by decide, hm_dec_ok tb_d40 tb_e40, (fun y hy => by cases hy)⟩
  | 16, hi => cases hi; exact ⟨by decide +kernel, rfl, by decide, hm_dec_ok tb_d41 tb_e41, (fun y hy => by cases hy)⟩
  | 17, hi => cases hi; exact ⟨by decide +kernel, rfl, by decide, hm_dec_ok tb_d42 tb_e42, (fun y hy => by cases hy)⟩
  | 18, hi => cases hi; exact ⟨by decide +kernel, rfl, by decide, hm_dec_ok tb_d43 tb_e43, (fun y hy => by cases hy)⟩
  | 19, hi => cases hi; exact ⟨by decide +kernel, rfl, by decide, hm_dec_ok tb_d44 tb_e44, (fun y hy => by cases hy)⟩
  | 20, hi => cases hi; exact ⟨by decide +kernel, rfl, by decide, hm_dec_ok tb_d45 tb_e45, (fun y hy => by cases hy)⟩
  | 21, hi => cases hi; exact ⟨by decide +kernel, rfl, by decide, hm_dec_ok tb_d46 tb_e46, (fun y hy => by cases hy)⟩
  | 22, hi => cases hi; exact ⟨by decide +kernel, rfl, by decide, hm_dec_ok tb_d47 tb_e47, (fun y hy => by cases hy)⟩
  | 23, hi => cases hi; exact ⟨by decide +kernel, rfl, by decide, hm_dec_ok tb_d48 tb_e48, (fun y hy => by cases hy)⟩
  | 24, hi => cases hi; exact ⟨by decide +kernel, rfl, by decide, hm_dec_ok tb_d49 tb_e49, (fun y hy => by cases hy)⟩
  | i + 25, hi => exact absurd hi (by simp [tb_Mz1])
def tb_Mz2 : List hm_M := [tb_M50, tb_M51, tb_M52, tb_M53, tb_M54, tb_M55, tb_M56, tb_M57, tb_M58, tb_M59, tb_M60, tb_M61, tb_M62, tb_M63, tb_M64, tb_M65, tb_M66, tb_M67, tb_M68, tb_M69, tb_M70, tb_M71, tb_M72, tb_M73, tb_M74]
set_option maxRecDepth 20000 in
theorem tb_okM_2 : ∀ x ∈ tb_Mz2, plainName (hm_My x).cls = true ∧ tb_cn[hm_Mo x]? = some (hm_My x).cls ∧ hm_Ml x ≤ 45 ∧ (∀ (pc : Nat) (o : hm_O), (hm_Mi x)[pc]? = some (some o) → decode (hm_Mc x) pc = .ok (o.1, o.2.1)) ∧ ∀ y, hm_Mh x = [y] → y.2.2.2 ≠ 0 ∧ Cond.classLink (hm_My x).cls y.2.2.2 hm_xn ∈ tb_Ts ∧ Cond.castable hm_xn hm_xn ∈ tb_nw := by
  intro x hx
  obtain ⟨i, hi⟩ := List.getElem?_of_mem hx
  match i, hi with
  | 0, hi => cases hi; exact ⟨by decide +kernel, rfl, by decide, hm_dec_ok tb_d50 tb_e50, (fun y hy => by cases hy)⟩
  | 1, hi => cases hi; exact ⟨by decide +kernel, rfl, by decide, hm_dec_ok tb_d51 tb_e51, (fun y hy => by cases hy)⟩
  | 2, hi => cases hi; exact ⟨by decide +kernel, rfl, by decide, hm_dec_ok tb_d52 tb_e52, (fun y hy => by cases hy)⟩
  | 3, hi => cases hi; exact ⟨by decide +kernel, rfl, by decide, hm_dec_ok tb_d53 tb_e53, (fun y hy => by cases hy)⟩
  | 4, hi => cases hi; exact ⟨by decide +kernel, rfl, by decide, hm_dec_ok tb_d54 tb_e54, (fun y hy => by cases hy)⟩
  | 5, hi => cases hi; exact ⟨by decide +kernel, rfl, by decide, hm_dec_ok tb_d55 tb_e55, (fun y hy => by cases hy)⟩
  | 6, hi => cases hi; exact ⟨by decide +kernel, rfl, by decide, hm_dec_ok tb_d56 tb_e56, (fun y hy => by cases hy)⟩
  | 7, hi => cases hi; exact ⟨by decide +kernel, rfl, by decide, hm_dec_ok tb_d57 tb_e57, (fun y hy => by cases hy)⟩
  | 8, hi => cases hi; exact ⟨by decide +kernel, rfl, by decide, hm_dec_ok tb_d58 tb_e58, (fun y hy => by cases hy)⟩
  | 9, hi => cases hi; exact ⟨by decide +kernel, rfl, by decide, hm_dec_ok tb_d59 tb_e59, (fun y hy => by cases hy)⟩
  | 10, hi => cases hi; exact ⟨by decide +kernel, rfl, by decide, hm_dec_ok tb_d60 tb_e60, (fun y hy => by cases hy)⟩
  | 11, hi => cases hi; exact ⟨by decide +kernel, rfl, by decide, hm_dec_ok tb_d61 tb_e61, (fun y hy => by cases hy)⟩
  | 12, hi => cases hi; exact ⟨by decide +kernel, rfl, by decide, hm_dec_ok tb_d62 tb_e62, (fun y hy => by cases hy)⟩
  | 13, hi => cases hi; exact ⟨by decide +kernel, rfl, by decide, hm_dec_ok tb_d63 tb_e63, (fun y hy => by cases hy)⟩
  | 14, hi => cases hi; exact ⟨by decide +kernel, rfl, by decide, hm_dec_ok tb_d64 tb_e64, (fun y hy => by cases hy)⟩
  | 15, hi => cases hi; exact ⟨by decide +kernel, rfl, by decide, hm_dec_ok tb_d65 tb_e65, (fun y hy => by cases hy)⟩
  | 16, hi => cases hi; exact ⟨by decide +kernel, rfl, by decide, hm_dec_ok tb_d66 tb_e66, (fun y hy => by cases hy)⟩
  | 17, hi => cases hi; exact ⟨by decide +kernel, rfl, by decide, hm_dec_ok tb_d67 tb_e67, (fun y hy => by cases hy)⟩
  | 18, hi => cases hi; exact ⟨by decide +kernel, rfl, by decide, hm_dec_ok tb_d68 tb_e68, (fun y hy => by cases hy)⟩
  | 19, hi => cases hi; exact ⟨by decide +kernel, rfl, by decide, hm_dec_ok tb_d69 tb_e69, (fun y hy => by cases hy)⟩
  | 20, hi => cases hi; exact ⟨by decide +kernel, rfl, by decide, hm_dec_ok tb_d70 tb_e70, (fun y hy => by cases hy)⟩
  | 21, hi => cases hi; exact ⟨by decide +kernel, rfl, by decide, hm_dec_ok tb_d71 tb_e71, (fun y hy => by cases hy)⟩
  | 22, hi => cases hi; exact ⟨by decide +kernel, rfl, by decide, hm_dec_ok tb_d72 tb_e72, (fun y hy => by cases hy)⟩
  | 23, hi => cases hi; exact ⟨by decide +kernel, rfl, by decide, hm_dec_ok tb_d73 tb_e73, (fun y hy => by cases hy)⟩
  | 24, hi => cases hi; exact ⟨by decide +kernel, rfl, by decide, hm_dec_ok tb_d74 tb_e74, (fun y hy => by cases hy)⟩
  | i + 25, hi => exact absurd hi (by simp [tb_Mz2])
def tb_Mz3 : List hm_M := [tb_M75, tb_M76, tb_M77, tb_M78, tb_M79, tb_M80, tb_M81, tb_M82, tb_M83, tb_M84, tb_M85, tb_M86, tb_M87, tb_M88, tb_M89, tb_M90, tb_M91, tb_M92, tb_M93, tb_M94, tb_M95, tb_M96, tb_M97, tb_M98, tb_M99]
set_option maxRecDepth 20000 in
theorem tb_okM_3 : ∀ x ∈ tb_Mz3, plainName (hm_My x).cls = true ∧ tb_cn[hm_Mo x]? = some (hm_My x).cls ∧ hm_Ml x ≤ 45 ∧ (∀ (pc : Nat) (o : hm_O), (hm_Mi x)[pc]? = some (some o) → decode (hm_Mc x) pc = .ok (o.1, o.2.1)) ∧ ∀ y, hm_Mh x = [y] → y.2.2.2 ≠ 0 ∧ Cond.classLink (hm_My x).cls y.2.2.2 hm_xn ∈ tb_Ts ∧ Cond.castable hm_xn hm_xn ∈ tb_nw := by
  intro x hx
  obtain ⟨i, hi⟩ := List.getElem?_of_mem hx
  match i, hi with
  | 0, hi => cases hi; exact ⟨by decide +kernel, rfl, by decide, hm_dec_ok tb_d75 tb_e75, (fun y hy => by cases hy)⟩
  | 1, hi => cases hi; exact ⟨by decide +kernel, rfl, by decide, hm_dec_ok tb_d76 tb_e76, (fun y hy => by cases hy)⟩
  | 2, hi => cases hi; exact ⟨by decide +kernel, rfl, by decide, hm_dec_ok tb_d77 tb_e77, (fun y hy => by cases hy)⟩
  | 3, hi => cases hi; exact ⟨by decide +kernel, rfl, by decide, hm_dec_ok tb_d78 tb_e78, (fun y hy => by cases hy)⟩
  | 4, hi => cases hi; exact ⟨by decide +kernel, rfl, by decide, hm_dec_ok tb_d79 tb_e79, (fun y hy => by cases hy)⟩
  | 5, hi => cases hi; exact ⟨by decide +kernel, rfl, by decide, hm_dec_ok tb_d80 tb_e80, (fun y hy => by cases hy)⟩
  | 6, hi => cases hi; exact ⟨by decide +kernel, rfl, by decide, hm_dec_ok tb_d81 tb_e81, (fun y hy => by cases hy)⟩
  | 7, hi => cases hi; exact ⟨by decide +kernel, rfl, by decide, hm_dec_ok tb_d82 tb_e82, (fun y hy => by cases hy)⟩
  | 8, hi => cases hi; exact ⟨by decide +kernel, rfl, by decide, hm_dec_ok tb_d83 tb_e83, (fun y hy => by cases hy)⟩
  | 9, hi => cases hi; exact ⟨by decide +kernel, rfl, by decide, hm_dec_ok tb_d84 tb_e84, (fun y hy => by cases hy)⟩
  | 10, hi => cases hi; exact ⟨by decide +kernel, rfl, by decide, hm_dec_ok tb_d85 tb_e85, (fun y hy => by cases hy)⟩
  | 11, hi => cases hi; exact ⟨by decide +kernel, rfl, by decide, hm_dec_ok tb_d86 tb_e86, (fun y hy => by cases hy)⟩
  | 12, hi => cases hi; exact ⟨by decide +kernel, rfl, by decide, hm_dec_ok tb_d87 tb_e87, (fun y hy => by cases hy)⟩
  | 13, hi => cases hi; exact ⟨by decide +kernel, rfl, by decide, hm_dec_ok tb_d88 tb_e88, (fun y hy => by cases hy)⟩
  | 14, hi => cases hi; exact ⟨by decide +kernel, rfl, by decide, hm_dec_ok tb_d89 tb_e89, (fun y hy => by cases hy)⟩
  | 15, hi => cases hi; exact ⟨by decide +kernel, rfl, by decide, hm_dec_ok tb_d90 tb_e90, (fun y hy => by cases hy)⟩
  | 16, hi => cases hi; exact ⟨by decide +kernel, rfl, by decide, hm_dec_ok tb_d91 tb_e91, (fun y hy => by cases hy)⟩
  | 17, hi => cases hi; exact ⟨by decide +kernel, rfl, by decide, hm_dec_ok tb_d92 tb_e92, (fun y hy => by cases hy)⟩
  | 18, hi => cases hi; exact ⟨by decide +kernel, rfl, by decide, hm_dec_ok tb_d93 tb_e93, (fun y hy => by cases hy)⟩
  | 19, hi => cases hi; exact ⟨by decide +kernel, rfl, by decide, hm_dec_ok tb_d94 tb_e94, (fun y hy => by cases hy)⟩
  | 20, hi => cases hi; exact ⟨by decide +kernel, rfl, by decide, hm_dec_ok tb_d95 tb_e95, (fun y hy => by cases hy)⟩
  | 21, hi => cases hi; exact ⟨by decide +kernel, rfl, by decide, hm_dec_ok tb_d96 tb_e96, (fun y hy => by cases hy)⟩
  | 22, hi => cases hi; exact ⟨by decide +kernel, rfl, by decide, hm_dec_ok tb_d97 tb_e97, (fun y hy => by cases hy)⟩
  | 23, hi => cases hi; exact ⟨by decide +kernel, rfl, by decide, hm_dec_ok tb_d98 tb_e98, (fun y hy => by cases hy)⟩
  | 24, hi => cases hi; exact ⟨by decide +kernel, rfl, by decide, hm_dec_ok tb_d99 tb_e99, (fun y hy => by cases hy)⟩
  | i + 25, hi => exact absurd hi (by simp [tb_Mz3])
def tb_Mz4 : List hm_M := [tb_M100, tb_M101, tb_M102, tb_M103, tb_M104, tb_M105, tb_M106, tb_M107, tb_M108, tb_M109, tb_M110, tb_M111, tb_M112, tb_M113, tb_M114, tb_M115, tb_M116, tb_M117, tb_M118, tb_M119, tb_M120, tb_M121, tb_M122, tb_M123, tb_M124]
set_option maxRecDepth 20000 in
theorem tb_okM_4 : ∀ x ∈ tb_Mz4, plainName (hm_My x).cls = true ∧ tb_cn[hm_Mo x]? = some (hm_My x).cls ∧ hm_Ml x ≤ 45 ∧ (∀ (pc : Nat) (o : hm_O), (hm_Mi x)[pc]? = some (some o) → decode (hm_Mc x) pc = .ok (o.1, o.2.1)) ∧ ∀ y, hm_Mh x = [y] → y.2.2.2 ≠ 0 ∧ Cond.classLink (hm_My x).cls y.2.2.2 hm_xn ∈ tb_Ts ∧ Cond.castable hm_xn hm_xn ∈ tb_nw := by
  intro x hx
  obtain ⟨i, hi⟩ := List.getElem?_of_mem hx
  match i, hi with
  | 0, hi => cases hi; exact ⟨by decide +kernel, rfl, by decide, hm_dec_ok tb_d100 tb_e100, (fun y hy => by cases hy)⟩
  | 1, hi => cases hi; exact ⟨by decide +kernel, rfl, by decide, hm_dec_ok tb_d101 tb_e101, (fun y hy => by cases hy)⟩
  | 2, hi => cases hi; exact ⟨by decide +kernel, rfl, by decide, hm_dec_ok tb_d102 tb_e102, (fun y hy => by cases hy)⟩
  | 3, hi => cases hi; exact ⟨by decide +kernel, rfl, by decide, hm_dec_ok tb_d103 tb_e103, (fun y hy => by cases hy)⟩
  | 4, hi => cases hi; exact ⟨by decide +kernel, rfl, by decide, hm_dec_ok tb_d104 tb_e104, (fun y hy => by cases hy)⟩
  | 5, hi => cases hi; exact ⟨by decide +kernel, rfl, by decide, hm_dec_ok tb_d105 tb_e105, (fun y hy => by cases hy)⟩
  | 6, hi => cases hi; exact ⟨by decide +kernel, rfl, by decide, hm_dec_ok tb_d106 tb_e106, (fun y hy => by cases hy)⟩
  | 7, hi => cases hi; exact ⟨by decide +kernel, rfl, by decide, hm_dec_ok tb_d107 tb_e107, (fun y hy => by cases hy)⟩
  | 8, hi => cases hi; exact ⟨by decide +kernel, rfl, by decide, hm_dec_ok tb_d108 tb_e108, (fun y hy => by cases hy)⟩
  | 9, hi => cases hi; exact ⟨by decide +kernel, rfl, by decide, hm_dec_ok tb_d109 tb_e109, (fun y hy => by cases hy)⟩
  | 10, hi => cases hi; exact ⟨by decide +kernel, rfl, by decide, hm_dec_ok tb_d110 tb_e110, (fun y hy => by cases hy)⟩
  | 11, hi => cases hi; exact ⟨by decide +kernel, rfl, by decide, hm_dec_ok tb_d111 tb_e111, (fun y hy => by cases hy)⟩
  | 12, hi => cases hi; exact ⟨by decide +kernel, rfl, by decide, hm_dec_ok tb_d112 tb_e112, (fun y hy => by cases hy)⟩
  | 13, hi => cases hi; exact ⟨by decide +kernel, rfl, by decide, hm_dec_ok tb_d113 tb_e113, (fun y hy => by cases hy)⟩
  | 14, hi => cases hi; exact ⟨by decide +kernel, rfl, by decide, hm_dec_ok tb_d114 tb_e114, (fun y hy => by cases hy)⟩
  | 15, hi => cases hi; exact ⟨by decide +kernel, rfl, by decide, hm_dec_ok tb_d115 tb_e115, (fun y hy => by cases hy)⟩
  | 16, hi => cases hi; exact ⟨by decide +kernel, rfl, by decide, hm_dec_ok tb_d116 tb_e116, (fun y hy => by cases hy)⟩
  | 17, hi => cases hi; exact ⟨by decide +kernel, rfl, by decide, hm_dec_ok tb_d117 tb_e117, (fun y hy => by cases hy)⟩
  | 18, hi => cases hi; exact ⟨by decide +kernel, rfl, by decide, hm_dec_ok tb_d118 tb_e118, (fun y hy => by cases hy)⟩
  | 19, hi => cases hi; exact ⟨by decide +kernel, rfl, by decide, hm_dec_ok tb_d119 tb_e119, (fun y hy => by cases hy)⟩
  | 20, hi => cases hi; exact ⟨by decide +kernel, rfl, by decide, hm_dec_ok tb_d120 tb_e120, (fun y hy => by cases hy)⟩
  | 21, hi => cases hi; exact ⟨by decide +kernel, rfl, by decide, hm_dec_ok tb_d121 tb_e121, (fun y hy => by cases hy)⟩
  | 22, hi => cases hi; exact ⟨by decide +kernel, rfl, by decide, hm_dec_ok tb_d122 tb_e122, (fun y hy => by cases hy)⟩
  | 23, hi => cases hi; exact ⟨by decide +kernel, rfl, by decide, hm_dec_ok tb_d123 tb_e123, (fun y hy => by cases hy)⟩
  | 24, hi => cases hi; exact ⟨by decide +kernel, rfl, by decide, hm_dec_ok tb_d124 tb_e124, (fun y hy => by cases hy)⟩
  | i + 25, hi => exact absurd hi (by simp [tb_Mz4])
def tb_Mz5 : List hm_M := [tb_M125, tb_M126, tb_M127, tb_M128, tb_M129, tb_M130, tb_M131, tb_M132, tb_M133, tb_M134, tb_M135, tb_M136, tb_M137, tb_M138, tb_M139, tb_M140, tb_M141, tb_M142, tb_M143, tb_M144, tb_M145, tb_M146, tb_M147, tb_M148, tb_M149]
set_option maxRecDepth 20000 in
theorem tb_okM_5 : ∀ x ∈ tb_Mz5, plainName (hm_My x).cls = true ∧ tb_cn[hm_Mo x]? = some (hm_My x).cls ∧ hm_Ml x ≤ 45 ∧ (∀ (pc : Nat) (o : hm_O), (hm_Mi x)[pc]? = some (some o) → decode (hm_Mc x) pc = .ok (o.1, o.2.1)) ∧ ∀ y, hm_Mh x = [y] → y.2.2.2 ≠ 0 ∧ Cond.classLink (hm_My x).cls y.2.2.2 hm_xn ∈ tb_Ts ∧ Cond.castable hm_xn hm_xn ∈ tb_nw := by
  intro x hx
  obtain ⟨i, hi⟩ := List.getElem?_of_mem hx
  match i, hi with
  | 0, hi => cases hi; exact ⟨by decide +kernel, rfl, by decide, hm_dec_ok tb_d125 tb_e125, (fun y hy => by cases hy)⟩
  | 1, hi => cases hi; exact ⟨by decide +kernel, rfl, by decide, hm_dec_ok tb_d126 tb_e126, (fun y hy => by cases hy)⟩
  | 2, hi => cases hi; exact ⟨by decide +kernel, rfl, by decide, hm_dec_ok tb_d127 tb_e127, (fun y hy => by cases hy)⟩
  | 3, hi => cases hi; exact ⟨by decide +kernel, rfl, by decide, hm_dec_ok tb_d128 tb_e128, (fun y hy => by cases hy)⟩
  | 4, hi => cases hi; exact ⟨by decide +kernel, rfl, by decide, hm_dec_ok tb_d129 tb_e129, (fun y hy => by cases hy)⟩
  | 5, hi => cases hi; exact ⟨by decide +kernel, rfl, by decide, hm_dec_ok tb_d130 tb_e130, (fun y hy => by cases hy)⟩
  | 6, hi => cases hi; exact ⟨by decide +kernel, rfl, by decide, hm_dec_ok tb_d131 tb_e131, (fun y hy => by cases hy)⟩
  | 7, hi => cases hi; exact ⟨by decide +kernel, rfl, by decide, hm_dec_ok tb_d132 tb_e132, (fun y hy => by cases hy)⟩
  | 8, hi => cases hi; exact ⟨by decide +kernel, rfl, by decide, hm_dec_ok tb_d133 tb_e133, (fun y hy => by cases hy)⟩
  | 9, hi => cases hi; exact ⟨by decide +kernel, rfl, by decide, hm_dec_ok tb_d134 tb_e134, (fun y hy => by cases hy)⟩
  | 10, hi => cases hi; exact ⟨by decide +kernel, rfl, by decide, hm_dec_ok tb_d135 tb_e135, (fun y hy => by cases hy)⟩
  | 11, hi => cases hi; exact ⟨by decide +kernel, rfl, by decide, hm_dec_ok tb_d136 tb_e136, (fun y hy => by cases hy)⟩
  | 12, hi => cases hi; exact ⟨by decide +kernel, rfl, by decide, hm_dec_ok tb_d137 tb_e137, (fun y hy => by cases hy)⟩
  | 13, hi => cases hi; exact ⟨by decide +kernel, rfl, by decide, hm_dec_ok tb_d138 tb_e138, (fun y hy => by cases hy)⟩
  | 14, hi => cases hi; exact ⟨by decide +kernel, rfl, by decide, hm_dec_ok tb_d139 tb_e139, (fun y hy => by cases hy)⟩
  | 15, hi => cases hi; exact ⟨by decide +kernel, rfl, by decide, hm_dec_ok tb_d140 tb_e140, (fun y hy => by cases hy)⟩
  | 16, hi => cases hi; exact ⟨by decide +kernel, rfl, by decide, hm_dec_ok tb_d141 tb_e141, (fun y hy => by cases hy)⟩
  | 17, hi => cases hi; exact ⟨by decide +kernel, rfl, by decide, hm_dec_ok tb_d142 tb_e142, (fun y hy => by cases hy)⟩
  | 18, hi => cases hi; exact ⟨by decide +kernel, rfl, by decide, hm_dec_ok tb_d143 tb_e143, (fun y hy => by cases hy)⟩
  | 19, hi => cases hi; exact ⟨by decide +kernel, rfl, by decide, hm_dec_ok tb_d144 tb_e144, (fun y hy => by cases hy)⟩
  | 20, hi => cases hi; exact ⟨by decide +kernel, rfl, by decide, hm_dec_ok tb_d145 tb_e145, (fun y hy => by cases hy)⟩
  | 21, hi => cases hi; exact ⟨by decide +kernel, rfl, by decide, hm_dec_ok tb_d146 tb_e146, (fun y hy => by cases hy)⟩
  | 22, hi => cases hi; exact ⟨by decide +kernel, rfl, by decide, hm_dec_ok tb_d147 tb_e147, (fun y hy => by cases hy)⟩
  | 23, hi => cases hi; exact ⟨by decide +kernel, rfl, by decide, hm_dec_ok tb_d148 tb_e148, (fun y hy => by cases hy)⟩
  | 24, hi => cases hi; exact ⟨by decide +kernel, rfl, by decide, hm_dec_ok tb_d149 tb_e149, (fun y hy => by cases hy)⟩
  | i + 25, hi => exact absurd hi (by simp [tb_Mz5])
def tb_Mz6 : List hm_M := [tb_M150, tb_M151, tb_M152, tb_M153, tb_M154, tb_M155, tb_M156, tb_M157, tb_M158, tb_M159, tb_M160, tb_M161, tb_M162, tb_M163, tb_M164, tb_M165, tb_M166, tb_M167, tb_M168, tb_M169, tb_M170, tb_M171, tb_M172, tb_M173, tb_M174]
set_option maxRecDepth 20000 in
theorem tb_okM_6 : ∀ x ∈ tb_Mz6, plainName (hm_My x).cls = true ∧ tb_cn[hm_Mo x]? = some (hm_My x).cls ∧ hm_Ml x ≤ 45 ∧ (∀ (pc : Nat) (o : hm_O), (hm_Mi x)[pc]? = some (some o) → decode (hm_Mc x) pc = .ok (o.1, o.2.1)) ∧ ∀ y, hm_Mh x = [y] → y.2.2.2 ≠ 0 ∧ Cond.classLink (hm_My x).cls y.2.2.2 hm_xn ∈ tb_Ts ∧ Cond.castable hm_xn hm_xn ∈ tb_nw := by
  intro x hx
  obtain ⟨i, hi⟩ := List.getElem?_of_mem hx
  match i, hi with
  | 0, hi => cases hi; exact ⟨by decide +kernel, rfl, by decide, hm_dec_ok tb_d150 tb_e150, (fun y hy => by cases hy)⟩
  | 1, hi => cases hi; exact ⟨by decide +kernel, rfl, by decide, hm_dec_ok tb_d151 tb_e151, (fun y hy => by cases hy)⟩
  | 2, hi => cases hi; exact ⟨by decide +kernel, rfl, by decide, hm_dec_ok tb_d152 tb_e152, (fun y hy => by cases hy)⟩
  | 3, hi => cases hi; exact ⟨by decide +kernel, rfl, by decide, hm_dec_ok tb_d153 tb_e153, (fun y hy => by cases hy)⟩
  | 4, hi => cases hi; exact ⟨by decide +kernel, rfl, by decide, hm_dec_ok tb_d154 tb_e154, (fun y hy => by cases hy)⟩
  | 5, hi => cases hi; exact ⟨by decide +kernel, rfl, by decide, hm_dec_ok tb_d155 tb_e155, (fun y hy => by cases hy)⟩
  | 6, hi => cases hi; exact ⟨by decide +kernel, rfl, by decide, hm_dec_ok tb_d156 tb_e156, (fun y hy => by cases hy)⟩
  | 7, hi => cases hi; exact ⟨by decide +kernel, rfl, by decide, hm_dec_ok tb_d157 tb_e157, (fun y hy => by cases hy)⟩
  | 8, hi => cases hi; exact ⟨by decide +kernel, rfl, by decide, hm_dec_ok tb_d158 tb_e158, (fun y hy => by cases hy)⟩
  | 9, hi => cases hi; exact ⟨by decide +kernel, rfl, by decide, hm_dec_ok tb_d159 tb_e159, (fun y hy => by cases hy)⟩
  | 10, hi => cases hi; exact ⟨by decide +kernel, rfl, by decide, hm_dec_ok tb_d160 tb_e160, (fun y hy => by cases hy)⟩
  | 11, hi => cases hi; exact ⟨by decide +kernel, rfl, by decide, hm_dec_ok tb_d161 tb_e161, (fun y hy => by cases hy)⟩
  | 12, hi => cases hi; exact ⟨by decide +kernel, rfl, by decide, hm_dec_ok tb_d162 tb_e162, (fun y hy => by cases hy)⟩
  | 13, hi => cases hi; exact ⟨by decide +kernel, rfl, by decide, hm_dec_ok tb_d163 tb_e163, (fun y hy => by cases hy)⟩
  | 14, hi => cases hi; exact ⟨by decide +kernel, rfl, by decide, hm_dec_ok tb_d164 tb_e164, (fun y hy => by cases hy)⟩
  | 15, hi => cases hi; exact ⟨by decide +kernel, rfl, by decide, hm_dec_ok tb_d165 tb_e165, (fun y hy => by cases hy)⟩
  | 16, hi => cases hi; exact ⟨by decide +kernel, rfl, by decide, hm_dec_ok tb_d166 tb_e166, (fun y hy => by cases hy)⟩
  | 17, hi => cases hi; exact ⟨by decide +kernel, rfl, by decide, hm_dec_ok tb_d167 tb_e167, (fun y hy => by cases hy)⟩
  | 18, hi => cases hi; exact ⟨by decide +kernel, rfl, by decide, hm_dec_ok tb_d168 tb_e168, (fun y hy => by cases hy)⟩
  | 19, hi => cases hi; exact ⟨by decide +kernel, rfl, by decide, hm_dec_ok tb_d169 tb_e169, (fun y hy => by cases hy)⟩
  | 20, hi => cases hi; exact ⟨by decide +kernel, rfl, by decide, hm_dec_ok tb_d170 tb_e170, (fun y hy => by cases hy)⟩
  | 21, hi => cases hi; exact ⟨by decide +kernel, rfl, by decide, hm_dec_ok tb_d171 tb_e171, (fun y hy => by cases hy)⟩
  | 22, hi => cases hi; exact ⟨by decide +kernel, rfl, by decide, hm_dec_ok tb_d172 tb_e172, (fun y hy => by cases hy)⟩
  | 23, hi => cases hi; exact ⟨by decide +kernel, rfl, by decide, hm_dec_ok tb_d173 tb_e173, (fun y hy => by cases hy)⟩
  | 24, hi => cases hi; exact ⟨by decide +kernel, rfl, by decide, hm_dec_ok tb_d174 tb_e174, (fun y hy => by cases hy)⟩
  | i + 25, hi => exact absurd hi (by simp [tb_Mz6])
def tb_Mz7 : List hm_M := [tb_M175, tb_M176]
set_option maxRecDepth 20000 in
theorem tb_okM_7 : ∀ x ∈ tb_Mz7, plainName (hm_My x).cls = true ∧ tb_cn[hm_Mo x]? = some (hm_My x).cls ∧ hm_Ml x ≤ 45 ∧ (∀ (pc : Nat) (o : hm_O), (hm_Mi x)[pc]? = some (some o) → decode (hm_Mc x) pc = .ok (o.1, o.2.1)) ∧ ∀ y, hm_Mh x = [y] → y.2.2.2 ≠ 0 ∧ Cond.classLink (hm_My x).cls y.2.2.2 hm_xn ∈ tb_Ts ∧ Cond.castable hm_xn hm_xn ∈ tb_nw := by
  intro x hx
  obtain ⟨i, hi⟩ := List.getElem?_of_mem hx
  match i, hi with
  | 0, hi => cases hi; exact ⟨by decide +kernel, rfl, by decide, hm_dec_ok tb_d175 tb_e175, (fun y hy => by cases hy)⟩
  | 1, hi => cases hi; exact ⟨by decide +kernel, rfl, by decide, hm_dec_ok tb_d176 tb_e176, (fun y hy => by cases hy)⟩
  | i + 2, hi => exact absurd hi (by simp [tb_Mz7])
set_option maxRecDepth 20000 in
theorem tb_okMa : ∀ x ∈ tb_pg, plainName (hm_My x).cls = true ∧ tb_cn[hm_Mo x]? = some (hm_My x).cls ∧ hm_Ml x ≤ 45 ∧ (∀ (pc : Nat) (o : hm_O), (hm_Mi x)[pc]? = some (some o) → decode (hm_Mc x) pc = .ok (o.1, o.2.1)) ∧ ∀ y, hm_Mh x = [y] → y.2.2.2 ≠ 0 ∧ Cond.classLink (hm_My x).cls y.2.2.2 hm_xn ∈ tb_Ts ∧ Cond.castable hm_xn hm_xn ∈ tb_nw := by
  have e : tb_pg = tb_Mz0 ++ (tb_Mz1 ++ (tb_Mz2 ++ (tb_Mz3 ++ (tb_Mz4 ++ (tb_Mz5 ++ (tb_Mz6 ++ (tb_Mz7))))))) := rfl
  intro x hx
  rw [e] at hx
  rcases List.mem_append.mp hx with hx | hx
  · exact tb_okM_0 x hx
  rcases List.mem_append.mp hx with hx | hx
  · exact tb_okM_1 x hx
  rcases List.mem_append.mp hx with hx | hx
  · exact tb_okM_2 x hx
  rcases List.mem_append.mp hx with hx | hx
  · exact tb_okM_3 x hx
  rcases List.mem_append.mp hx with hx | hx
  · exact tb_okM_4 x hx
  rcases List.mem_append.mp hx with hx | hx
  · exact tb_okM_5 x hx
  rcases List.mem_append.mp hx with hx | hx
  · exact tb_okM_6 x hx
  exact tb_okM_7 x hx
theorem tb_okM : hm_okM tb_cn tb_Ts tb_nw tb_pg := fun i M h => tb_okMa M (List.mem_of_getElem? h)
theorem tb_ok : hm_ok tb_T tb_cn tb_Ts tb_nw tb_pg := ⟨tb_okT, tb_okC, tb_okL, tb_okX, tb_words.1, tb_words.2⟩
