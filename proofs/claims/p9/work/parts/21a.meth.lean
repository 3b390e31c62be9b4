/-- the instructions from lo on, n bytes, are what the bytes say -/
def hm_dec (M : hm_M) (lo n : Nat) : Bool := (List.range n).all fun k => match (hm_Mi M)[lo + k]? with
  | some (some o) => decide (decode (hm_Mc M) (lo + k) = .ok (o.1, o.2.1))
  | _ => true
theorem hm_dec_j {M : hm_M} {lo n m : Nat} (h1 : hm_dec M lo n = true) (h2 : hm_dec M (lo + n) m = true) : hm_dec M lo (n + m) = true := by
  refine List.all_eq_true.mpr fun k hk => ?_
  have hk := List.mem_range.mp hk
  by_cases e : k < n
  · exact List.all_eq_true.mp h1 k (List.mem_range.mpr e)
  · have h := List.all_eq_true.mp h2 (k - n) (List.mem_range.mpr (by omega))
    rw [show lo + n + (k - n) = lo + k by omega] at h
    exact h
theorem hm_dec_ok {M : hm_M} {n : Nat} (h : hm_dec M 0 n = true) (hn : (hm_Mi M).length = n) : ∀ (pc : Nat) (o : hm_O), (hm_Mi M)[pc]? = some (some o) → decode (hm_Mc M) pc = .ok (o.1, o.2.1) := fun pc o ho => by
  have h1 := List.all_eq_true.mp h pc (List.mem_range.mpr (by rw [← hn]; exact (List.getElem?_eq_some_iff.mp ho).1))
  rw [Nat.zero_add, ho] at h1
  exact of_decide_eq_true h1
-- HandshakeForgeLaw.law([I)Z
set_option maxRecDepth 100000 in
def tb_c0 : List (Option hm_O) := [some (.new 7, 3, 12, 0), none, none, some (.dup, 1, 6, 0), some (.invokespecial 9, 3, 14, 0), none, none, some (.astore_n 1, 1, 2, 0), some (.new 10, 3, 12, 1), none, none, some (.dup, 1, 6, 0), some (.invokespecial 12, 3, 14, 1), none, none, some (.astore_n 2, 1, 2, 0), some (.iconst 0, 1, 0, 0), some (.istore_n 3, 1, 2, 0), some (.iload_n 3, 1, 1, 0), some (.aload_n 0, 1, 1, 0), some (.arraylength, 1, 11, 2), some (.bipush 6, 2, 0, 0), none, some (.isub, 1, 3, 0), some (.if_icmp .gt 304, 3, 7, 0), none, none, some (.aload_n 0, 1, 1, 0), some (.iload_n 3, 1, 1, 0), some (.iaload, 1, 11, 0), some (.bipush 15, 2, 0, 0), none, some (.iand, 1, 3, 0), some (.tableswitch 289 0 8 #[51, 114, 137, 150, 163, 186, 219, 242, 266], 51, 8, 0), none, none, none, none, none, none, none, none, none, none, none, none, none, none, none, none, none, none, none, none, none, none, none, none, none, none, none, none, none, none, none, none, none, none, none, none, none, none, none, none, none, none, none, none, none, none, none, none, none, none, some (.aload_n 1, 1, 1, 0), some (.aload_n 0, 1, 1, 0), some (.iload_n 3, 1, 1, 0), some (.iconst 1, 1, 0, 0), some (.iadd, 1, 3, 0), some (.iaload, 1, 11, 0), some (.aload_n 0, 1, 1, 0), some (.iload_n 3, 1, 1, 0), some (.iconst 2, 1, 0, 0), some (.iadd, 1, 3, 0), some (.iaload, 1, 11, 0), some (.aload_n 0, 1, 1, 0), some (.iload_n 3, 1, 1, 0), some (.iconst 3, 1, 0, 0), some (.iadd, 1, 3, 0), some (.iaload, 1, 11, 0), some (.aload_n 0, 1, 1, 0), some (.iload_n 3, 1, 1, 0), some (.iconst 4, 1, 0, 0), some (.iadd, 1, 3, 0), some (.iaload, 1, 11, 0), some (.aload_n 0, 1, 1, 0), some (.iload_n 3, 1, 1, 0), some (.iconst 5, 1, 0, 0), some (.iadd, 1, 3, 0), some (.iaload, 1, 11, 0), some (.invokevirtual 13, 3, 14, 2), none, none, some (.pop, 1, 6, 0), some (.aload_n 2, 1, 1, 0), some (.aload_n 0, 1, 1, 0), some (.iload_n 3, 1, 1, 0), some (.iconst 1, 1, 0, 0), some (.iadd, 1, 3, 0), some (.iaload, 1, 11, 0), some (.aload_n 0, 1, 1, 0), some (.iload_n 3, 1, 1, 0), some (.iconst 2, 1, 0, 0), some (.iadd, 1, 3, 0), some (.iaload, 1, 11, 0), some (.aload_n 0, 1, 1, 0), some (.iload_n 3, 1, 1, 0), some (.iconst 3, 1, 0, 0), some (.iadd, 1, 3, 0), some (.iaload, 1, 11, 0), some (.aload_n 0, 1, 1, 0), some (.iload_n 3, 1, 1, 0), some (.iconst 4, 1, 0, 0), some (.iadd, 1, 3, 0), some (.iaload, 1, 11, 0), some (.aload_n 0, 1, 1, 0), some (.iload_n 3, 1, 1, 0), some (.iconst 5, 1, 0, 0), some (.iadd, 1, 3, 0), some (.iaload, 1, 11, 0), some (.invokevirtual 17, 3, 14, 3), none, none, some (.pop, 1, 6, 0), some (.goto 178, 3, 7, 0), none, none, some (.aload_n 1, 1, 1, 0), some (.aload_n 0, 1, 1, 0), some (.iload_n 3, 1, 1, 0), some (.iconst 1, 1, 0, 0), some (.iadd, 1, 3, 0), some (.iaload, 1, 11, 0), some (.invokevirtual 18, 3, 14, 4), none, none, some (.pop, 1, 6, 0), some (.aload_n 2, 1, 1, 0), some (.aload_n 0, 1, 1, 0), some (.iload_n 3, 1, 1, 0), some (.iconst 1, 1, 0, 0), some (.iadd, 1, 3, 0), some (.iaload, 1, 11, 0), some (.invokevirtual 22, 3, 14, 5), none, none, some (.pop, 1, 6, 0), some (.goto 155, 3, 7, 0), none, none, some (.aload_n 1, 1, 1, 0), some (.invokevirtual 23, 3, 14, 6), none, none, some (.pop, 1, 6, 0), some (.aload_n 2, 1, 1, 0), some (.invokevirtual 27, 3, 14, 7), none, none, some (.pop, 1, 6, 0), some (.goto 142, 3, 7, 0), none, none, some (.aload_n 1, 1, 1, 0), some (.invokevirtual 28, 3, 14, 8), none, none, some (.pop, 1, 6, 0), some (.aload_n 2, 1, 1, 0), some (.invokevirtual 31, 3, 14, 9), none, none, some (.pop, 1, 6, 0), some (.goto 129, 3, 7, 0), none, none, some (.aload_n 1, 1, 1, 0), some (.aload_n 0, 1, 1, 0), some (.iload_n 3, 1, 1, 0), some (.iconst 1, 1, 0, 0), some (.iadd, 1, 3, 0), some (.iaload, 1, 11, 0), some (.invokevirtual 32, 3, 14, 10), none, none, some (.pop, 1, 6, 0), some (.aload_n 2, 1, 1, 0), some (.aload_n 0, 1, 1, 0), some (.iload_n 3, 1, 1, 0), some (.iconst 1, 1, 0, 0), some (.iadd, 1, 3, 0), some (.iaload, 1, 11, 0), some (.invokevirtual 35, 3, 14, 11), none, none, some (.pop, 1, 6, 0), some (.goto 106, 3, 7, 0), none, none, some (.aload_n 1, 1, 1, 0), some (.aload_n 0, 1, 1, 0), some (.iload_n 3, 1, 1, 0), some (.iconst 1, 1, 0, 0), some (.iadd, 1, 3, 0), some (.iaload, 1, 11, 0), some (.aload_n 0, 1, 1, 0), some (.iload_n 3, 1, 1, 0), some (.iconst 2, 1, 0, 0), some (.iadd, 1, 3, 0), some (.iaload, 1, 11, 0), some (.invokevirtual 36, 3, 14, 12), none, none, some (.pop, 1, 6, 0), some (.aload_n 2, 1, 1, 0), some (.aload_n 0, 1, 1, 0), some (.iload_n 3, 1, 1, 0), some (.iconst 1, 1, 0, 0), some (.iadd, 1, 3, 0), some (.iaload, 1, 11, 0), some (.aload_n 0, 1, 1, 0), some (.iload_n 3, 1, 1, 0), some (.iconst 2, 1, 0, 0), some (.iadd, 1, 3, 0), some (.iaload, 1, 11, 0), some (.invokevirtual 40, 3, 14, 13), none, none, some (.pop, 1, 6, 0), some (.goto 73, 3, 7, 0), none, none, some (.aload_n 1, 1, 1, 0), some (.aload_n 0, 1, 1, 0), some (.iload_n 3, 1, 1, 0), some (.iconst 1, 1, 0, 0), some (.iadd, 1, 3, 0), some (.iaload, 1, 11, 0), some (.invokevirtual 41, 3, 14, 14), none, none, some (.pop2, 1, 6, 0), some (.aload_n 2, 1, 1, 0), some (.aload_n 0, 1, 1, 0), some (.iload_n 3, 1, 1, 0), some (.iconst 1, 1, 0, 0), some (.iadd, 1, 3, 0), some (.iaload, 1, 11, 0), some (.invokevirtual 45, 3, 14, 15), none, none, some (.pop2, 1, 6, 0), some (.goto 50, 3, 7, 0), none, none, some (.aload_n 1, 1, 1, 0), some (.aload_n 0, 1, 1, 0), some (.iload_n 3, 1, 1, 0), some (.iconst 1, 1, 0, 0), some (.iadd, 1, 3, 0), some (.iaload, 1, 11, 0), some (.invokevirtual 46, 3, 14, 16), none, none, some (.aload_n 2, 1, 1, 0), some (.aload_n 0, 1, 1, 0), some (.iload_n 3, 1, 1, 0), some (.iconst 1, 1, 0, 0), some (.iadd, 1, 3, 0), some (.iaload, 1, 11, 0), some (.invokevirtual 49, 3, 14, 17), none, none, some (.lcmp, 1, 6, 0), some (.ifCond .eq 28, 3, 7, 0), none, none, some (.iconst 0, 1, 0, 0), some (.ireturn, 1, 16, 0), some (.aload_n 1, 1, 1, 0), some (.aload_n 0, 1, 1, 0), some (.iload_n 3, 1, 1, 0), some (.iconst 1, 1, 0, 0), some (.iadd, 1, 3, 0), some (.iaload, 1, 11, 0), some (.invokevirtual 50, 3, 14, 18), none, none, some (.pop, 1, 6, 0), some (.aload_n 2, 1, 1, 0), some (.aload_n 0, 1, 1, 0), some (.iload_n 3, 1, 1, 0), some (.iconst 1, 1, 0, 0), some (.iadd, 1, 3, 0), some (.iaload, 1, 11, 0), some (.invokevirtual 53, 3, 14, 19), none, none, some (.pop, 1, 6, 0), some (.goto 3, 3, 7, 0), none, none, some (.iinc 3 6, 3, 6, 0), none, none, some (.goto (-307), 3, 7, 0), none, none, some (.iconst 1, 1, 0, 0), some (.ireturn, 1, 16, 0)]
def tb_M0 : hm_M := (x, 0, code, 4, (some .boolean), tb_c0, [])
set_option maxRecDepth 100000 in
theorem tb_d0_0 : hm_dec tb_M0 0 40 = true := by decide +kernel
set_option maxRecDepth 100000 in
theorem tb_d0_40 : hm_dec tb_M0 40 40 = true := by decide +kernel
set_option maxRecDepth 100000 in
theorem tb_d0_80 : hm_dec tb_M0 80 40 = true := by decide +kernel
set_option maxRecDepth 100000 in
theorem tb_d0_120 : hm_dec tb_M0 120 40 = true := by decide +kernel
set_option maxRecDepth 100000 in
theorem tb_d0_160 : hm_dec tb_M0 160 40 = true := by decide +kernel
set_option maxRecDepth 100000 in
theorem tb_d0_200 : hm_dec tb_M0 200 40 = true := by decide +kernel
set_option maxRecDepth 100000 in
theorem tb_d0_240 : hm_dec tb_M0 240 40 = true := by decide +kernel
set_option maxRecDepth 100000 in
theorem tb_d0_280 : hm_dec tb_M0 280 40 = true := by decide +kernel
set_option maxRecDepth 100000 in
theorem tb_d0_320 : hm_dec tb_M0 320 10 = true := by decide +kernel
set_option maxRecDepth 100000 in
theorem tb_d0 : hm_dec tb_M0 0 330 = true := hm_dec_j (n := 320) (m := 10) (hm_dec_j (n := 280) (m := 40) (hm_dec_j (n := 240) (m := 40) (hm_dec_j (n := 200) (m := 40) (hm_dec_j (n := 160) (m := 40) (hm_dec_j (n := 120) (m := 40) (hm_dec_j (n := 80) (m := 40) (hm_dec_j (n := 40) (m := 40) (tb_d0_0) tb_d0_40) tb_d0_80) tb_d0_120) tb_d0_160) tb_d0_200) tb_d0_240) tb_d0_280) tb_d0_320
set_option maxRecDepth 100000 in
theorem tb_e0 : (hm_Mi tb_M0).length = 330 := by decide +kernel
-- HandshakeForge.<init>()V
set_option maxRecDepth 100000 in
def tb_c1 : List (Option hm_O) := [some (.aload_n 0, 1, 1, 0), some (.invokespecial 3, 3, 15, 0), none, none, some (.aload_n 0, 1, 1, 0), some (.new 9, 3, 12, 2), none, none, some (.dup, 1, 6, 0), some (.invokespecial 11, 3, 14, 20), none, none, some (.putfield 12, 3, 9, 0), none, none, some (.aload_n 0, 1, 1, 0), some (.new 16, 3, 12, 3), none, none, some (.dup, 1, 6, 0), some (.invokespecial 18, 3, 14, 21), none, none, some (.putfield 19, 3, 9, 1), none, none, some (.aload_n 0, 1, 1, 0), some (.new 16, 3, 12, 3), none, none, some (.dup, 1, 6, 0), some (.invokespecial 18, 3, 14, 21), none, none, some (.putfield 23, 3, 9, 2), none, none, some (.aload_n 0, 1, 1, 0), some (.iconst 0, 1, 0, 0), some (.putfield 26, 3, 9, 3), none, none, some (.aload_n 0, 1, 1, 0), some (.new 30, 3, 12, 4), none, none, some (.dup, 1, 6, 0), some (.aload_n 0, 1, 1, 0), some (.getfield 12, 3, 9, 0), none, none, some (.aload_n 0, 1, 1, 0), some (.getfield 23, 3, 9, 2), none, none, some (.invokespecial 32, 3, 14, 22), none, none, some (.putfield 35, 3, 9, 4), none, none, some (.aload_n 0, 1, 1, 0), some (.new 39, 3, 12, 5), none, none, some (.dup, 1, 6, 0), some (.aload_n 0, 1, 1, 0), some (.getfield 19, 3, 9, 1), none, none, some (.invokespecial 41, 3, 14, 23), none, none, some (.putfield 44, 3, 9, 5), none, none, some (.return_, 1, 16, 0)]
def tb_M1 : hm_M := (⟨"HandshakeForge", "<init>", "()V"⟩, 1, prog_1_method_1_code, 1, none, tb_c1, [])
set_option maxRecDepth 100000 in
theorem tb_d1_0 : hm_dec tb_M1 0 40 = true := by decide +kernel
set_option maxRecDepth 100000 in
theorem tb_d1_40 : hm_dec tb_M1 40 37 = true := by decide +kernel
set_option maxRecDepth 100000 in
theorem tb_d1 : hm_dec tb_M1 0 77 = true := hm_dec_j (n := 40) (m := 37) (tb_d1_0) tb_d1_40
set_option maxRecDepth 100000 in
theorem tb_e1 : (hm_Mi tb_M1).length = 77 := by decide +kernel
-- HandshakeForge$Tape.<init>()V
set_option maxRecDepth 100000 in
def tb_c2 : List (Option hm_O) := [some (.aload_n 0, 1, 1, 0), some (.invokespecial 3, 3, 15, 1), none, none, some (.aload_n 0, 1, 1, 0), some (.sipush 2000, 3, 0, 0), none, none, some (.newarray .byte, 2, 12, 0), none, some (.putfield 9, 3, 9, 6), none, none, some (.aload_n 0, 1, 1, 0), some (.iconst 0, 1, 0, 0), some (.putfield 15, 3, 9, 7), none, none, some (.return_, 1, 16, 0)]
def tb_M2 : hm_M := (⟨"HandshakeForge$Tape", "<init>", "()V"⟩, 2, prog_6_method_1_code, 1, none, tb_c2, [])
set_option maxRecDepth 100000 in
theorem tb_d2 : hm_dec tb_M2 0 19 = true := by decide +kernel
set_option maxRecDepth 100000 in
theorem tb_e2 : (hm_Mi tb_M2).length = 19 := by decide +kernel
-- HandshakeForge$Circuit.<init>()V
set_option maxRecDepth 100000 in
def tb_c3 : List (Option hm_O) := [some (.aload_n 0, 1, 1, 0), some (.invokespecial 3, 3, 15, 2), none, none, some (.aload_n 0, 1, 1, 0), some (.sipush 2000, 3, 0, 0), none, none, some (.newarray .int, 2, 12, 0), none, some (.putfield 9, 3, 9, 8), none, none, some (.aload_n 0, 1, 1, 0), some (.sipush 2000, 3, 0, 0), none, none, some (.newarray .int, 2, 12, 0), none, some (.putfield 15, 3, 9, 9), none, none, some (.aload_n 0, 1, 1, 0), some (.sipush 2000, 3, 0, 0), none, none, some (.newarray .int, 2, 12, 0), none, some (.putfield 18, 3, 9, 10), none, none, some (.aload_n 0, 1, 1, 0), some (.sipush 2000, 3, 0, 0), none, none, some (.newarray .int, 2, 12, 0), none, some (.putfield 21, 3, 9, 11), none, none, some (.aload_n 0, 1, 1, 0), some (.sipush 2000, 3, 0, 0), none, none, some (.newarray .int, 2, 12, 0), none, some (.putfield 24, 3, 9, 12), none, none, some (.aload_n 0, 1, 1, 0), some (.new 27, 3, 12, 6), none, none, some (.dup, 1, 6, 0), some (.invokespecial 29, 3, 14, 24), none, none, some (.putfield 30, 3, 9, 13), none, none, some (.aload_n 0, 1, 1, 0), some (.bipush 6, 2, 0, 0), none, some (.newarray .int, 2, 12, 0), none, some (.putfield 34, 3, 9, 14), none, none, some (.aload_n 0, 1, 1, 0), some (.bipush 24, 2, 0, 0), none, some (.newarray .int, 2, 12, 0), none, some (.putfield 37, 3, 9, 15), none, none, some (.aload_n 0, 1, 1, 0), some (.bipush 6, 2, 0, 0), none, some (.newarray .int, 2, 12, 0), none, some (.putfield 40, 3, 9, 16), none, none, some (.aload_n 0, 1, 1, 0), some (.bipush 12, 2, 0, 0), none, some (.newarray .int, 2, 12, 0), none, some (.putfield 43, 3, 9, 17), none, none, some (.aload_n 0, 1, 1, 0), some (.bipush 12, 2, 0, 0), none, some (.newarray .int, 2, 12, 0), none, some (.putfield 46, 3, 9, 18), none, none, some (.aload_n 0, 1, 1, 0), some (.bipush 12, 2, 0, 0), none, some (.newarray .int, 2, 12, 0), none, some (.putfield 49, 3, 9, 19), none, none, some (.aload_n 0, 1, 1, 0), some (.iconst 0, 1, 0, 0), some (.putfield 52, 3, 9, 20), none, none, some (.aload_n 0, 1, 1, 0), some (.iconst (-1), 1, 0, 0), some (.putfield 56, 3, 9, 21), none, none, some (.return_, 1, 16, 0)]
def tb_M3 : hm_M := (⟨"HandshakeForge$Circuit", "<init>", "()V"⟩, 3, prog_2_method_1_code, 1, none, tb_c3, [])
set_option maxRecDepth 100000 in
theorem tb_d3_0 : hm_dec tb_M3 0 40 = true := by decide +kernel
set_option maxRecDepth 100000 in
theorem tb_d3_40 : hm_dec tb_M3 40 40 = true := by decide +kernel
set_option maxRecDepth 100000 in
theorem tb_d3_80 : hm_dec tb_M3 80 39 = true := by decide +kernel
set_option maxRecDepth 100000 in
theorem tb_d3 : hm_dec tb_M3 0 119 = true := hm_dec_j (n := 80) (m := 39) (hm_dec_j (n := 40) (m := 40) (tb_d3_0) tb_d3_40) tb_d3_80
set_option maxRecDepth 100000 in
theorem tb_e3 : (hm_Mi tb_M3).length = 119 := by decide +kernel
-- HandshakeForge$Names.<init>()V
set_option maxRecDepth 100000 in
def tb_c4 : List (Option hm_O) := [some (.aload_n 0, 1, 1, 0), some (.invokespecial 3, 3, 15, 3), none, none, some (.aload_n 0, 1, 1, 0), some (.bipush 58, 2, 0, 0), none, some (.newarray .long, 2, 12, 0), none, some (.putfield 9, 3, 9, 22), none, none, some (.aload_n 0, 1, 1, 0), some (.bipush 58, 2, 0, 0), none, some (.newarray .int, 2, 12, 0), none, some (.putfield 15, 3, 9, 23), none, none, some (.aload_n 0, 1, 1, 0), some (.bipush 58, 2, 0, 0), none, some (.newarray .int, 2, 12, 0), none, some (.putfield 19, 3, 9, 24), none, none, some (.aload_n 0, 1, 1, 0), some (.iconst 0, 1, 0, 0), some (.putfield 22, 3, 9, 25), none, none, some (.return_, 1, 16, 0)]
def tb_M4 : hm_M := (⟨"HandshakeForge$Names", "<init>", "()V"⟩, 4, prog_4_method_1_code, 1, none, tb_c4, [])
set_option maxRecDepth 100000 in
theorem tb_d4 : hm_dec tb_M4 0 34 = true := by decide +kernel
set_option maxRecDepth 100000 in
theorem tb_e4 : (hm_Mi tb_M4).length = 34 := by decide +kernel
-- HandshakeForge$Compiler.<init>(LHandshakeForge$Tape;LHandshakeForge$Circuit;)V
set_option maxRecDepth 100000 in
def tb_c5 : List (Option hm_O) := [some (.aload_n 0, 1, 1, 0), some (.invokespecial 3, 3, 15, 4), none, none, some (.aload_n 0, 1, 1, 0), some (.iconst 0, 1, 0, 0), some (.putfield 9, 3, 9, 26), none, none, some (.aload_n 0, 1, 1, 0), some (.bipush (-2), 2, 0, 0), none, some (.putfield 15, 3, 9, 27), none, none, some (.aload_n 0, 1, 1, 0), some (.sipush 210, 3, 0, 0), none, none, some (.newarray .int, 2, 12, 0), none, some (.putfield 18, 3, 9, 28), none, none, some (.aload_n 0, 1, 1, 0), some (.sipush 210, 3, 0, 0), none, none, some (.newarray .int, 2, 12, 0), none, some (.putfield 22, 3, 9, 29), none, none, some (.aload_n 0, 1, 1, 0), some (.iconst 0, 1, 0, 0), some (.putfield 25, 3, 9, 30), none, none, some (.aload_n 0, 1, 1, 0), some (.lconst 0, 1, 0, 0), some (.putfield 28, 3, 9, 31), none, none, some (.aload_n 0, 1, 1, 0), some (.lconst 0, 1, 0, 0), some (.putfield 32, 3, 9, 32), none, none, some (.aload_n 0, 1, 1, 0), some (.lconst 0, 1, 0, 0), some (.putfield 35, 3, 9, 33), none, none, some (.aload_n 0, 1, 1, 0), some (.bipush 12, 2, 0, 0), none, some (.newarray .long, 2, 12, 0), none, some (.putfield 38, 3, 9, 34), none, none, some (.aload_n 0, 1, 1, 0), some (.bipush 12, 2, 0, 0), none, some (.newarray .long, 2, 12, 0), none, some (.putfield 42, 3, 9, 35), none, none, some (.aload_n 0, 1, 1, 0), some (.bipush 12, 2, 0, 0), none, some (.newarray .long, 2, 12, 0), none, some (.putfield 45, 3, 9, 36), none, none, some (.aload_n 0, 1, 1, 0), some (.iconst (-1), 1, 0, 0), some (.putfield 48, 3, 9, 37), none, none, some (.aload_n 0, 1, 1, 0), some (.iconst 0, 1, 0, 0), some (.putfield 51, 3, 9, 38), none, none, some (.aload_n 0, 1, 1, 0), some (.iconst (-1), 1, 0, 0), some (.putfield 54, 3, 9, 39), none, none, some (.aload_n 0, 1, 1, 0), some (.iconst 0, 1, 0, 0), some (.putfield 57, 3, 9, 40), none, none, some (.aload_n 0, 1, 1, 0), some (.new 60, 3, 12, 7), none, none, some (.dup, 1, 6, 0), some (.aload_n 1, 1, 1, 0), some (.invokespecial 62, 3, 14, 25), none, none, some (.putfield 65, 3, 9, 41), none, none, some (.aload_n 0, 1, 1, 0), some (.aload_n 2, 1, 1, 0), some (.putfield 69, 3, 9, 42), none, none, some (.return_, 1, 16, 0)]
def tb_M5 : hm_M := (⟨"HandshakeForge$Compiler", "<init>", "(LHandshakeForge$Tape;LHandshakeForge$Circuit;)V"⟩, 5, prog_3_method_1_code, 3, none, tb_c5, [])
set_option maxRecDepth 100000 in
theorem tb_d5_0 : hm_dec tb_M5 0 40 = true := by decide +kernel
set_option maxRecDepth 100000 in
theorem tb_d5_40 : hm_dec tb_M5 40 40 = true := by decide +kernel
set_option maxRecDepth 100000 in
theorem tb_d5_80 : hm_dec tb_M5 80 35 = true := by decide +kernel
set_option maxRecDepth 100000 in
theorem tb_d5 : hm_dec tb_M5 0 115 = true := hm_dec_j (n := 80) (m := 35) (hm_dec_j (n := 40) (m := 40) (tb_d5_0) tb_d5_40) tb_d5_80
set_option maxRecDepth 100000 in
theorem tb_e5 : (hm_Mi tb_M5).length = 115 := by decide +kernel
-- HandshakeForge$Tokens.<init>(LHandshakeForge$Tape;)V
set_option maxRecDepth 100000 in
def tb_c6 : List (Option hm_O) := [some (.aload_n 0, 1, 1, 0), some (.invokespecial 3, 3, 15, 5), none, none, some (.aload_n 0, 1, 1, 0), some (.bipush 15, 2, 0, 0), none, some (.newarray .long, 2, 12, 0), none, some (.putfield 9, 3, 9, 43), none, none, some (.aload_n 0, 1, 1, 0), some (.sipush 2001, 3, 0, 0), none, none, some (.newarray .int, 2, 12, 0), none, some (.putfield 15, 3, 9, 44), none, none, some (.aload_n 0, 1, 1, 0), some (.sipush 2001, 3, 0, 0), none, none, some (.newarray .int, 2, 12, 0), none, some (.putfield 19, 3, 9, 45), none, none, some (.aload_n 0, 1, 1, 0), some (.sipush 2001, 3, 0, 0), none, none, some (.newarray .long, 2, 12, 0), none, some (.putfield 22, 3, 9, 46), none, none, some (.aload_n 0, 1, 1, 0), some (.iconst 0, 1, 0, 0), some (.putfield 25, 3, 9, 47), none, none, some (.aload_n 0, 1, 1, 0), some (.iconst 0, 1, 0, 0), some (.putfield 29, 3, 9, 48), none, none, some (.aload_n 0, 1, 1, 0), some (.aload_n 1, 1, 1, 0), some (.putfield 32, 3, 9, 49), none, none, some (.iconst 0, 1, 0, 0), some (.istore_n 2, 1, 2, 0), some (.iconst 0, 1, 0, 0), some (.istore_n 3, 1, 2, 0), some (.iload_n 3, 1, 1, 0), some (.ldc 36, 2, 18, 0), none, some (.invokevirtual 38, 3, 14, 26), none, none, some (.if_icmp .ge 55, 3, 7, 0), none, none, some (.iload_n 2, 1, 1, 0), some (.bipush 15, 2, 0, 0), none, some (.if_icmp .ge 49, 3, 7, 0), none, none, some (.ldc 36, 2, 18, 0), none, some (.iload_n 3, 1, 1, 0), some (.invokevirtual 44, 3, 14, 27), none, none, some (.bipush 32, 2, 0, 0), none, some (.if_icmp .ne 9, 3, 7, 0), none, none, some (.iinc 2 1, 3, 6, 0), none, none, some (.goto 26, 3, 7, 0), none, none, some (.aload_n 0, 1, 1, 0), some (.getfield 9, 3, 9, 43), none, none, some (.iload_n 2, 1, 1, 0), some (.aload_n 0, 1, 1, 0), some (.getfield 9, 3, 9, 43), none, none, some (.iload_n 2, 1, 1, 0), some (.laload, 1, 11, 0), some (.bipush 8, 2, 0, 0), none, some (.lshl, 1, 6, 0), some (.ldc 36, 2, 18, 0), none, some (.iload_n 3, 1, 1, 0), some (.invokevirtual 44, 3, 14, 27), none, none, some (.i2l, 1, 5, 0), some (.lor, 1, 4, 0), some (.lastore, 1, 11, 1), some (.iinc 3 1, 3, 6, 0), none, none, some (.goto (-58), 3, 7, 0), none, none, some (.return_, 1, 16, 0)]
def tb_M6 : hm_M := (⟨"HandshakeForge$Tokens", "<init>", "(LHandshakeForge$Tape;)V"⟩, 6, prog_7_method_1_code, 4, none, tb_c6, [])
set_option maxRecDepth 100000 in
theorem tb_d6_0 : hm_dec tb_M6 0 40 = true := by decide +kernel
set_option maxRecDepth 100000 in
theorem tb_d6_40 : hm_dec tb_M6 40 40 = true := by decide +kernel
set_option maxRecDepth 100000 in
theorem tb_d6_80 : hm_dec tb_M6 80 40 = true := by decide +kernel
set_option maxRecDepth 100000 in
theorem tb_d6 : hm_dec tb_M6 0 120 = true := hm_dec_j (n := 80) (m := 40) (hm_dec_j (n := 40) (m := 40) (tb_d6_0) tb_d6_40) tb_d6_80
set_option maxRecDepth 100000 in
theorem tb_e6 : (hm_Mi tb_M6).length = 120 := by decide +kernel
-- java/lang/String.length()I
set_option maxRecDepth 100000 in
def tb_c7 : List (Option hm_O) := [some (.aload_n 0, 1, 1, 0), some (.getfield 9, 3, 10, 0), none, none, some (.arraylength, 1, 11, 2), some (.aload_n 0, 1, 1, 0), some (.invokevirtual 335, 3, 14, 28), none, none, some (.ishr, 1, 3, 0), some (.ireturn, 1, 16, 0)]
def tb_M7 : hm_M := (⟨"java/lang/String", "length", "()I"⟩, 7, prog_17_method_54_code, 1, (some .int), tb_c7, [])
set_option maxRecDepth 100000 in
theorem tb_d7 : hm_dec tb_M7 0 11 = true := by decide +kernel
set_option maxRecDepth 100000 in
theorem tb_e7 : (hm_Mi tb_M7).length = 11 := by decide +kernel
-- java/lang/String.coder()B
set_option maxRecDepth 100000 in
def tb_c8 : List (Option hm_O) := [some (.getstatic 38, 3, 19, 0), none, none, some (.ifCond .eq 10, 3, 7, 0), none, none, some (.aload_n 0, 1, 1, 0), some (.getfield 15, 3, 10, 1), none, none, some (.goto 4, 3, 7, 0), none, none, some (.iconst 1, 1, 0, 0), some (.ireturn, 1, 16, 0)]
def tb_M8 : hm_M := (⟨"java/lang/String", "coder", "()B"⟩, 7, prog_17_method_152_code, 1, (some .byte), tb_c8, [])
set_option maxRecDepth 100000 in
theorem tb_d8 : hm_dec tb_M8 0 15 = true := by decide +kernel
set_option maxRecDepth 100000 in
theorem tb_e8 : (hm_Mi tb_M8).length = 15 := by decide +kernel
-- java/lang/String.charAt(I)C
set_option maxRecDepth 100000 in
def tb_c9 : List (Option hm_O) := [some (.aload_n 0, 1, 1, 0), some (.invokevirtual 492, 3, 14, 29), none, none, some (.ifCond .eq 12, 3, 7, 0), none, none, some (.aload_n 0, 1, 1, 0), some (.getfield 9, 3, 10, 0), none, none, some (.iload_n 1, 1, 1, 0), some (.invokestatic 495, 3, 14, 30), none, none, some (.ireturn, 1, 16, 0), some (.aload_n 0, 1, 1, 0), some (.getfield 9, 3, 10, 0), none, none, some (.iload_n 1, 1, 1, 0), some (.invokestatic 498, 3, 99, 0), none, none, some (.ireturn, 1, 16, 0)]
def tb_M9 : hm_M := (⟨"java/lang/String", "charAt", "(I)C"⟩, 7, prog_17_method_56_code, 2, (some .char), tb_c9, [])
set_option maxRecDepth 100000 in
theorem tb_d9 : hm_dec tb_M9 0 25 = true := by decide +kernel
set_option maxRecDepth 100000 in
theorem tb_e9 : (hm_Mi tb_M9).length = 25 := by decide +kernel
-- java/lang/String.isLatin1()Z
set_option maxRecDepth 100000 in
def tb_c10 : List (Option hm_O) := [some (.getstatic 38, 3, 19, 0), none, none, some (.ifCond .eq 14, 3, 7, 0), none, none, some (.aload_n 0, 1, 1, 0), some (.getfield 15, 3, 10, 1), none, none, some (.ifCond .ne 7, 3, 7, 0), none, none, some (.iconst 1, 1, 0, 0), some (.goto 4, 3, 7, 0), none, none, some (.iconst 0, 1, 0, 0), some (.ireturn, 1, 16, 0)]
def tb_M10 : hm_M := (⟨"java/lang/String", "isLatin1", "()Z"⟩, 7, prog_17_method_154_code, 1, (some .boolean), tb_c10, [])
set_option maxRecDepth 100000 in
theorem tb_d10 : hm_dec tb_M10 0 19 = true := by decide +kernel
set_option maxRecDepth 100000 in
theorem tb_e10 : (hm_Mi tb_M10).length = 19 := by decide +kernel
-- java/lang/StringLatin1.charAt([BI)C
set_option maxRecDepth 100000 in
def tb_c11 : List (Option hm_O) := [some (.iload_n 1, 1, 1, 0), some (.aload_n 0, 1, 1, 0), some (.arraylength, 1, 11, 2), some (.invokestatic 9, 3, 14, 31), none, none, some (.aload_n 0, 1, 1, 0), some (.iload_n 1, 1, 1, 0), some (.baload, 1, 11, 0), some (.sipush 255, 3, 0, 0), none, none, some (.iand, 1, 3, 0), some (.i2c, 1, 5, 0), some (.ireturn, 1, 16, 0)]
def tb_M11 : hm_M := (⟨"java/lang/StringLatin1", "charAt", "([BI)C"⟩, 8, prog_18_method_2_code, 2, (some .char), tb_c11, [])
set_option maxRecDepth 100000 in
theorem tb_d11 : hm_dec tb_M11 0 15 = true := by decide +kernel
set_option maxRecDepth 100000 in
theorem tb_e11 : (hm_Mi tb_M11).length = 15 := by decide +kernel
-- java/lang/String.checkIndex(II)V
set_option maxRecDepth 100000 in
def tb_c12 : List (Option hm_O) := [some (.iload_n 0, 1, 1, 0), some (.iload_n 1, 1, 1, 0), some (.getstatic 1053, 3, 19, 1), none, none, some (.invokestatic 1059, 3, 14, 32), none, none, some (.pop, 1, 6, 0), some (.return_, 1, 16, 0)]
def tb_M12 : hm_M := (⟨"java/lang/String", "checkIndex", "(II)V"⟩, 7, prog_17_method_155_code, 2, none, tb_c12, [])
set_option maxRecDepth 100000 in
theorem tb_d12 : hm_dec tb_M12 0 10 = true := by decide +kernel
set_option maxRecDepth 100000 in
theorem tb_e12 : (hm_Mi tb_M12).length = 10 := by decide +kernel
-- jdk/internal/util/Preconditions.checkIndex(IILjava/util/function/BiFunction;)I
set_option maxRecDepth 100000 in
def tb_c13 : List (Option hm_O) := [some (.iload_n 0, 1, 1, 0), some (.ifCond .lt 8, 3, 7, 0), none, none, some (.iload_n 0, 1, 1, 0), some (.iload_n 1, 1, 1, 0), some (.if_icmp .lt 10, 3, 7, 0), none, none, some (.aload_n 2, 1, 1, 0), some (.iload_n 0, 1, 1, 0), some (.iload_n 1, 1, 1, 0), some (.invokestatic 95, 3, 99, 0), none, none, some (.athrow, 1, 99, 0), some (.iload_n 0, 1, 1, 0), some (.ireturn, 1, 16, 0)]
def tb_M13 : hm_M := (⟨"jdk/internal/util/Preconditions", "checkIndex", "(IILjava/util/function/BiFunction;)I"⟩, 9, prog_23_method_11_code, 3, (some .int), tb_c13, [])
set_option maxRecDepth 100000 in
theorem tb_d13 : hm_dec tb_M13 0 18 = true := by decide +kernel
set_option maxRecDepth 100000 in
theorem tb_e13 : (hm_Mi tb_M13).length = 18 := by decide +kernel
-- HandshakeForge$Work.<init>(LHandshakeForge$Circuit;)V
set_option maxRecDepth 100000 in
def tb_c14 : List (Option hm_O) := [some (.aload_n 0, 1, 1, 0), some (.invokespecial 3, 3, 15, 6), none, none, some (.aload_n 0, 1, 1, 0), some (.sipush 2000, 3, 0, 0), none, none, some (.newarray .int, 2, 12, 0), none, some (.putfield 9, 3, 9, 50), none, none, some (.aload_n 0, 1, 1, 0), some (.sipush 2000, 3, 0, 0), none, none, some (.newarray .int, 2, 12, 0), none, some (.putfield 15, 3, 9, 51), none, none, some (.aload_n 0, 1, 1, 0), some (.sipush 2000, 3, 0, 0), none, none, some (.newarray .int, 2, 12, 0), none, some (.putfield 18, 3, 9, 52), none, none, some (.aload_n 0, 1, 1, 0), some (.sipush 2000, 3, 0, 0), none, none, some (.newarray .int, 2, 12, 0), none, some (.putfield 21, 3, 9, 53), none, none, some (.aload_n 0, 1, 1, 0), some (.sipush 2000, 3, 0, 0), none, none, some (.newarray .int, 2, 12, 0), none, some (.putfield 24, 3, 9, 54), none, none, some (.aload_n 0, 1, 1, 0), some (.iconst 0, 1, 0, 0), some (.putfield 27, 3, 9, 55), none, none, some (.aload_n 0, 1, 1, 0), some (.bipush 24, 2, 0, 0), none, some (.newarray .int, 2, 12, 0), none, some (.putfield 31, 3, 9, 56), none, none, some (.aload_n 0, 1, 1, 0), some (.sipush 384, 3, 0, 0), none, none, some (.newarray .int, 2, 12, 0), none, some (.putfield 34, 3, 9, 57), none, none, some (.aload_n 0, 1, 1, 0), some (.iconst 4, 1, 0, 0), some (.anewarray 37, 3, 12, 0), none, none, some (.putfield 39, 3, 9, 58), none, none, some (.aload_n 0, 1, 1, 0), some (.iconst 4, 1, 0, 0), some (.anewarray 37, 3, 12, 0), none, none, some (.putfield 43, 3, 9, 59), none, none, some (.aload_n 0, 1, 1, 0), some (.bipush 12, 2, 0, 0), none, some (.newarray .int, 2, 12, 0), none, some (.putfield 46, 3, 9, 60), none, none, some (.aload_n 0, 1, 1, 0), some (.bipush 12, 2, 0, 0), none, some (.newarray .int, 2, 12, 0), none, some (.putfield 49, 3, 9, 61), none, none, some (.aload_n 0, 1, 1, 0), some (.iconst 0, 1, 0, 0), some (.putfield 52, 3, 9, 62), none, none, some (.aload_n 0, 1, 1, 0), some (.iconst 0, 1, 0, 0), some (.putfield 56, 3, 9, 63), none, none, some (.aload_n 0, 1, 1, 0), some (.iconst 0, 1, 0, 0), some (.putfield 59, 3, 9, 64), none, none, some (.aload_n 0, 1, 1, 0), some (.aload_n 1, 1, 1, 0), some (.putfield 62, 3, 9, 65), none, none, some (.iconst 0, 1, 0, 0), some (.istore_n 2, 1, 2, 0), some (.iload_n 2, 1, 1, 0), some (.iconst 4, 1, 0, 0), some (.if_icmp .ge 22, 3, 7, 0), none, none, some (.aload_n 0, 1, 1, 0), some (.getfield 39, 3, 9, 58), none, none, some (.iload_n 2, 1, 1, 0), some (.new 37, 3, 12, 8), none, none, some (.dup, 1, 6, 0), some (.invokespecial 66, 3, 14, 33), none, none, some (.aastore, 1, 11, 3), some (.iinc 2 1, 3, 6, 0), none, none, some (.goto (-21), 3, 7, 0), none, none, some (.iconst 0, 1, 0, 0), some (.istore_n 2, 1, 2, 0), some (.iload_n 2, 1, 1, 0), some (.iconst 4, 1, 0, 0), some (.if_icmp .ge 22, 3, 7, 0), none, none, some (.aload_n 0, 1, 1, 0), some (.getfield 43, 3, 9, 59), none, none, some (.iload_n 2, 1, 1, 0), some (.new 37, 3, 12, 8), none, none, some (.dup, 1, 6, 0), some (.invokespecial 66, 3, 14, 33), none, none, some (.aastore, 1, 11, 3), some (.iinc 2 1, 3, 6, 0), none, none, some (.goto (-21), 3, 7, 0), none, none, some (.return_, 1, 16, 0)]
def tb_M14 : hm_M := (⟨"HandshakeForge$Work", "<init>", "(LHandshakeForge$Circuit;)V"⟩, 10, prog_8_method_1_code, 3, none, tb_c14, [])
set_option maxRecDepth 100000 in
theorem tb_d14_0 : hm_dec tb_M14 0 40 = true := by decide +kernel
set_option maxRecDepth 100000 in
theorem tb_d14_40 : hm_dec tb_M14 40 40 = true := by decide +kernel
set_option maxRecDepth 100000 in
theorem tb_d14_80 : hm_dec tb_M14 80 40 = true := by decide +kernel
set_option maxRecDepth 100000 in
theorem tb_d14_120 : hm_dec tb_M14 120 40 = true := by decide +kernel
set_option maxRecDepth 100000 in
theorem tb_d14_160 : hm_dec tb_M14 160 16 = true := by decide +kernel
set_option maxRecDepth 100000 in
theorem tb_d14 : hm_dec tb_M14 0 176 = true := hm_dec_j (n := 160) (m := 16) (hm_dec_j (n := 120) (m := 40) (hm_dec_j (n := 80) (m := 40) (hm_dec_j (n := 40) (m := 40) (tb_d14_0) tb_d14_40) tb_d14_80) tb_d14_120) tb_d14_160
set_option maxRecDepth 100000 in
theorem tb_e14 : (hm_Mi tb_M14).length = 176 := by decide +kernel
-- HandshakeForge$Queue.<init>()V
set_option maxRecDepth 100000 in
def tb_c15 : List (Option hm_O) := [some (.aload_n 0, 1, 1, 0), some (.invokespecial 3, 3, 15, 7), none, none, some (.aload_n 0, 1, 1, 0), some (.bipush 40, 2, 0, 0), none, some (.newarray .int, 2, 12, 0), none, some (.putfield 9, 3, 9, 66), none, none, some (.aload_n 0, 1, 1, 0), some (.iconst 0, 1, 0, 0), some (.putfield 15, 3, 9, 67), none, none, some (.aload_n 0, 1, 1, 0), some (.iconst 0, 1, 0, 0), some (.putfield 19, 3, 9, 68), none, none, some (.return_, 1, 16, 0)]
def tb_M15 : hm_M := (⟨"HandshakeForge$Queue", "<init>", "()V"⟩, 11, prog_5_method_1_code, 1, none, tb_c15, [])
set_option maxRecDepth 100000 in
theorem tb_d15 : hm_dec tb_M15 0 23 = true := by decide +kernel
set_option maxRecDepth 100000 in
theorem tb_e15 : (hm_Mi tb_M15).length = 23 := by decide +kernel
-- HandshakeForge.feed(IIIII)I
set_option maxRecDepth 100000 in
def tb_c16 : List (Option hm_O) := [some (.aload_n 0, 1, 1, 0), some (.getfield 12, 3, 9, 0), none, none, some (.getfield 48, 3, 9, 69), none, none, some (.bipush 20, 2, 0, 0), none, some (.iadd, 1, 3, 0), some (.sipush 2000, 3, 0, 0), none, none, some (.if_icmp .le 6, 3, 7, 0), none, none, some (.bipush (-3), 2, 0, 0), none, some (.ireturn, 1, 16, 0), some (.aload_n 0, 1, 1, 0), some (.getfield 12, 3, 9, 0), none, none, some (.iload_n 1, 1, 1, 0), some (.invokevirtual 52, 3, 14, 34), none, none, some (.aload_n 0, 1, 1, 0), some (.getfield 12, 3, 9, 0), none, none, some (.iload_n 2, 1, 1, 0), some (.invokevirtual 52, 3, 14, 34), none, none, some (.aload_n 0, 1, 1, 0), some (.getfield 12, 3, 9, 0), none, none, some (.iload_n 3, 1, 1, 0), some (.invokevirtual 52, 3, 14, 34), none, none, some (.aload_n 0, 1, 1, 0), some (.getfield 12, 3, 9, 0), none, none, some (.iload 4, 2, 1, 0), none, some (.invokevirtual 52, 3, 14, 34), none, none, some (.aload_n 0, 1, 1, 0), some (.getfield 12, 3, 9, 0), none, none, some (.iload 5, 2, 1, 0), none, some (.invokevirtual 52, 3, 14, 34), none, none, some (.aload_n 0, 1, 1, 0), some (.getfield 12, 3, 9, 0), none, none, some (.getfield 48, 3, 9, 69), none, none, some (.ireturn, 1, 16, 0)]
def tb_M16 : hm_M := (⟨"HandshakeForge", "feed", "(IIIII)I"⟩, 1, prog_1_method_2_code, 6, (some .int), tb_c16, [])
set_option maxRecDepth 100000 in
theorem tb_d16_0 : hm_dec tb_M16 0 40 = true := by decide +kernel
set_option maxRecDepth 100000 in
theorem tb_d16_40 : hm_dec tb_M16 40 29 = true := by decide +kernel
set_option maxRecDepth 100000 in
theorem tb_d16 : hm_dec tb_M16 0 69 = true := hm_dec_j (n := 40) (m := 29) (tb_d16_0) tb_d16_40
set_option maxRecDepth 100000 in
theorem tb_e16 : (hm_Mi tb_M16).length = 69 := by decide +kernel
-- HandshakeForge$Tape.add(I)V
set_option maxRecDepth 100000 in
def tb_c17 : List (Option hm_O) := [some (.bipush 24, 2, 0, 0), none, some (.istore_n 2, 1, 2, 0), some (.iload_n 2, 1, 1, 0), some (.ifCond .lt 42, 3, 7, 0), none, none, some (.aload_n 0, 1, 1, 0), some (.getfield 15, 3, 9, 7), none, none, some (.sipush 2000, 3, 0, 0), none, none, some (.if_icmp .ge 32, 3, 7, 0), none, none, some (.aload_n 0, 1, 1, 0), some (.getfield 9, 3, 9, 6), none, none, some (.aload_n 0, 1, 1, 0), some (.getfield 15, 3, 9, 7), none, none, some (.iload_n 1, 1, 1, 0), some (.iload_n 2, 1, 1, 0), some (.ishr, 1, 3, 0), some (.i2b, 1, 5, 0), some (.bastore, 1, 11, 1), some (.aload_n 0, 1, 1, 0), some (.dup, 1, 6, 0), some (.getfield 15, 3, 9, 7), none, none, some (.iconst 1, 1, 0, 0), some (.iadd, 1, 3, 0), some (.putfield 15, 3, 9, 7), none, none, some (.iinc 2 (-8), 3, 6, 0), none, none, some (.goto (-40), 3, 7, 0), none, none, some (.return_, 1, 16, 0)]
def tb_M17 : hm_M := (⟨"HandshakeForge$Tape", "add", "(I)V"⟩, 2, prog_6_method_2_code, 3, none, tb_c17, [])
set_option maxRecDepth 100000 in
theorem tb_d17_0 : hm_dec tb_M17 0 40 = true := by decide +kernel
set_option maxRecDepth 100000 in
theorem tb_d17_40 : hm_dec tb_M17 40 7 = true := by decide +kernel
set_option maxRecDepth 100000 in
theorem tb_d17 : hm_dec tb_M17 0 47 = true := hm_dec_j (n := 40) (m := 7) (tb_d17_0) tb_d17_40
set_option maxRecDepth 100000 in
theorem tb_e17 : (hm_Mi tb_M17).length = 47 := by decide +kernel
-- HandshakeForge.end(I)I
set_option maxRecDepth 100000 in
def tb_c18 : List (Option hm_O) := [some (.iload_n 1, 1, 1, 0), some (.ifCond .lt 14, 3, 7, 0), none, none, some (.iload_n 1, 1, 1, 0), some (.aload_n 0, 1, 1, 0), some (.getfield 12, 3, 9, 0), none, none, some (.getfield 48, 3, 9, 69), none, none, some (.if_icmp .le 5, 3, 7, 0), none, none, some (.iconst (-1), 1, 0, 0), some (.ireturn, 1, 16, 0), some (.aload_n 0, 1, 1, 0), some (.getfield 12, 3, 9, 0), none, none, some (.iload_n 1, 1, 1, 0), some (.putfield 48, 3, 9, 69), none, none, some (.iload_n 1, 1, 1, 0), some (.ireturn, 1, 16, 0)]
def tb_M18 : hm_M := (⟨"HandshakeForge", "end", "(I)I"⟩, 1, prog_1_method_3_code, 2, (some .int), tb_c18, [])
set_option maxRecDepth 100000 in
theorem tb_d18 : hm_dec tb_M18 0 27 = true := by decide +kernel
set_option maxRecDepth 100000 in
theorem tb_e18 : (hm_Mi tb_M18).length = 27 := by decide +kernel
-- HandshakeForge.compile()I
set_option maxRecDepth 100000 in
def tb_c19 : List (Option hm_O) := [some (.bipush (-2), 2, 0, 0), none, some (.istore_n 1, 1, 2, 0), some (.aload_n 0, 1, 1, 0), some (.getfield 35, 3, 9, 4), none, none, some (.aload_n 0, 1, 1, 0), some (.getfield 23, 3, 9, 2), none, none, some (.invokevirtual 56, 3, 14, 35), none, none, some (.aload_n 0, 1, 1, 0), some (.getfield 35, 3, 9, 4), none, none, some (.getfield 59, 3, 9, 70), none, none, some (.istore_n 1, 1, 2, 0), some (.goto 12, 3, 7, 0), none, none, some (.astore_n 2, 1, 2, 0), some (.aload_n 0, 1, 1, 0), some (.getfield 35, 3, 9, 4), none, none, some (.getfield 64, 3, 9, 71), none, none, some (.istore_n 1, 1, 2, 0), some (.aload_n 0, 1, 1, 0), some (.getfield 12, 3, 9, 0), none, none, some (.iconst 0, 1, 0, 0), some (.putfield 48, 3, 9, 69), none, none, some (.iload_n 1, 1, 1, 0), some (.bipush (-2), 2, 0, 0), none, some (.if_icmp .ne 37, 3, 7, 0), none, none, some (.aload_n 0, 1, 1, 0), some (.getfield 19, 3, 9, 1), none, none, some (.astore_n 2, 1, 2, 0), some (.aload_n 0, 1, 1, 0), some (.aload_n 0, 1, 1, 0), some (.getfield 23, 3, 9, 2), none, none, some (.putfield 19, 3, 9, 1), none, none, some (.aload_n 0, 1, 1, 0), some (.aload_n 2, 1, 1, 0), some (.putfield 23, 3, 9, 2), none, none, some (.aload_n 0, 1, 1, 0), some (.iconst 1, 1, 0, 0), some (.putfield 26, 3, 9, 3), none, none, some (.aload_n 0, 1, 1, 0), some (.getfield 44, 3, 9, 5), none, none, some (.aload_n 0, 1, 1, 0), some (.getfield 19, 3, 9, 1), none, none, some (.invokevirtual 67, 3, 14, 36), none, none, some (.iload_n 1, 1, 1, 0), some (.ireturn, 1, 16, 0)]
def tb_M19 : hm_M := (⟨"HandshakeForge", "compile", "()I"⟩, 1, prog_1_method_4_code, 3, (some .int), tb_c19, [(3, 22, 25, 62)])
set_option maxRecDepth 100000 in
theorem tb_d19_0 : hm_dec tb_M19 0 40 = true := by decide +kernel
set_option maxRecDepth 100000 in
theorem tb_d19_40 : hm_dec tb_M19 40 40 = true := by decide +kernel
set_option maxRecDepth 100000 in
theorem tb_d19_80 : hm_dec tb_M19 80 4 = true := by decide +kernel
set_option maxRecDepth 100000 in
theorem tb_d19 : hm_dec tb_M19 0 84 = true := hm_dec_j (n := 80) (m := 4) (hm_dec_j (n := 40) (m := 40) (tb_d19_0) tb_d19_40) tb_d19_80
set_option maxRecDepth 100000 in
theorem tb_e19 : (hm_Mi tb_M19).length = 84 := by decide +kernel
-- HandshakeForge$Compiler.program(LHandshakeForge$Circuit;)V
set_option maxRecDepth 100000 in
def tb_c20 : List (Option hm_O) := [some (.aload_n 0, 1, 1, 0), some (.aload_n 1, 1, 1, 0), some (.putfield 69, 3, 9, 42), none, none, some (.aload_n 0, 1, 1, 0), some (.getfield 69, 3, 9, 42), none, none, some (.invokevirtual 73, 3, 14, 37), none, none, some (.aload_n 0, 1, 1, 0), some (.bipush (-2), 2, 0, 0), none, some (.putfield 15, 3, 9, 27), none, none, some (.aload_n 0, 1, 1, 0), some (.iconst 0, 1, 0, 0), some (.putfield 25, 3, 9, 30), none, none, some (.aload_n 0, 1, 1, 0), some (.iconst (-1), 1, 0, 0), some (.putfield 48, 3, 9, 37), none, none, some (.aload_n 0, 1, 1, 0), some (.iconst 0, 1, 0, 0), some (.putfield 51, 3, 9, 38), none, none, some (.aload_n 0, 1, 1, 0), some (.getfield 65, 3, 9, 41), none, none, some (.invokevirtual 78, 3, 14, 38), none, none, some (.iconst 0, 1, 0, 0), some (.istore_n 2, 1, 2, 0), some (.iload_n 2, 1, 1, 0), some (.sipush 2000, 3, 0, 0), none, none, some (.if_icmp .ge 142, 3, 7, 0), none, none, some (.aload_n 0, 1, 1, 0), some (.getfield 65, 3, 9, 41), none, none, some (.invokevirtual 81, 3, 14, 39), none, none, some (.sipush 300, 3, 0, 0), none, none, some (.if_icmp .lt 129, 3, 7, 0), none, none, some (.aload_n 0, 1, 1, 0), some (.getfield 65, 3, 9, 41), none, none, some (.invokevirtual 81, 3, 14, 39), none, none, some (.sipush 307, 3, 0, 0), none, none, some (.if_icmp .gt 116, 3, 7, 0), none, none, some (.aload_n 0, 1, 1, 0), some (.getfield 65, 3, 9, 41), none, none, some (.invokevirtual 81, 3, 14, 39), none, none, some (.istore_n 3, 1, 2, 0), some (.aload_n 0, 1, 1, 0), some (.getfield 65, 3, 9, 41), none, none, some (.invokevirtual 85, 3, 14, 40), none, none, some (.iload_n 3, 1, 1, 0), some (.sipush 306, 3, 0, 0), none, none, some (.if_icmp .eq 10, 3, 7, 0), none, none, some (.iload_n 3, 1, 1, 0), some (.sipush 307, 3, 0, 0), none, none, some (.if_icmp .ne 76, 3, 7, 0), none, none, some (.aload_n 0, 1, 1, 0), some (.iload_n 3, 1, 1, 0), some (.sipush 307, 3, 0, 0), none, none, some (.if_icmp .ne 8, 3, 7, 0), none, none, some (.bipush 6, 2, 0, 0), none, some (.goto 4, 3, 7, 0), none, none, some (.iconst 5, 1, 0, 0), some (.invokevirtual 88, 3, 14, 41), none, none, some (.istore 4, 2, 2, 0), none, some (.aload_n 0, 1, 1, 0), some (.getfield 69, 3, 9, 42), none, none, some (.getfield 92, 3, 9, 72), none, none, some (.getfield 96, 3, 9, 73), none, none, some (.aload_n 0, 1, 1, 0), some (.getfield 69, 3, 9, 42), none, none, some (.iload 4, 2, 1, 0), none, some (.invokevirtual 101, 3, 14, 42), none, none, some (.isub, 1, 3, 0), some (.istore 5, 2, 2, 0), none, some (.aload_n 0, 1, 1, 0), some (.iload 4, 2, 1, 0), none, some (.iload_n 3, 1, 1, 0), some (.sipush 307, 3, 0, 0), none, none, some (.if_icmp .ne 12, 3, 7, 0), none, none, some (.aload_n 0, 1, 1, 0), some (.iload 5, 2, 1, 0), none, some (.invokevirtual 104, 3, 14, 43), none, none, some (.goto 10, 3, 7, 0), none, none, some (.aload_n 0, 1, 1, 0), some (.iconst 0, 1, 0, 0), some (.iload 5, 2, 1, 0), none, some (.invokevirtual 107, 3, 14, 44), none, none, some (.invokevirtual 111, 3, 14, 45), none, none, some (.goto 8, 3, 7, 0), none, none, some (.aload_n 0, 1, 1, 0), some (.iload_n 3, 1, 1, 0), some (.invokevirtual 115, 3, 14, 46), none, none, some (.iinc 2 1, 3, 6, 0), none, none, some (.goto (-143), 3, 7, 0), none, none, some (.aload_n 0, 1, 1, 0), some (.getfield 69, 3, 9, 42), none, none, some (.aload_n 0, 1, 1, 0), some (.iconst 0, 1, 0, 0), some (.aload_n 0, 1, 1, 0), some (.getfield 69, 3, 9, 42), none, none, some (.getfield 92, 3, 9, 72), none, none, some (.getfield 96, 3, 9, 73), none, none, some (.invokevirtual 107, 3, 14, 44), none, none, some (.putfield 119, 3, 9, 74), none, none, some (.aload_n 0, 1, 1, 0), some (.aload_n 0, 1, 1, 0), some (.getfield 65, 3, 9, 41), none, none, some (.invokevirtual 81, 3, 14, 39), none, none, some (.iconst 3, 1, 0, 0), some (.if_icmp .ne 7, 3, 7, 0), none, none, some (.iconst 1, 1, 0, 0), some (.goto 4, 3, 7, 0), none, none, some (.iconst 0, 1, 0, 0), some (.aload_n 0, 1, 1, 0), some (.getfield 65, 3, 9, 41), none, none, some (.invokevirtual 122, 3, 14, 47), none, none, some (.invokevirtual 125, 3, 14, 48), none, none, some (.return_, 1, 16, 0)]
def tb_M20 : hm_M := (⟨"HandshakeForge$Compiler", "program", "(LHandshakeForge$Circuit;)V"⟩, 5, prog_3_method_2_code, 6, none, tb_c20, [])
set_option maxRecDepth 100000 in
theorem tb_d20_0 : hm_dec tb_M20 0 40 = true := by decide +kernel
set_option maxRecDepth 100000 in
theorem tb_d20_40 : hm_dec tb_M20 40 40 = true := by decide +kernel
set_option maxRecDepth 100000 in
theorem tb_d20_80 : hm_dec tb_M20 80 40 = true := by decide +kernel
set_option maxRecDepth 100000 in
theorem tb_d20_120 : hm_dec tb_M20 120 40 = true := by decide +kernel
set_option maxRecDepth 100000 in
theorem tb_d20_160 : hm_dec tb_M20 160 40 = true := by decide +kernel
set_option maxRecDepth 100000 in
theorem tb_d20_200 : hm_dec tb_M20 200 38 = true := by decide +kernel
set_option maxRecDepth 100000 in
theorem tb_d20 : hm_dec tb_M20 0 238 = true := hm_dec_j (n := 200) (m := 38) (hm_dec_j (n := 160) (m := 40) (hm_dec_j (n := 120) (m := 40) (hm_dec_j (n := 80) (m := 40) (hm_dec_j (n := 40) (m := 40) (tb_d20_0) tb_d20_40) tb_d20_80) tb_d20_120) tb_d20_160) tb_d20_200
set_option maxRecDepth 100000 in
theorem tb_e20 : (hm_Mi tb_M20).length = 238 := by decide +kernel
-- HandshakeForge$Circuit.clear()V
set_option maxRecDepth 100000 in
def tb_c21 : List (Option hm_O) := [some (.aload_n 0, 1, 1, 0), some (.getfield 30, 3, 9, 13), none, none, some (.iconst 0, 1, 0, 0), some (.invokevirtual 59, 3, 14, 49), none, none, some (.aload_n 0, 1, 1, 0), some (.getfield 34, 3, 9, 14), none, none, some (.iconst 0, 1, 0, 0), some (.invokestatic 63, 3, 14, 50), none, none, some (.aload_n 0, 1, 1, 0), some (.iconst 0, 1, 0, 0), some (.putfield 52, 3, 9, 20), none, none, some (.aload_n 0, 1, 1, 0), some (.iconst (-1), 1, 0, 0), some (.putfield 56, 3, 9, 21), none, none, some (.return_, 1, 16, 0)]
def tb_M21 : hm_M := (⟨"HandshakeForge$Circuit", "clear", "()V"⟩, 3, prog_2_method_2_code, 1, none, tb_c21, [])
set_option maxRecDepth 100000 in
theorem tb_d21 : hm_dec tb_M21 0 27 = true := by decide +kernel
set_option maxRecDepth 100000 in
theorem tb_e21 : (hm_Mi tb_M21).length = 27 := by decide +kernel
-- HandshakeForge$Names.cut(I)V
set_option maxRecDepth 100000 in
def tb_c22 : List (Option hm_O) := [some (.iload_n 1, 1, 1, 0), some (.ifCond .lt 16, 3, 7, 0), none, none, some (.iload_n 1, 1, 1, 0), some (.aload_n 0, 1, 1, 0), some (.getfield 22, 3, 9, 25), none, none, some (.if_icmp .ge 8, 3, 7, 0), none, none, some (.aload_n 0, 1, 1, 0), some (.iload_n 1, 1, 1, 0), some (.putfield 22, 3, 9, 25), none, none, some (.return_, 1, 16, 0)]
def tb_M22 : hm_M := (⟨"HandshakeForge$Names", "cut", "(I)V"⟩, 4, prog_4_method_4_code, 2, none, tb_c22, [])
set_option maxRecDepth 100000 in
theorem tb_d22 : hm_dec tb_M22 0 18 = true := by decide +kernel
set_option maxRecDepth 100000 in
theorem tb_e22 : (hm_Mi tb_M22).length = 18 := by decide +kernel
-- java/util/Arrays.fill([II)V
set_option maxRecDepth 100000 in
def tb_c23 : List (Option hm_O) := [some (.iconst 0, 1, 0, 0), some (.istore_n 2, 1, 2, 0), some (.aload_n 0, 1, 1, 0), some (.arraylength, 1, 11, 2), some (.istore_n 3, 1, 2, 0), some (.iload_n 2, 1, 1, 0), some (.iload_n 3, 1, 1, 0), some (.if_icmp .ge 13, 3, 7, 0), none, none, some (.aload_n 0, 1, 1, 0), some (.iload_n 2, 1, 1, 0), some (.iload_n 1, 1, 1, 0), some (.iastore, 1, 11, 1), some (.iinc 2 1, 3, 6, 0), none, none, some (.goto (-12), 3, 7, 0), none, none, some (.return_, 1, 16, 0)]
def tb_M23 : hm_M := (⟨"java/util/Arrays", "fill", "([II)V"⟩, 12, prog_22_method_103_code, 4, none, tb_c23, [])
set_option maxRecDepth 100000 in
theorem tb_d23 : hm_dec tb_M23 0 21 = true := by decide +kernel
set_option maxRecDepth 100000 in
theorem tb_e23 : (hm_Mi tb_M23).length = 21 := by decide +kernel
-- HandshakeForge$Tokens.scan()V
set_option maxRecDepth 100000 in
def tb_c24 : List (Option hm_O) := [some (.aload_n 0, 1, 1, 0), some (.iconst 0, 1, 0, 0), some (.putfield 29, 3, 9, 48), none, none, some (.iconst 1, 1, 0, 0), some (.istore_n 1, 1, 2, 0), some (.aload_n 0, 1, 1, 0), some (.iconst 0, 1, 0, 0), some (.putfield 25, 3, 9, 47), none, none, some (.aload_n 0, 1, 1, 0), some (.getfield 25, 3, 9, 47), none, none, some (.sipush 2000, 3, 0, 0), none, none, some (.if_icmp .gt 41, 3, 7, 0), none, none, some (.iload_n 1, 1, 1, 0), some (.iconst 3, 1, 0, 0), some (.if_icmp .eq 36, 3, 7, 0), none, none, some (.iload_n 1, 1, 1, 0), some (.iconst 4, 1, 0, 0), some (.if_icmp .eq 31, 3, 7, 0), none, none, some (.aload_n 0, 1, 1, 0), some (.invokevirtual 48, 3, 14, 51), none, none, some (.istore_n 1, 1, 2, 0), some (.aload_n 0, 1, 1, 0), some (.getfield 15, 3, 9, 44), none, none, some (.aload_n 0, 1, 1, 0), some (.getfield 25, 3, 9, 47), none, none, some (.iload_n 1, 1, 1, 0), some (.iastore, 1, 11, 1), some (.aload_n 0, 1, 1, 0), some (.dup, 1, 6, 0), some (.getfield 25, 3, 9, 47), none, none, some (.iconst 1, 1, 0, 0), some (.iadd, 1, 3, 0), some (.putfield 25, 3, 9, 47), none, none, some (.goto (-45), 3, 7, 0), none, none, some (.aload_n 0, 1, 1, 0), some (.iconst 0, 1, 0, 0), some (.putfield 25, 3, 9, 47), none, none, some (.return_, 1, 16, 0)]
def tb_M24 : hm_M := (⟨"HandshakeForge$Tokens", "scan", "()V"⟩, 6, prog_7_method_6_code, 2, none, tb_c24, [])
set_option maxRecDepth 100000 in
theorem tb_d24_0 : hm_dec tb_M24 0 40 = true := by decide +kernel
set_option maxRecDepth 100000 in
theorem tb_d24_40 : hm_dec tb_M24 40 26 = true := by decide +kernel
set_option maxRecDepth 100000 in
theorem tb_d24 : hm_dec tb_M24 0 66 = true := hm_dec_j (n := 40) (m := 26) (tb_d24_0) tb_d24_40
set_option maxRecDepth 100000 in
theorem tb_e24 : (hm_Mi tb_M24).length = 66 := by decide +kernel
-- HandshakeForge$Tokens.scanToken()I
set_option maxRecDepth 100000 in
def tb_c25 : List (Option hm_O) := [some (.aload_n 0, 1, 1, 0), some (.getfield 29, 3, 9, 48), none, none, some (.aload_n 0, 1, 1, 0), some (.getfield 32, 3, 9, 49), none, none, some (.getfield 51, 3, 9, 75), none, none, some (.if_icmp .ge 48, 3, 7, 0), none, none, some (.aload_n 0, 1, 1, 0), some (.getfield 32, 3, 9, 49), none, none, some (.aload_n 0, 1, 1, 0), some (.getfield 29, 3, 9, 48), none, none, some (.invokevirtual 56, 3, 14, 52), none, none, some (.bipush 32, 2, 0, 0), none, some (.if_icmp .eq 19, 3, 7, 0), none, none, some (.aload_n 0, 1, 1, 0), some (.getfield 32, 3, 9, 49), none, none, some (.aload_n 0, 1, 1, 0), some (.getfield 29, 3, 9, 48), none, none, some (.invokevirtual 56, 3, 14, 52), none, none, some (.bipush 10, 2, 0, 0), none, some (.if_icmp .ne 16, 3, 7, 0), none, none, some (.aload_n 0, 1, 1, 0), some (.dup, 1, 6, 0), some (.getfield 29, 3, 9, 48), none, none, some (.iconst 1, 1, 0, 0), some (.iadd, 1, 3, 0), some (.putfield 29, 3, 9, 48), none, none, some (.goto (-56), 3, 7, 0), none, none, some (.aload_n 0, 1, 1, 0), some (.getfield 19, 3, 9, 45), none, none, some (.aload_n 0, 1, 1, 0), some (.getfield 25, 3, 9, 47), none, none, some (.aload_n 0, 1, 1, 0), some (.getfield 29, 3, 9, 48), none, none, some (.iastore, 1, 11, 1), some (.aload_n 0, 1, 1, 0), some (.getfield 32, 3, 9, 49), none, none, some (.aload_n 0, 1, 1, 0), some (.getfield 29, 3, 9, 48), none, none, some (.invokevirtual 56, 3, 14, 52), none, none, some (.istore_n 1, 1, 2, 0), some (.iload_n 1, 1, 1, 0), some (.ifCond .ge 5, 3, 7, 0), none, none, some (.iconst 3, 1, 0, 0), some (.ireturn, 1, 16, 0), some (.iload_n 1, 1, 1, 0), some (.invokestatic 59, 3, 14, 53), none, none, some (.ifCond .eq 8, 3, 7, 0), none, none, some (.aload_n 0, 1, 1, 0), some (.invokevirtual 63, 3, 14, 54), none, none, some (.ireturn, 1, 16, 0), some (.iload_n 1, 1, 1, 0), some (.invokestatic 66, 3, 14, 55), none, none, some (.ifCond .eq 10, 3, 7, 0), none, none, some (.aload_n 0, 1, 1, 0), some (.invokevirtual 69, 3, 14, 56), none, none, some (.goto 8, 3, 7, 0), none, none, some (.aload_n 0, 1, 1, 0), some (.iload_n 1, 1, 1, 0), some (.invokevirtual 72, 3, 14, 57), none, none, some (.ireturn, 1, 16, 0)]
def tb_M25 : hm_M := (⟨"HandshakeForge$Tokens", "scanToken", "()I"⟩, 6, prog_7_method_7_code, 2, (some .int), tb_c25, [])
set_option maxRecDepth 100000 in
theorem tb_d25_0 : hm_dec tb_M25 0 40 = true := by decide +kernel
set_option maxRecDepth 100000 in
theorem tb_d25_40 : hm_dec tb_M25 40 40 = true := by decide +kernel
set_option maxRecDepth 100000 in
theorem tb_d25_80 : hm_dec tb_M25 80 40 = true := by decide +kernel
set_option maxRecDepth 100000 in
theorem tb_d25_120 : hm_dec tb_M25 120 2 = true := by decide +kernel
set_option maxRecDepth 100000 in
theorem tb_d25 : hm_dec tb_M25 0 122 = true := hm_dec_j (n := 120) (m := 2) (hm_dec_j (n := 80) (m := 40) (hm_dec_j (n := 40) (m := 40) (tb_d25_0) tb_d25_40) tb_d25_80) tb_d25_120
set_option maxRecDepth 100000 in
theorem tb_e25 : (hm_Mi tb_M25).length = 122 := by decide +kernel
-- HandshakeForge$Tape.at(I)I
set_option maxRecDepth 100000 in
def tb_c26 : List (Option hm_O) := [some (.iload_n 1, 1, 1, 0), some (.ifCond .lt 24, 3, 7, 0), none, none, some (.iload_n 1, 1, 1, 0), some (.aload_n 0, 1, 1, 0), some (.getfield 15, 3, 9, 7), none, none, some (.if_icmp .ge 16, 3, 7, 0), none, none, some (.aload_n 0, 1, 1, 0), some (.getfield 9, 3, 9, 6), none, none, some (.iload_n 1, 1, 1, 0), some (.baload, 1, 11, 0), some (.sipush 255, 3, 0, 0), none, none, some (.iand, 1, 3, 0), some (.goto 4, 3, 7, 0), none, none, some (.iconst (-1), 1, 0, 0), some (.ireturn, 1, 16, 0)]
def tb_M26 : hm_M := (⟨"HandshakeForge$Tape", "at", "(I)I"⟩, 2, prog_6_method_3_code, 2, (some .int), tb_c26, [])
set_option maxRecDepth 100000 in
theorem tb_d26 : hm_dec tb_M26 0 27 = true := by decide +kernel
set_option maxRecDepth 100000 in
theorem tb_e26 : (hm_Mi tb_M26).length = 27 := by decide +kernel
-- HandshakeForge$Tape.isLetter(I)Z
set_option maxRecDepth 100000 in
def tb_c27 : List (Option hm_O) := [some (.iload_n 0, 1, 1, 0), some (.bipush 97, 2, 0, 0), none, some (.if_icmp .lt 13, 3, 7, 0), none, none, some (.iload_n 0, 1, 1, 0), some (.bipush 122, 2, 0, 0), none, some (.if_icmp .gt 7, 3, 7, 0), none, none, some (.iconst 1, 1, 0, 0), some (.goto 4, 3, 7, 0), none, none, some (.iconst 0, 1, 0, 0), some (.ireturn, 1, 16, 0)]
def tb_M27 : hm_M := (⟨"HandshakeForge$Tape", "isLetter", "(I)Z"⟩, 2, prog_6_method_5_code, 1, (some .boolean), tb_c27, [])
set_option maxRecDepth 100000 in
theorem tb_d27 : hm_dec tb_M27 0 18 = true := by decide +kernel
set_option maxRecDepth 100000 in
theorem tb_e27 : (hm_Mi tb_M27).length = 18 := by decide +kernel
-- HandshakeForge$Tokens.scanName()I
set_option maxRecDepth 100000 in
def tb_c28 : List (Option hm_O) := [some (.aload_n 0, 1, 1, 0), some (.getfield 29, 3, 9, 48), none, none, some (.istore_n 1, 1, 2, 0), some (.lconst 0, 1, 0, 0), some (.lstore_n 2, 1, 2, 0), some (.aload_n 0, 1, 1, 0), some (.getfield 29, 3, 9, 48), none, none, some (.aload_n 0, 1, 1, 0), some (.getfield 32, 3, 9, 49), none, none, some (.getfield 51, 3, 9, 75), none, none, some (.if_icmp .ge 51, 3, 7, 0), none, none, some (.aload_n 0, 1, 1, 0), some (.getfield 32, 3, 9, 49), none, none, some (.aload_n 0, 1, 1, 0), some (.getfield 29, 3, 9, 48), none, none, some (.invokevirtual 56, 3, 14, 52), none, none, some (.invokestatic 75, 3, 14, 58), none, none, some (.ifCond .eq 34, 3, 7, 0), none, none, some (.lload_n 2, 1, 1, 0), some (.bipush 8, 2, 0, 0), none, some (.lshl, 1, 6, 0), some (.aload_n 0, 1, 1, 0), some (.getfield 32, 3, 9, 49), none, none, some (.aload_n 0, 1, 1, 0), some (.getfield 29, 3, 9, 48), none, none, some (.invokevirtual 56, 3, 14, 52), none, none, some (.i2l, 1, 5, 0), some (.lor, 1, 4, 0), some (.lstore_n 2, 1, 2, 0), some (.aload_n 0, 1, 1, 0), some (.dup, 1, 6, 0), some (.getfield 29, 3, 9, 48), none, none, some (.iconst 1, 1, 0, 0), some (.iadd, 1, 3, 0), some (.putfield 29, 3, 9, 48), none, none, some (.goto (-59), 3, 7, 0), none, none, some (.aload_n 0, 1, 1, 0), some (.getfield 22, 3, 9, 46), none, none, some (.aload_n 0, 1, 1, 0), some (.getfield 25, 3, 9, 47), none, none, some (.lload_n 2, 1, 1, 0), some (.lastore, 1, 11, 1), some (.aload_n 0, 1, 1, 0), some (.getfield 29, 3, 9, 48), none, none, some (.iload_n 1, 1, 1, 0), some (.isub, 1, 3, 0), some (.bipush 8, 2, 0, 0), none, some (.if_icmp .le 5, 3, 7, 0), none, none, some (.iconst 4, 1, 0, 0), some (.ireturn, 1, 16, 0), some (.iconst 0, 1, 0, 0), some (.istore 4, 2, 2, 0), none, some (.iload 4, 2, 1, 0), none, some (.bipush 15, 2, 0, 0), none, some (.if_icmp .ge 28, 3, 7, 0), none, none, some (.aload_n 0, 1, 1, 0), some (.getfield 9, 3, 9, 43), none, none, some (.iload 4, 2, 1, 0), none, some (.laload, 1, 11, 0), some (.lload_n 2, 1, 1, 0), some (.lcmp, 1, 6, 0), some (.ifCond .ne 10, 3, 7, 0), none, none, some (.sipush 300, 3, 0, 0), none, none, some (.iload 4, 2, 1, 0), none, some (.iadd, 1, 3, 0), some (.ireturn, 1, 16, 0), some (.iinc 4 1, 3, 6, 0), none, none, some (.goto (-29), 3, 7, 0), none, none, some (.iconst 1, 1, 0, 0), some (.ireturn, 1, 16, 0)]
def tb_M28 : hm_M := (⟨"HandshakeForge$Tokens", "scanName", "()I"⟩, 6, prog_7_method_8_code, 5, (some .int), tb_c28, [])
set_option maxRecDepth 100000 in
theorem tb_d28_0 : hm_dec tb_M28 0 40 = true := by decide +kernel
set_option maxRecDepth 100000 in
theorem tb_d28_40 : hm_dec tb_M28 40 40 = true := by decide +kernel
set_option maxRecDepth 100000 in
theorem tb_d28_80 : hm_dec tb_M28 80 40 = true := by decide +kernel
set_option maxRecDepth 100000 in
theorem tb_d28_120 : hm_dec tb_M28 120 9 = true := by decide +kernel
set_option maxRecDepth 100000 in
theorem tb_d28 : hm_dec tb_M28 0 129 = true := hm_dec_j (n := 120) (m := 9) (hm_dec_j (n := 80) (m := 40) (hm_dec_j (n := 40) (m := 40) (tb_d28_0) tb_d28_40) tb_d28_80) tb_d28_120
set_option maxRecDepth 100000 in
theorem tb_e28 : (hm_Mi tb_M28).length = 129 := by decide +kernel
-- HandshakeForge$Tape.inName(I)Z
set_option maxRecDepth 100000 in
def tb_c29 : List (Option hm_O) := [some (.iload_n 0, 1, 1, 0), some (.invokestatic 27, 3, 14, 59), none, none, some (.ifCond .ne 10, 3, 7, 0), none, none, some (.iload_n 0, 1, 1, 0), some (.invokestatic 30, 3, 14, 60), none, none, some (.ifCond .eq 7, 3, 7, 0), none, none, some (.iconst 1, 1, 0, 0), some (.goto 4, 3, 7, 0), none, none, some (.iconst 0, 1, 0, 0), some (.ireturn, 1, 16, 0)]
def tb_M29 : hm_M := (⟨"HandshakeForge$Tape", "inName", "(I)Z"⟩, 2, prog_6_method_7_code, 1, (some .boolean), tb_c29, [])
set_option maxRecDepth 100000 in
theorem tb_d29 : hm_dec tb_M29 0 20 = true := by decide +kernel
set_option maxRecDepth 100000 in
theorem tb_e29 : (hm_Mi tb_M29).length = 20 := by decide +kernel
-- HandshakeForge$Tape.isDigit(I)Z
set_option maxRecDepth 100000 in
def tb_c30 : List (Option hm_O) := [some (.iload_n 0, 1, 1, 0), some (.bipush 48, 2, 0, 0), none, some (.if_icmp .lt 13, 3, 7, 0), none, none, some (.iload_n 0, 1, 1, 0), some (.bipush 57, 2, 0, 0), none, some (.if_icmp .gt 7, 3, 7, 0), none, none, some (.iconst 1, 1, 0, 0), some (.goto 4, 3, 7, 0), none, none, some (.iconst 0, 1, 0, 0), some (.ireturn, 1, 16, 0)]
def tb_M30 : hm_M := (⟨"HandshakeForge$Tape", "isDigit", "(I)Z"⟩, 2, prog_6_method_6_code, 1, (some .boolean), tb_c30, [])
set_option maxRecDepth 100000 in
theorem tb_d30 : hm_dec tb_M30 0 18 = true := by decide +kernel
set_option maxRecDepth 100000 in
theorem tb_e30 : (hm_Mi tb_M30).length = 18 := by decide +kernel
-- HandshakeForge$Tokens.scanNumber()I
set_option maxRecDepth 100000 in
def tb_c31 : List (Option hm_O) := [some (.lconst 0, 1, 0, 0), some (.lstore_n 1, 1, 2, 0), some (.aload_n 0, 1, 1, 0), some (.getfield 29, 3, 9, 48), none, none, some (.aload_n 0, 1, 1, 0), some (.getfield 32, 3, 9, 49), none, none, some (.getfield 51, 3, 9, 75), none, none, some (.if_icmp .ge 62, 3, 7, 0), none, none, some (.aload_n 0, 1, 1, 0), some (.getfield 32, 3, 9, 49), none, none, some (.aload_n 0, 1, 1, 0), some (.getfield 29, 3, 9, 48), none, none, some (.invokevirtual 56, 3, 14, 52), none, none, some (.invokestatic 66, 3, 14, 55), none, none, some (.ifCond .eq 45, 3, 7, 0), none, none, some (.lload_n 1, 1, 1, 0), some (.ldc2_w 78, 3, 13, 0), none, none, some (.lmul, 1, 4, 0), some (.aload_n 0, 1, 1, 0), some (.getfield 32, 3, 9, 49), none, none, some (.aload_n 0, 1, 1, 0), some (.getfield 29, 3, 9, 48), none, none, some (.invokevirtual 56, 3, 14, 52), none, none, some (.i2l, 1, 5, 0), some (.ladd, 1, 4, 0), some (.ldc2_w 80, 3, 13, 1), none, none, some (.lsub, 1, 4, 0), some (.ldc2_w 82, 3, 13, 2), none, none, some (.invokestatic 84, 3, 15, 8), none, none, some (.lstore_n 1, 1, 2, 0), some (.aload_n 0, 1, 1, 0), some (.dup, 1, 6, 0), some (.getfield 29, 3, 9, 48), none, none, some (.iconst 1, 1, 0, 0), some (.iadd, 1, 3, 0), some (.putfield 29, 3, 9, 48), none, none, some (.goto (-70), 3, 7, 0), none, none, some (.aload_n 0, 1, 1, 0), some (.getfield 22, 3, 9, 46), none, none, some (.aload_n 0, 1, 1, 0), some (.getfield 25, 3, 9, 47), none, none, some (.lload_n 1, 1, 1, 0), some (.lastore, 1, 11, 1), some (.lload_n 1, 1, 1, 0), some (.ldc2_w 90, 3, 13, 3), none, none, some (.lcmp, 1, 6, 0), some (.ifCond .le 7, 3, 7, 0), none, none, some (.iconst 4, 1, 0, 0), some (.goto 4, 3, 7, 0), none, none, some (.iconst 2, 1, 0, 0), some (.ireturn, 1, 16, 0)]
def tb_M31 : hm_M := (⟨"HandshakeForge$Tokens", "scanNumber", "()I"⟩, 6, prog_7_method_9_code, 3, (some .int), tb_c31, [])
set_option maxRecDepth 100000 in
theorem tb_d31_0 : hm_dec tb_M31 0 40 = true := by decide +kernel
set_option maxRecDepth 100000 in
theorem tb_d31_40 : hm_dec tb_M31 40 40 = true := by decide +kernel
set_option maxRecDepth 100000 in
theorem tb_d31_80 : hm_dec tb_M31 80 19 = true := by decide +kernel
set_option maxRecDepth 100000 in
theorem tb_d31 : hm_dec tb_M31 0 99 = true := hm_dec_j (n := 80) (m := 19) (hm_dec_j (n := 40) (m := 40) (tb_d31_0) tb_d31_40) tb_d31_80
set_option maxRecDepth 100000 in
theorem tb_e31 : (hm_Mi tb_M31).length = 99 := by decide +kernel
