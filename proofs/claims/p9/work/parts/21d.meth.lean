-- HandshakeForge$Compiler.shortDeclaration(I)V
set_option maxRecDepth 100000 in
def tb_c75 : List (Option hm_O) := [some (.iload_n 1, 1, 1, 0), some (.tableswitch 173 300 304 #[35, 66, 83, 153, 163], 35, 8, 0), none, none, none, none, none, none, none, none, none, none, none, none, none, none, none, none, none, none, none, none, none, none, none, none, none, none, none, none, none, none, none, none, none, none, some (.aload_n 0, 1, 1, 0), some (.iconst 0, 1, 0, 0), some (.iconst 0, 1, 0, 0), some (.invokevirtual 129, 3, 14, 62), none, none, some (.istore_n 2, 1, 2, 0), some (.aload_n 0, 1, 1, 0), some (.bipush 58, 2, 0, 0), none, some (.invokevirtual 132, 3, 14, 63), none, none, some (.aload_n 0, 1, 1, 0), some (.getfield 69, 3, 9, 42), none, none, some (.iload_n 2, 1, 1, 0), some (.aload_n 0, 1, 1, 0), some (.iconst 1, 1, 0, 0), some (.bipush 16, 2, 0, 0), none, some (.invokevirtual 135, 3, 14, 80), none, none, some (.invokevirtual 138, 3, 14, 70), none, none, some (.goto 117, 3, 7, 0), none, none, some (.aload_n 0, 1, 1, 0), some (.getfield 69, 3, 9, 42), none, none, some (.aload_n 0, 1, 1, 0), some (.iconst 0, 1, 0, 0), some (.iconst 0, 1, 0, 0), some (.invokevirtual 129, 3, 14, 62), none, none, some (.iconst 0, 1, 0, 0), some (.invokevirtual 138, 3, 14, 70), none, none, some (.goto 100, 3, 7, 0), none, none, some (.aload_n 0, 1, 1, 0), some (.iconst 1, 1, 0, 0), some (.iconst 0, 1, 0, 0), some (.invokevirtual 129, 3, 14, 62), none, none, some (.istore_n 3, 1, 2, 0), some (.aload_n 0, 1, 1, 0), some (.bipush 91, 2, 0, 0), none, some (.invokevirtual 132, 3, 14, 63), none, none, some (.aload_n 0, 1, 1, 0), some (.getfield 65, 3, 9, 41), none, none, some (.invokevirtual 122, 3, 14, 47), none, none, some (.istore 4, 2, 2, 0), none, some (.aload_n 0, 1, 1, 0), some (.iconst 1, 1, 0, 0), some (.bipush 64, 2, 0, 0), none, some (.invokevirtual 135, 3, 14, 80), none, none, some (.istore 5, 2, 2, 0), none, some (.aload_n 0, 1, 1, 0), some (.iload 5, 2, 1, 0), none, some (.invokestatic 141, 3, 14, 95), none, none, some (.iconst 1, 1, 0, 0), some (.if_icmp .ne 7, 3, 7, 0), none, none, some (.iconst 1, 1, 0, 0), some (.goto 4, 3, 7, 0), none, none, some (.iconst 0, 1, 0, 0), some (.iload 4, 2, 1, 0), none, some (.invokevirtual 125, 3, 14, 48), none, none, some (.aload_n 0, 1, 1, 0), some (.getfield 69, 3, 9, 42), none, none, some (.iload_n 3, 1, 1, 0), some (.iload 5, 2, 1, 0), none, some (.invokevirtual 146, 3, 14, 96), none, none, some (.aload_n 0, 1, 1, 0), some (.bipush 93, 2, 0, 0), none, some (.invokevirtual 132, 3, 14, 63), none, none, some (.goto 30, 3, 7, 0), none, none, some (.aload_n 0, 1, 1, 0), some (.iconst 2, 1, 0, 0), some (.iconst 0, 1, 0, 0), some (.invokevirtual 129, 3, 14, 62), none, none, some (.pop, 1, 6, 0), some (.goto 20, 3, 7, 0), none, none, some (.aload_n 0, 1, 1, 0), some (.iconst 3, 1, 0, 0), some (.iconst 0, 1, 0, 0), some (.invokevirtual 129, 3, 14, 62), none, none, some (.pop, 1, 6, 0), some (.goto 10, 3, 7, 0), none, none, some (.aload_n 0, 1, 1, 0), some (.iconst 4, 1, 0, 0), some (.iconst 0, 1, 0, 0), some (.invokevirtual 129, 3, 14, 62), none, none, some (.pop, 1, 6, 0), some (.aload_n 0, 1, 1, 0), some (.bipush 59, 2, 0, 0), none, some (.invokevirtual 132, 3, 14, 63), none, none, some (.return_, 1, 16, 0)]
def tb_M75 : hm_M := (⟨"HandshakeForge$Compiler", "shortDeclaration", "(I)V"⟩, 5, prog_3_method_3_code, 6, none, tb_c75, [])
set_option maxRecDepth 100000 in
theorem tb_d75_0 : hm_dec tb_M75 0 40 = true := by decide +kernel
set_option maxRecDepth 100000 in
theorem tb_d75_40 : hm_dec tb_M75 40 40 = true := by decide +kernel
set_option maxRecDepth 100000 in
theorem tb_d75_80 : hm_dec tb_M75 80 40 = true := by decide +kernel
set_option maxRecDepth 100000 in
theorem tb_d75_120 : hm_dec tb_M75 120 40 = true := by decide +kernel
set_option maxRecDepth 100000 in
theorem tb_d75_160 : hm_dec tb_M75 160 28 = true := by decide +kernel
set_option maxRecDepth 100000 in
theorem tb_d75 : hm_dec tb_M75 0 188 = true := hm_dec_j (n := 160) (m := 28) (hm_dec_j (n := 120) (m := 40) (hm_dec_j (n := 80) (m := 40) (hm_dec_j (n := 40) (m := 40) (tb_d75_0) tb_d75_40) tb_d75_80) tb_d75_120) tb_d75_160
set_option maxRecDepth 100000 in
theorem tb_e75 : (hm_Mi tb_M75).length = 188 := by decide +kernel
-- java/lang/Integer.bitCount(I)I
set_option maxRecDepth 100000 in
def tb_c76 : List (Option hm_O) := [some (.iload_n 0, 1, 1, 0), some (.iload_n 0, 1, 1, 0), some (.iconst 1, 1, 0, 0), some (.iushr, 1, 3, 0), some (.ldc_w 265, 3, 13, 5), none, none, some (.iand, 1, 3, 0), some (.isub, 1, 3, 0), some (.istore_n 0, 1, 2, 0), some (.iload_n 0, 1, 1, 0), some (.ldc_w 266, 3, 13, 6), none, none, some (.iand, 1, 3, 0), some (.iload_n 0, 1, 1, 0), some (.iconst 2, 1, 0, 0), some (.iushr, 1, 3, 0), some (.ldc_w 266, 3, 13, 6), none, none, some (.iand, 1, 3, 0), some (.iadd, 1, 3, 0), some (.istore_n 0, 1, 2, 0), some (.iload_n 0, 1, 1, 0), some (.iload_n 0, 1, 1, 0), some (.iconst 4, 1, 0, 0), some (.iushr, 1, 3, 0), some (.iadd, 1, 3, 0), some (.ldc_w 267, 3, 13, 7), none, none, some (.iand, 1, 3, 0), some (.istore_n 0, 1, 2, 0), some (.iload_n 0, 1, 1, 0), some (.iload_n 0, 1, 1, 0), some (.bipush 8, 2, 0, 0), none, some (.iushr, 1, 3, 0), some (.iadd, 1, 3, 0), some (.istore_n 0, 1, 2, 0), some (.iload_n 0, 1, 1, 0), some (.iload_n 0, 1, 1, 0), some (.bipush 16, 2, 0, 0), none, some (.iushr, 1, 3, 0), some (.iadd, 1, 3, 0), some (.istore_n 0, 1, 2, 0), some (.iload_n 0, 1, 1, 0), some (.bipush 63, 2, 0, 0), none, some (.iand, 1, 3, 0), some (.ireturn, 1, 16, 0)]
def tb_M76 : hm_M := (⟨"java/lang/Integer", "bitCount", "(I)I"⟩, 13, prog_14_method_49_code, 1, (some .int), tb_c76, [])
set_option maxRecDepth 100000 in
theorem tb_d76_0 : hm_dec tb_M76 0 40 = true := by decide +kernel
set_option maxRecDepth 100000 in
theorem tb_d76_40 : hm_dec tb_M76 40 13 = true := by decide +kernel
set_option maxRecDepth 100000 in
theorem tb_d76 : hm_dec tb_M76 0 53 = true := hm_dec_j (n := 40) (m := 13) (tb_d76_0) tb_d76_40
set_option maxRecDepth 100000 in
theorem tb_e76 : (hm_Mi tb_M76).length = 53 := by decide +kernel
-- HandshakeForge$Circuit.setSize(II)V
set_option maxRecDepth 100000 in
def tb_c77 : List (Option hm_O) := [some (.iload_n 1, 1, 1, 0), some (.ifCond .lt 16, 3, 7, 0), none, none, some (.iload_n 1, 1, 1, 0), some (.bipush 6, 2, 0, 0), none, some (.if_icmp .ge 10, 3, 7, 0), none, none, some (.aload_n 0, 1, 1, 0), some (.getfield 40, 3, 9, 16), none, none, some (.iload_n 1, 1, 1, 0), some (.iload_n 2, 1, 1, 0), some (.iastore, 1, 11, 1), some (.return_, 1, 16, 0)]
def tb_M77 : hm_M := (⟨"HandshakeForge$Circuit", "setSize", "(II)V"⟩, 3, prog_2_method_7_code, 3, none, tb_c77, [])
set_option maxRecDepth 100000 in
theorem tb_d77 : hm_dec tb_M77 0 18 = true := by decide +kernel
set_option maxRecDepth 100000 in
theorem tb_e77 : (hm_Mi tb_M77).length = 18 := by decide +kernel
-- HandshakeForge$Work.restart(LHandshakeForge$Circuit;)V
set_option maxRecDepth 100000 in
def tb_c78 : List (Option hm_O) := [some (.aload_n 0, 1, 1, 0), some (.aload_n 1, 1, 1, 0), some (.putfield 62, 3, 9, 65), none, none, some (.aload_n 0, 1, 1, 0), some (.getfield 31, 3, 9, 56), none, none, some (.iconst 0, 1, 0, 0), some (.invokestatic 67, 3, 14, 97), none, none, some (.aload_n 0, 1, 1, 0), some (.getfield 34, 3, 9, 57), none, none, some (.iconst 0, 1, 0, 0), some (.invokestatic 67, 3, 14, 97), none, none, some (.aload_n 0, 1, 1, 0), some (.getfield 46, 3, 9, 60), none, none, some (.iconst (-1), 1, 0, 0), some (.invokestatic 67, 3, 14, 97), none, none, some (.aload_n 0, 1, 1, 0), some (.getfield 49, 3, 9, 61), none, none, some (.iconst (-1), 1, 0, 0), some (.invokestatic 67, 3, 14, 97), none, none, some (.iconst 0, 1, 0, 0), some (.istore_n 2, 1, 2, 0), some (.iload_n 2, 1, 1, 0), some (.iconst 4, 1, 0, 0), some (.if_icmp .ge 18, 3, 7, 0), none, none, some (.aload_n 0, 1, 1, 0), some (.getfield 39, 3, 9, 58), none, none, some (.iload_n 2, 1, 1, 0), some (.aaload, 1, 11, 0), some (.invokevirtual 73, 3, 14, 98), none, none, some (.iinc 2 1, 3, 6, 0), none, none, some (.goto (-17), 3, 7, 0), none, none, some (.iconst 0, 1, 0, 0), some (.istore_n 2, 1, 2, 0), some (.iload_n 2, 1, 1, 0), some (.iconst 4, 1, 0, 0), some (.if_icmp .ge 18, 3, 7, 0), none, none, some (.aload_n 0, 1, 1, 0), some (.getfield 43, 3, 9, 59), none, none, some (.iload_n 2, 1, 1, 0), some (.aaload, 1, 11, 0), some (.invokevirtual 73, 3, 14, 98), none, none, some (.iinc 2 1, 3, 6, 0), none, none, some (.goto (-17), 3, 7, 0), none, none, some (.aload_n 0, 1, 1, 0), some (.iconst 0, 1, 0, 0), some (.putfield 27, 3, 9, 55), none, none, some (.aload_n 0, 1, 1, 0), some (.iconst 0, 1, 0, 0), some (.putfield 52, 3, 9, 62), none, none, some (.aload_n 0, 1, 1, 0), some (.iconst 0, 1, 0, 0), some (.putfield 56, 3, 9, 63), none, none, some (.return_, 1, 16, 0)]
def tb_M78 : hm_M := (⟨"HandshakeForge$Work", "restart", "(LHandshakeForge$Circuit;)V"⟩, 10, prog_8_method_2_code, 3, none, tb_c78, [])
set_option maxRecDepth 100000 in
theorem tb_d78_0 : hm_dec tb_M78 0 40 = true := by decide +kernel
set_option maxRecDepth 100000 in
theorem tb_d78_40 : hm_dec tb_M78 40 40 = true := by decide +kernel
set_option maxRecDepth 100000 in
theorem tb_d78_80 : hm_dec tb_M78 80 17 = true := by decide +kernel
set_option maxRecDepth 100000 in
theorem tb_d78 : hm_dec tb_M78 0 97 = true := hm_dec_j (n := 80) (m := 17) (hm_dec_j (n := 40) (m := 40) (tb_d78_0) tb_d78_40) tb_d78_80
set_option maxRecDepth 100000 in
theorem tb_e78 : (hm_Mi tb_M78).length = 97 := by decide +kernel
-- HandshakeForge$Queue.clear()V
set_option maxRecDepth 100000 in
def tb_c79 : List (Option hm_O) := [some (.aload_n 0, 1, 1, 0), some (.iconst 0, 1, 0, 0), some (.putfield 15, 3, 9, 67), none, none, some (.aload_n 0, 1, 1, 0), some (.iconst 0, 1, 0, 0), some (.putfield 19, 3, 9, 68), none, none, some (.return_, 1, 16, 0)]
def tb_M79 : hm_M := (⟨"HandshakeForge$Queue", "clear", "()V"⟩, 11, prog_5_method_2_code, 1, none, tb_c79, [])
set_option maxRecDepth 100000 in
theorem tb_d79 : hm_dec tb_M79 0 11 = true := by decide +kernel
set_option maxRecDepth 100000 in
theorem tb_e79 : (hm_Mi tb_M79).length = 11 := by decide +kernel
-- HandshakeForge.begin()I
set_option maxRecDepth 100000 in
def tb_c80 : List (Option hm_O) := [some (.aload_n 0, 1, 1, 0), some (.getfield 26, 3, 9, 3), none, none, some (.ifCond .ne 6, 3, 7, 0), none, none, some (.bipush (-2), 2, 0, 0), none, some (.ireturn, 1, 16, 0), some (.aload_n 0, 1, 1, 0), some (.getfield 44, 3, 9, 5), none, none, some (.aload_n 0, 1, 1, 0), some (.getfield 19, 3, 9, 1), none, none, some (.invokevirtual 67, 3, 14, 36), none, none, some (.iconst 0, 1, 0, 0), some (.ireturn, 1, 16, 0)]
def tb_M80 : hm_M := (⟨"HandshakeForge", "begin", "()I"⟩, 1, prog_1_method_5_code, 1, (some .int), tb_c80, [])
set_option maxRecDepth 100000 in
theorem tb_d80 : hm_dec tb_M80 0 23 = true := by decide +kernel
set_option maxRecDepth 100000 in
theorem tb_e80 : (hm_Mi tb_M80).length = 23 := by decide +kernel
-- HandshakeForge.run(I)I
set_option maxRecDepth 100000 in
def tb_c81 : List (Option hm_O) := [some (.aload_n 0, 1, 1, 0), some (.getfield 26, 3, 9, 3), none, none, some (.ifCond .ne 6, 3, 7, 0), none, none, some (.bipush (-2), 2, 0, 0), none, some (.ireturn, 1, 16, 0), some (.iload_n 1, 1, 1, 0), some (.iconst 1, 1, 0, 0), some (.if_icmp .lt 21, 3, 7, 0), none, none, some (.iload_n 1, 1, 1, 0), some (.sipush 20000, 3, 0, 0), none, none, some (.if_icmp .gt 14, 3, 7, 0), none, none, some (.aload_n 0, 1, 1, 0), some (.getfield 44, 3, 9, 5), none, none, some (.getfield 70, 3, 9, 80), none, none, some (.iconst 3, 1, 0, 0), some (.if_icmp .ne 5, 3, 7, 0), none, none, some (.iconst (-1), 1, 0, 0), some (.ireturn, 1, 16, 0), some (.aload_n 0, 1, 1, 0), some (.getfield 44, 3, 9, 5), none, none, some (.iload_n 1, 1, 1, 0), some (.invokevirtual 73, 3, 14, 99), none, none, some (.aload_n 0, 1, 1, 0), some (.getfield 44, 3, 9, 5), none, none, some (.getfield 70, 3, 9, 80), none, none, some (.ireturn, 1, 16, 0)]
def tb_M81 : hm_M := (⟨"HandshakeForge", "run", "(I)I"⟩, 1, prog_1_method_6_code, 2, (some .int), tb_c81, [])
set_option maxRecDepth 100000 in
theorem tb_d81_0 : hm_dec tb_M81 0 40 = true := by decide +kernel
set_option maxRecDepth 100000 in
theorem tb_d81_40 : hm_dec tb_M81 40 11 = true := by decide +kernel
set_option maxRecDepth 100000 in
theorem tb_d81 : hm_dec tb_M81 0 51 = true := hm_dec_j (n := 40) (m := 11) (tb_d81_0) tb_d81_40
set_option maxRecDepth 100000 in
theorem tb_e81 : (hm_Mi tb_M81).length = 51 := by decide +kernel
-- HandshakeForge$Work.goOn(I)V
set_option maxRecDepth 100000 in
def tb_c82 : List (Option hm_O) := [some (.aload_n 0, 1, 1, 0), some (.iconst 0, 1, 0, 0), some (.putfield 59, 3, 9, 64), none, none, some (.aload_n 0, 1, 1, 0), some (.getfield 56, 3, 9, 63), none, none, some (.ifCond .ne 18, 3, 7, 0), none, none, some (.aload_n 0, 1, 1, 0), some (.aload_n 0, 1, 1, 0), some (.getfield 62, 3, 9, 65), none, none, some (.getfield 76, 3, 9, 81), none, none, some (.iconst (-1), 1, 0, 0), some (.invokevirtual 81, 3, 14, 100), none, none, some (.goto 19, 3, 7, 0), none, none, some (.aload_n 0, 1, 1, 0), some (.aload_n 0, 1, 1, 0), some (.getfield 46, 3, 9, 60), none, none, some (.invokevirtual 85, 3, 14, 101), none, none, some (.aload_n 0, 1, 1, 0), some (.aload_n 0, 1, 1, 0), some (.getfield 49, 3, 9, 61), none, none, some (.invokevirtual 85, 3, 14, 101), none, none, some (.iconst 0, 1, 0, 0), some (.istore_n 2, 1, 2, 0), some (.iload_n 2, 1, 1, 0), some (.ldc 89, 2, 13, 8), none, some (.if_icmp .ge 86, 3, 7, 0), none, none, some (.aload_n 0, 1, 1, 0), some (.getfield 27, 3, 9, 55), none, none, some (.ifCond .le 79, 3, 7, 0), none, none, some (.aload_n 0, 1, 1, 0), some (.dup, 1, 6, 0), some (.getfield 27, 3, 9, 55), none, none, some (.iconst 1, 1, 0, 0), some (.isub, 1, 3, 0), some (.putfield 27, 3, 9, 55), none, none, some (.aload_n 0, 1, 1, 0), some (.getfield 24, 3, 9, 54), none, none, some (.aload_n 0, 1, 1, 0), some (.getfield 27, 3, 9, 55), none, none, some (.iaload, 1, 11, 0), some (.istore_n 3, 1, 2, 0), some (.aload_n 0, 1, 1, 0), some (.getfield 15, 3, 9, 51), none, none, some (.iload_n 3, 1, 1, 0), some (.iaload, 1, 11, 0), some (.ifCond .ge 39, 3, 7, 0), none, none, some (.aload_n 0, 1, 1, 0), some (.getfield 59, 3, 9, 64), none, none, some (.iload_n 1, 1, 1, 0), some (.if_icmp .ne 14, 3, 7, 0), none, none, some (.aload_n 0, 1, 1, 0), some (.iconst 3, 1, 0, 0), some (.putfield 56, 3, 9, 63), none, none, some (.aload_n 0, 1, 1, 0), some (.iconst 0, 1, 0, 0), some (.putfield 59, 3, 9, 64), none, none, some (.return_, 1, 16, 0), some (.aload_n 0, 1, 1, 0), some (.dup, 1, 6, 0), some (.getfield 59, 3, 9, 64), none, none, some (.iconst 1, 1, 0, 0), some (.iadd, 1, 3, 0), some (.putfield 59, 3, 9, 64), none, none, some (.aload_n 0, 1, 1, 0), some (.getfield 15, 3, 9, 51), none, none, some (.iload_n 3, 1, 1, 0), some (.iconst 0, 1, 0, 0), some (.iastore, 1, 11, 1), some (.aload_n 0, 1, 1, 0), some (.iload_n 3, 1, 1, 0), some (.invokevirtual 90, 3, 14, 102), none, none, some (.iinc 2 1, 3, 6, 0), none, none, some (.goto (-86), 3, 7, 0), none, none, some (.aload_n 0, 1, 1, 0), some (.aload_n 0, 1, 1, 0), some (.getfield 52, 3, 9, 62), none, none, some (.ifCond .eq 7, 3, 7, 0), none, none, some (.iconst 1, 1, 0, 0), some (.goto 4, 3, 7, 0), none, none, some (.iconst 2, 1, 0, 0), some (.putfield 56, 3, 9, 63), none, none, some (.return_, 1, 16, 0)]
def tb_M82 : hm_M := (⟨"HandshakeForge$Work", "goOn", "(I)V"⟩, 10, prog_8_method_3_code, 4, none, tb_c82, [])
set_option maxRecDepth 100000 in
theorem tb_d82_0 : hm_dec tb_M82 0 40 = true := by decide +kernel
set_option maxRecDepth 100000 in
theorem tb_d82_40 : hm_dec tb_M82 40 40 = true := by decide +kernel
set_option maxRecDepth 100000 in
theorem tb_d82_80 : hm_dec tb_M82 80 40 = true := by decide +kernel
set_option maxRecDepth 100000 in
theorem tb_d82_120 : hm_dec tb_M82 120 31 = true := by decide +kernel
set_option maxRecDepth 100000 in
theorem tb_d82 : hm_dec tb_M82 0 151 = true := hm_dec_j (n := 120) (m := 31) (hm_dec_j (n := 80) (m := 40) (hm_dec_j (n := 40) (m := 40) (tb_d82_0) tb_d82_40) tb_d82_80) tb_d82_120
set_option maxRecDepth 100000 in
theorem tb_e82 : (hm_Mi tb_M82).length = 151 := by decide +kernel
-- HandshakeForge$Work.ask(II)V
set_option maxRecDepth 100000 in
def tb_c83 : List (Option hm_O) := [some (.aload_n 0, 1, 1, 0), some (.getfield 62, 3, 9, 65), none, none, some (.iload_n 1, 1, 1, 0), some (.invokevirtual 97, 3, 14, 103), none, none, some (.ifCond .eq 22, 3, 7, 0), none, none, some (.aload_n 0, 1, 1, 0), some (.getfield 9, 3, 9, 50), none, none, some (.iload_n 1, 1, 1, 0), some (.iload_n 2, 1, 1, 0), some (.iastore, 1, 11, 1), some (.aload_n 0, 1, 1, 0), some (.getfield 15, 3, 9, 51), none, none, some (.iload_n 1, 1, 1, 0), some (.iconst (-1), 1, 0, 0), some (.iastore, 1, 11, 1), some (.aload_n 0, 1, 1, 0), some (.iload_n 1, 1, 1, 0), some (.invokevirtual 94, 3, 14, 104), none, none, some (.return_, 1, 16, 0)]
def tb_M83 : hm_M := (⟨"HandshakeForge$Work", "ask", "(II)V"⟩, 10, prog_8_method_5_code, 3, none, tb_c83, [])
set_option maxRecDepth 100000 in
theorem tb_d83 : hm_dec tb_M83 0 31 = true := by decide +kernel
set_option maxRecDepth 100000 in
theorem tb_e83 : (hm_Mi tb_M83).length = 31 := by decide +kernel
-- HandshakeForge$Work.push(I)V
set_option maxRecDepth 100000 in
def tb_c84 : List (Option hm_O) := [some (.iload_n 1, 1, 1, 0), some (.ifCond .lt 47, 3, 7, 0), none, none, some (.iload_n 1, 1, 1, 0), some (.sipush 2000, 3, 0, 0), none, none, some (.if_icmp .ge 40, 3, 7, 0), none, none, some (.aload_n 0, 1, 1, 0), some (.getfield 27, 3, 9, 55), none, none, some (.ifCond .lt 33, 3, 7, 0), none, none, some (.aload_n 0, 1, 1, 0), some (.getfield 27, 3, 9, 55), none, none, some (.sipush 2000, 3, 0, 0), none, none, some (.if_icmp .ge 23, 3, 7, 0), none, none, some (.aload_n 0, 1, 1, 0), some (.getfield 24, 3, 9, 54), none, none, some (.aload_n 0, 1, 1, 0), some (.getfield 27, 3, 9, 55), none, none, some (.iload_n 1, 1, 1, 0), some (.iastore, 1, 11, 1), some (.aload_n 0, 1, 1, 0), some (.dup, 1, 6, 0), some (.getfield 27, 3, 9, 55), none, none, some (.iconst 1, 1, 0, 0), some (.iadd, 1, 3, 0), some (.putfield 27, 3, 9, 55), none, none, some (.return_, 1, 16, 0)]
def tb_M84 : hm_M := (⟨"HandshakeForge$Work", "push", "(I)V"⟩, 10, prog_8_method_7_code, 2, none, tb_c84, [])
set_option maxRecDepth 100000 in
theorem tb_d84_0 : hm_dec tb_M84 0 40 = true := by decide +kernel
set_option maxRecDepth 100000 in
theorem tb_d84_40 : hm_dec tb_M84 40 9 = true := by decide +kernel
set_option maxRecDepth 100000 in
theorem tb_d84 : hm_dec tb_M84 0 49 = true := hm_dec_j (n := 40) (m := 9) (tb_d84_0) tb_d84_40
set_option maxRecDepth 100000 in
theorem tb_e84 : (hm_Mi tb_M84).length = 49 := by decide +kernel
-- HandshakeForge$Work.wake([I)V
set_option maxRecDepth 100000 in
def tb_c85 : List (Option hm_O) := [some (.bipush 8, 2, 0, 0), none, some (.istore_n 2, 1, 2, 0), some (.iload_n 2, 1, 1, 0), some (.bipush 12, 2, 0, 0), none, some (.if_icmp .ge 28, 3, 7, 0), none, none, some (.iload_n 2, 1, 1, 0), some (.aload_n 1, 1, 1, 0), some (.arraylength, 1, 11, 2), some (.if_icmp .ge 22, 3, 7, 0), none, none, some (.aload_n 1, 1, 1, 0), some (.iload_n 2, 1, 1, 0), some (.iaload, 1, 11, 0), some (.istore_n 3, 1, 2, 0), some (.aload_n 1, 1, 1, 0), some (.iload_n 2, 1, 1, 0), some (.iconst (-1), 1, 0, 0), some (.iastore, 1, 11, 1), some (.aload_n 0, 1, 1, 0), some (.iload_n 3, 1, 1, 0), some (.invokevirtual 94, 3, 14, 104), none, none, some (.iinc 2 1, 3, 6, 0), none, none, some (.goto (-28), 3, 7, 0), none, none, some (.return_, 1, 16, 0)]
def tb_M85 : hm_M := (⟨"HandshakeForge$Work", "wake", "([I)V"⟩, 10, prog_8_method_4_code, 4, none, tb_c85, [])
set_option maxRecDepth 100000 in
theorem tb_d85 : hm_dec tb_M85 0 35 = true := by decide +kernel
set_option maxRecDepth 100000 in
theorem tb_e85 : (hm_Mi tb_M85).length = 35 := by decide +kernel
-- HandshakeForge$Work.turnTo(I)V
set_option maxRecDepth 100000 in
def tb_c86 : List (Option hm_O) := [some (.aload_n 0, 1, 1, 0), some (.getfield 15, 3, 9, 51), none, none, some (.iload_n 1, 1, 1, 0), some (.iaload, 1, 11, 0), some (.istore_n 2, 1, 2, 0), some (.aload_n 0, 1, 1, 0), some (.getfield 15, 3, 9, 51), none, none, some (.iload_n 1, 1, 1, 0), some (.dup2, 1, 6, 0), some (.iaload, 1, 11, 0), some (.iconst 1, 1, 0, 0), some (.iadd, 1, 3, 0), some (.iastore, 1, 11, 1), some (.aload_n 0, 1, 1, 0), some (.getfield 62, 3, 9, 65), none, none, some (.getfield 101, 3, 9, 82), none, none, some (.iload_n 1, 1, 1, 0), some (.iaload, 1, 11, 0), some (.lookupswitch 109 #[(2, 82), (400, 82), (401, 82), (402, 82), (403, 82), (404, 91), (405, 100), (406, 100), (407, 100)], 82, 8, 0), none, none, none, none, none, none, none, none, none, none, none, none, none, none, none, none, none, none, none, none, none, none, none, none, none, none, none, none, none, none, none, none, none, none, none, none, none, none, none, none, none, none, none, none, none, none, none, none, none, none, none, none, none, none, none, none, none, none, none, none, none, none, none, none, none, none, none, none, none, none, none, none, none, none, none, none, none, none, none, none, none, some (.aload_n 0, 1, 1, 0), some (.iload_n 1, 1, 1, 0), some (.iload_n 2, 1, 1, 0), some (.invokevirtual 104, 3, 14, 105), none, none, some (.goto 27, 3, 7, 0), none, none, some (.aload_n 0, 1, 1, 0), some (.iload_n 1, 1, 1, 0), some (.iload_n 2, 1, 1, 0), some (.invokevirtual 107, 3, 14, 106), none, none, some (.goto 18, 3, 7, 0), none, none, some (.aload_n 0, 1, 1, 0), some (.iload_n 1, 1, 1, 0), some (.iload_n 2, 1, 1, 0), some (.invokevirtual 110, 3, 14, 107), none, none, some (.goto 9, 3, 7, 0), none, none, some (.aload_n 0, 1, 1, 0), some (.iload_n 1, 1, 1, 0), some (.iload_n 2, 1, 1, 0), some (.invokevirtual 113, 3, 14, 108), none, none, some (.return_, 1, 16, 0)]
def tb_M86 : hm_M := (⟨"HandshakeForge$Work", "turnTo", "(I)V"⟩, 10, prog_8_method_8_code, 3, none, tb_c86, [])
set_option maxRecDepth 100000 in
theorem tb_d86_0 : hm_dec tb_M86 0 40 = true := by decide +kernel
set_option maxRecDepth 100000 in
theorem tb_d86_40 : hm_dec tb_M86 40 40 = true := by decide +kernel
set_option maxRecDepth 100000 in
theorem tb_d86_80 : hm_dec tb_M86 80 40 = true := by decide +kernel
set_option maxRecDepth 100000 in
theorem tb_d86_120 : hm_dec tb_M86 120 22 = true := by decide +kernel
set_option maxRecDepth 100000 in
theorem tb_d86 : hm_dec tb_M86 0 142 = true := hm_dec_j (n := 120) (m := 22) (hm_dec_j (n := 80) (m := 40) (hm_dec_j (n := 40) (m := 40) (tb_d86_0) tb_d86_40) tb_d86_80) tb_d86_120
set_option maxRecDepth 100000 in
theorem tb_e86 : (hm_Mi tb_M86).length = 142 := by decide +kernel
-- HandshakeForge$Work.turnToE(II)V
set_option maxRecDepth 100000 in
def tb_c87 : List (Option hm_O) := [some (.aload_n 0, 1, 1, 0), some (.getfield 62, 3, 9, 65), none, none, some (.getfield 116, 3, 9, 83), none, none, some (.iload_n 1, 1, 1, 0), some (.iaload, 1, 11, 0), some (.istore_n 3, 1, 2, 0), some (.aload_n 0, 1, 1, 0), some (.getfield 62, 3, 9, 65), none, none, some (.getfield 119, 3, 9, 84), none, none, some (.iload_n 1, 1, 1, 0), some (.iaload, 1, 11, 0), some (.istore 4, 2, 2, 0), none, some (.aload_n 0, 1, 1, 0), some (.getfield 62, 3, 9, 65), none, none, some (.getfield 122, 3, 9, 85), none, none, some (.iload_n 1, 1, 1, 0), some (.iaload, 1, 11, 0), some (.istore 5, 2, 2, 0), none, some (.aload_n 0, 1, 1, 0), some (.getfield 62, 3, 9, 65), none, none, some (.getfield 101, 3, 9, 82), none, none, some (.iload_n 1, 1, 1, 0), some (.iaload, 1, 11, 0), some (.lookupswitch 105 #[(2, 35), (400, 44), (403, 57)], 35, 8, 0), none, none, none, none, none, none, none, none, none, none, none, none, none, none, none, none, none, none, none, none, none, none, none, none, none, none, none, none, none, none, none, none, none, none, some (.aload_n 0, 1, 1, 0), some (.iload_n 1, 1, 1, 0), some (.iload_n 3, 1, 1, 0), some (.invokevirtual 125, 3, 14, 109), none, none, some (.goto 122, 3, 7, 0), none, none, some (.aload_n 0, 1, 1, 0), some (.iload_n 1, 1, 1, 0), some (.aload_n 0, 1, 1, 0), some (.iload_n 3, 1, 1, 0), some (.invokevirtual 128, 3, 14, 110), none, none, some (.invokevirtual 125, 3, 14, 109), none, none, some (.goto 109, 3, 7, 0), none, none, some (.iload_n 2, 1, 1, 0), some (.iconst 2, 1, 0, 0), some (.if_icmp .ge 22, 3, 7, 0), none, none, some (.aload_n 0, 1, 1, 0), some (.iload_n 2, 1, 1, 0), some (.ifCond .ne 8, 3, 7, 0), none, none, some (.iload 4, 2, 1, 0), none, some (.goto 5, 3, 7, 0), none, none, some (.iload 5, 2, 1, 0), none, some (.iload_n 1, 1, 1, 0), some (.invokevirtual 81, 3, 14, 100), none, none, some (.goto 85, 3, 7, 0), none, none, some (.aload_n 0, 1, 1, 0), some (.iload_n 1, 1, 1, 0), some (.iload_n 3, 1, 1, 0), some (.aload_n 0, 1, 1, 0), some (.iload 4, 2, 1, 0), none, some (.invokevirtual 132, 3, 14, 111), none, none, some (.aload_n 0, 1, 1, 0), some (.iload 5, 2, 1, 0), none, some (.invokevirtual 132, 3, 14, 111), none, none, some (.invokestatic 135, 3, 14, 112), none, none, some (.invokevirtual 125, 3, 14, 109), none, none, some (.goto 61, 3, 7, 0), none, none, some (.iload_n 2, 1, 1, 0), some (.ifCond .ne 13, 3, 7, 0), none, none, some (.aload_n 0, 1, 1, 0), some (.iload 4, 2, 1, 0), none, some (.iload_n 1, 1, 1, 0), some (.invokevirtual 81, 3, 14, 100), none, none, some (.goto 47, 3, 7, 0), none, none, some (.aload_n 0, 1, 1, 0), some (.iload_n 1, 1, 1, 0), some (.aload_n 0, 1, 1, 0), some (.getfield 62, 3, 9, 65), none, none, some (.getfield 101, 3, 9, 82), none, none, some (.iload_n 1, 1, 1, 0), some (.iaload, 1, 11, 0), some (.sipush 401, 3, 0, 0), none, none, some (.if_icmp .ne 17, 3, 7, 0), none, none, some (.aload_n 0, 1, 1, 0), some (.iload_n 3, 1, 1, 0), some (.aload_n 0, 1, 1, 0), some (.iload 4, 2, 1, 0), none, some (.invokevirtual 132, 3, 14, 111), none, none, some (.invokevirtual 139, 3, 14, 113), none, none, some (.goto 13, 3, 7, 0), none, none, some (.iload_n 3, 1, 1, 0), some (.aload_n 0, 1, 1, 0), some (.iload 4, 2, 1, 0), none, some (.invokevirtual 132, 3, 14, 111), none, none, some (.invokestatic 143, 3, 14, 114), none, none, some (.invokevirtual 125, 3, 14, 109), none, none, some (.return_, 1, 16, 0)]
def tb_M87 : hm_M := (⟨"HandshakeForge$Work", "turnToE", "(II)V"⟩, 10, prog_8_method_9_code, 6, none, tb_c87, [])
set_option maxRecDepth 100000 in
theorem tb_d87_0 : hm_dec tb_M87 0 40 = true := by decide +kernel
set_option maxRecDepth 100000 in
theorem tb_d87_40 : hm_dec tb_M87 40 40 = true := by decide +kernel
set_option maxRecDepth 100000 in
theorem tb_d87_80 : hm_dec tb_M87 80 40 = true := by decide +kernel
set_option maxRecDepth 100000 in
theorem tb_d87_120 : hm_dec tb_M87 120 40 = true := by decide +kernel
set_option maxRecDepth 100000 in
theorem tb_d87_160 : hm_dec tb_M87 160 40 = true := by decide +kernel
set_option maxRecDepth 100000 in
theorem tb_d87_200 : hm_dec tb_M87 200 5 = true := by decide +kernel
set_option maxRecDepth 100000 in
theorem tb_d87 : hm_dec tb_M87 0 205 = true := hm_dec_j (n := 200) (m := 5) (hm_dec_j (n := 160) (m := 40) (hm_dec_j (n := 120) (m := 40) (hm_dec_j (n := 80) (m := 40) (hm_dec_j (n := 40) (m := 40) (tb_d87_0) tb_d87_40) tb_d87_80) tb_d87_120) tb_d87_160) tb_d87_200
set_option maxRecDepth 100000 in
theorem tb_e87 : (hm_Mi tb_M87).length = 205 := by decide +kernel
-- HandshakeForge$Work.tell(II)V
set_option maxRecDepth 100000 in
def tb_c88 : List (Option hm_O) := [some (.aload_n 0, 1, 1, 0), some (.getfield 62, 3, 9, 65), none, none, some (.iload_n 1, 1, 1, 0), some (.invokevirtual 97, 3, 14, 103), none, none, some (.ifCond .eq 43, 3, 7, 0), none, none, some (.aload_n 0, 1, 1, 0), some (.getfield 18, 3, 9, 52), none, none, some (.iload_n 1, 1, 1, 0), some (.iload_n 2, 1, 1, 0), some (.iastore, 1, 11, 1), some (.aload_n 0, 1, 1, 0), some (.dup, 1, 6, 0), some (.getfield 52, 3, 9, 62), none, none, some (.aload_n 0, 1, 1, 0), some (.getfield 9, 3, 9, 50), none, none, some (.iload_n 1, 1, 1, 0), some (.iaload, 1, 11, 0), some (.ifCond .ge 7, 3, 7, 0), none, none, some (.iconst 1, 1, 0, 0), some (.goto 4, 3, 7, 0), none, none, some (.iconst 0, 1, 0, 0), some (.ior, 1, 3, 0), some (.putfield 52, 3, 9, 62), none, none, some (.aload_n 0, 1, 1, 0), some (.aload_n 0, 1, 1, 0), some (.getfield 9, 3, 9, 50), none, none, some (.iload_n 1, 1, 1, 0), some (.iaload, 1, 11, 0), some (.invokevirtual 94, 3, 14, 104), none, none, some (.return_, 1, 16, 0)]
def tb_M88 : hm_M := (⟨"HandshakeForge$Work", "tell", "(II)V"⟩, 10, prog_8_method_6_code, 3, none, tb_c88, [])
set_option maxRecDepth 100000 in
theorem tb_d88_0 : hm_dec tb_M88 0 40 = true := by decide +kernel
set_option maxRecDepth 100000 in
theorem tb_d88_40 : hm_dec tb_M88 40 12 = true := by decide +kernel
set_option maxRecDepth 100000 in
theorem tb_d88 : hm_dec tb_M88 0 52 = true := hm_dec_j (n := 40) (m := 12) (tb_d88_0) tb_d88_40
set_option maxRecDepth 100000 in
theorem tb_e88 : (hm_Mi tb_M88).length = 52 := by decide +kernel
-- HandshakeForge$Work.variable(I)I
set_option maxRecDepth 100000 in
def tb_c89 : List (Option hm_O) := [some (.iload_n 1, 1, 1, 0), some (.ifCond .lt 18, 3, 7, 0), none, none, some (.iload_n 1, 1, 1, 0), some (.bipush 24, 2, 0, 0), none, some (.if_icmp .ge 12, 3, 7, 0), none, none, some (.aload_n 0, 1, 1, 0), some (.getfield 31, 3, 9, 56), none, none, some (.iload_n 1, 1, 1, 0), some (.iaload, 1, 11, 0), some (.goto 4, 3, 7, 0), none, none, some (.iconst 0, 1, 0, 0), some (.ireturn, 1, 16, 0)]
def tb_M89 : hm_M := (⟨"HandshakeForge$Work", "variable", "(I)I"⟩, 10, prog_8_method_20_code, 2, (some .int), tb_c89, [])
set_option maxRecDepth 100000 in
theorem tb_d89 : hm_dec tb_M89 0 21 = true := by decide +kernel
set_option maxRecDepth 100000 in
theorem tb_e89 : (hm_Mi tb_M89).length = 21 := by decide +kernel
-- HandshakeForge$Work.value(I)I
set_option maxRecDepth 100000 in
def tb_c90 : List (Option hm_O) := [some (.aload_n 0, 1, 1, 0), some (.getfield 62, 3, 9, 65), none, none, some (.iload_n 1, 1, 1, 0), some (.invokevirtual 97, 3, 14, 103), none, none, some (.ifCond .eq 12, 3, 7, 0), none, none, some (.aload_n 0, 1, 1, 0), some (.getfield 18, 3, 9, 52), none, none, some (.iload_n 1, 1, 1, 0), some (.iaload, 1, 11, 0), some (.goto 4, 3, 7, 0), none, none, some (.iconst 0, 1, 0, 0), some (.ireturn, 1, 16, 0)]
def tb_M90 : hm_M := (⟨"HandshakeForge$Work", "value", "(I)I"⟩, 10, prog_8_method_19_code, 2, (some .int), tb_c90, [])
set_option maxRecDepth 100000 in
theorem tb_d90 : hm_dec tb_M90 0 22 = true := by decide +kernel
set_option maxRecDepth 100000 in
theorem tb_e90 : (hm_Mi tb_M90).length = 22 := by decide +kernel
-- HandshakeForge$Work.signTwo(III)I
set_option maxRecDepth 100000 in
def tb_c91 : List (Option hm_O) := [some (.iload_n 0, 1, 1, 0), some (.lookupswitch 315 #[(38, 189), (42, 299), (43, 291), (45, 295), (47, 303), (60, 221), (62, 249), (94, 185), (124, 181), (8509, 207), (9766, 164), (15420, 277), (15421, 235), (15677, 193), (15933, 263), (15934, 284), (31868, 147)], 147, 8, 0), none, none, none, none, none, none, none, none, none, none, none, none, none, none, none, none, none, none, none, none, none, none, none, none, none, none, none, none, none, none, none, none, none, none, none, none, none, none, none, none, none, none, none, none, none, none, none, none, none, none, none, none, none, none, none, none, none, none, none, none, none, none, none, none, none, none, none, none, none, none, none, none, none, none, none, none, none, none, none, none, none, none, none, none, none, none, none, none, none, none, none, none, none, none, none, none, none, none, none, none, none, none, none, none, none, none, none, none, none, none, none, none, none, none, none, none, none, none, none, none, none, none, none, none, none, none, none, none, none, none, none, none, none, none, none, none, none, none, none, none, none, none, none, none, none, none, some (.iload_n 1, 1, 1, 0), some (.ifCond .ne 7, 3, 7, 0), none, none, some (.iload_n 2, 1, 1, 0), some (.ifCond .eq 7, 3, 7, 0), none, none, some (.iconst 1, 1, 0, 0), some (.goto 4, 3, 7, 0), none, none, some (.iconst 0, 1, 0, 0), some (.invokestatic 193, 3, 14, 115), none, none, some (.ireturn, 1, 16, 0), some (.iload_n 1, 1, 1, 0), some (.ifCond .eq 11, 3, 7, 0), none, none, some (.iload_n 2, 1, 1, 0), some (.ifCond .eq 7, 3, 7, 0), none, none, some (.iconst 1, 1, 0, 0), some (.goto 4, 3, 7, 0), none, none, some (.iconst 0, 1, 0, 0), some (.invokestatic 193, 3, 14, 115), none, none, some (.ireturn, 1, 16, 0), some (.iload_n 1, 1, 1, 0), some (.iload_n 2, 1, 1, 0), some (.ior, 1, 3, 0), some (.ireturn, 1, 16, 0), some (.iload_n 1, 1, 1, 0), some (.iload_n 2, 1, 1, 0), some (.ixor, 1, 3, 0), some (.ireturn, 1, 16, 0), some (.iload_n 1, 1, 1, 0), some (.iload_n 2, 1, 1, 0), some (.iand, 1, 3, 0), some (.ireturn, 1, 16, 0), some (.iload_n 1, 1, 1, 0), some (.iload_n 2, 1, 1, 0), some (.if_icmp .ne 7, 3, 7, 0), none, none, some (.iconst 1, 1, 0, 0), some (.goto 4, 3, 7, 0), none, none, some (.iconst 0, 1, 0, 0), some (.invokestatic 193, 3, 14, 115), none, none, some (.ireturn, 1, 16, 0), some (.iload_n 1, 1, 1, 0), some (.iload_n 2, 1, 1, 0), some (.if_icmp .eq 7, 3, 7, 0), none, none, some (.iconst 1, 1, 0, 0), some (.goto 4, 3, 7, 0), none, none, some (.iconst 0, 1, 0, 0), some (.invokestatic 193, 3, 14, 115), none, none, some (.ireturn, 1, 16, 0), some (.iload_n 1, 1, 1, 0), some (.iload_n 2, 1, 1, 0), some (.if_icmp .ge 7, 3, 7, 0), none, none, some (.iconst 1, 1, 0, 0), some (.goto 4, 3, 7, 0), none, none, some (.iconst 0, 1, 0, 0), some (.invokestatic 193, 3, 14, 115), none, none, some (.ireturn, 1, 16, 0), some (.iload_n 1, 1, 1, 0), some (.iload_n 2, 1, 1, 0), some (.if_icmp .gt 7, 3, 7, 0), none, none, some (.iconst 1, 1, 0, 0), some (.goto 4, 3, 7, 0), none, none, some (.iconst 0, 1, 0, 0), some (.invokestatic 193, 3, 14, 115), none, none, some (.ireturn, 1, 16, 0), some (.iload_n 1, 1, 1, 0), some (.iload_n 2, 1, 1, 0), some (.if_icmp .le 7, 3, 7, 0), none, none, some (.iconst 1, 1, 0, 0), some (.goto 4, 3, 7, 0), none, none, some (.iconst 0, 1, 0, 0), some (.invokestatic 193, 3, 14, 115), none, none, some (.ireturn, 1, 16, 0), some (.iload_n 1, 1, 1, 0), some (.iload_n 2, 1, 1, 0), some (.if_icmp .lt 7, 3, 7, 0), none, none, some (.iconst 1, 1, 0, 0), some (.goto 4, 3, 7, 0), none, none, some (.iconst 0, 1, 0, 0), some (.invokestatic 193, 3, 14, 115), none, none, some (.ireturn, 1, 16, 0), some (.iload_n 1, 1, 1, 0), some (.iload_n 2, 1, 1, 0), some (.bipush 31, 2, 0, 0), none, some (.iand, 1, 3, 0), some (.ishl, 1, 3, 0), some (.ireturn, 1, 16, 0), some (.iload_n 1, 1, 1, 0), some (.iload_n 2, 1, 1, 0), some (.bipush 31, 2, 0, 0), none, some (.iand, 1, 3, 0), some (.ishr, 1, 3, 0), some (.ireturn, 1, 16, 0), some (.iload_n 1, 1, 1, 0), some (.iload_n 2, 1, 1, 0), some (.iadd, 1, 3, 0), some (.ireturn, 1, 16, 0), some (.iload_n 1, 1, 1, 0), some (.iload_n 2, 1, 1, 0), some (.isub, 1, 3, 0), some (.ireturn, 1, 16, 0), some (.iload_n 1, 1, 1, 0), some (.iload_n 2, 1, 1, 0), some (.imul, 1, 3, 0), some (.ireturn, 1, 16, 0), some (.iload_n 2, 1, 1, 0), some (.ifCond .ne 7, 3, 7, 0), none, none, some (.iconst 0, 1, 0, 0), some (.goto 6, 3, 7, 0), none, none, some (.iload_n 1, 1, 1, 0), some (.iload_n 2, 1, 1, 0), some (.idiv, 1, 6, 0), some (.ireturn, 1, 16, 0), some (.iload_n 2, 1, 1, 0), some (.ifCond .ne 7, 3, 7, 0), none, none, some (.iconst 0, 1, 0, 0), some (.goto 6, 3, 7, 0), none, none, some (.iload_n 1, 1, 1, 0), some (.iload_n 2, 1, 1, 0), some (.irem, 1, 6, 0), some (.ireturn, 1, 16, 0)]
def tb_M91 : hm_M := (⟨"HandshakeForge$Work", "signTwo", "(III)I"⟩, 10, prog_8_method_24_code, 3, (some .int), tb_c91, [])
set_option maxRecDepth 100000 in
theorem tb_d91_0 : hm_dec tb_M91 0 40 = true := by decide +kernel
set_option maxRecDepth 100000 in
theorem tb_d91_40 : hm_dec tb_M91 40 40 = true := by decide +kernel
set_option maxRecDepth 100000 in
theorem tb_d91_80 : hm_dec tb_M91 80 40 = true := by decide +kernel
set_option maxRecDepth 100000 in
theorem tb_d91_120 : hm_dec tb_M91 120 40 = true := by decide +kernel
set_option maxRecDepth 100000 in
theorem tb_d91_160 : hm_dec tb_M91 160 40 = true := by decide +kernel
set_option maxRecDepth 100000 in
theorem tb_d91_200 : hm_dec tb_M91 200 40 = true := by decide +kernel
set_option maxRecDepth 100000 in
theorem tb_d91_240 : hm_dec tb_M91 240 40 = true := by decide +kernel
set_option maxRecDepth 100000 in
theorem tb_d91_280 : hm_dec tb_M91 280 40 = true := by decide +kernel
set_option maxRecDepth 100000 in
theorem tb_d91_320 : hm_dec tb_M91 320 8 = true := by decide +kernel
set_option maxRecDepth 100000 in
theorem tb_d91 : hm_dec tb_M91 0 328 = true := hm_dec_j (n := 320) (m := 8) (hm_dec_j (n := 280) (m := 40) (hm_dec_j (n := 240) (m := 40) (hm_dec_j (n := 200) (m := 40) (hm_dec_j (n := 160) (m := 40) (hm_dec_j (n := 120) (m := 40) (hm_dec_j (n := 80) (m := 40) (hm_dec_j (n := 40) (m := 40) (tb_d91_0) tb_d91_40) tb_d91_80) tb_d91_120) tb_d91_160) tb_d91_200) tb_d91_240) tb_d91_280) tb_d91_320
set_option maxRecDepth 100000 in
theorem tb_e91 : (hm_Mi tb_M91).length = 328 := by decide +kernel
-- HandshakeForge$Work.truth(Z)I
set_option maxRecDepth 100000 in
def tb_c92 : List (Option hm_O) := [some (.iload_n 0, 1, 1, 0), some (.ifCond .eq 7, 3, 7, 0), none, none, some (.iconst 1, 1, 0, 0), some (.goto 4, 3, 7, 0), none, none, some (.iconst 0, 1, 0, 0), some (.ireturn, 1, 16, 0)]
def tb_M92 : hm_M := (⟨"HandshakeForge$Work", "truth", "(Z)I"⟩, 10, prog_8_method_25_code, 1, (some .int), tb_c92, [])
set_option maxRecDepth 100000 in
theorem tb_d92 : hm_dec tb_M92 0 10 = true := by decide +kernel
set_option maxRecDepth 100000 in
theorem tb_e92 : (hm_Mi tb_M92).length = 10 := by decide +kernel
-- HandshakeForge$Work.item(II)I
set_option maxRecDepth 100000 in
def tb_c93 : List (Option hm_O) := [some (.iload_n 1, 1, 1, 0), some (.ifCond .lt 9, 3, 7, 0), none, none, some (.iload_n 1, 1, 1, 0), some (.bipush 6, 2, 0, 0), none, some (.if_icmp .lt 5, 3, 7, 0), none, none, some (.iconst 0, 1, 0, 0), some (.ireturn, 1, 16, 0), some (.aload_n 0, 1, 1, 0), some (.getfield 34, 3, 9, 57), none, none, some (.iload_n 1, 1, 1, 0), some (.bipush 64, 2, 0, 0), none, some (.imul, 1, 3, 0), some (.aload_n 0, 1, 1, 0), some (.getfield 62, 3, 9, 65), none, none, some (.iload_n 1, 1, 1, 0), some (.iload_n 2, 1, 1, 0), some (.invokevirtual 187, 3, 14, 116), none, none, some (.iadd, 1, 3, 0), some (.iaload, 1, 11, 0), some (.ireturn, 1, 16, 0)]
def tb_M93 : hm_M := (⟨"HandshakeForge$Work", "item", "(II)I"⟩, 10, prog_8_method_21_code, 3, (some .int), tb_c93, [])
set_option maxRecDepth 100000 in
theorem tb_d93 : hm_dec tb_M93 0 32 = true := by decide +kernel
set_option maxRecDepth 100000 in
theorem tb_e93 : (hm_Mi tb_M93).length = 32 := by decide +kernel
-- HandshakeForge$Circuit.placeIn(II)I
set_option maxRecDepth 100000 in
def tb_c94 : List (Option hm_O) := [some (.iload_n 1, 1, 1, 0), some (.ifCond .lt 31, 3, 7, 0), none, none, some (.iload_n 1, 1, 1, 0), some (.bipush 6, 2, 0, 0), none, some (.if_icmp .ge 25, 3, 7, 0), none, none, some (.aload_n 0, 1, 1, 0), some (.getfield 40, 3, 9, 16), none, none, some (.iload_n 1, 1, 1, 0), some (.iaload, 1, 11, 0), some (.ifCond .le 16, 3, 7, 0), none, none, some (.iload_n 2, 1, 1, 0), some (.aload_n 0, 1, 1, 0), some (.getfield 40, 3, 9, 16), none, none, some (.iload_n 1, 1, 1, 0), some (.iaload, 1, 11, 0), some (.iconst 1, 1, 0, 0), some (.isub, 1, 3, 0), some (.iand, 1, 3, 0), some (.goto 4, 3, 7, 0), none, none, some (.iconst 0, 1, 0, 0), some (.ireturn, 1, 16, 0)]
def tb_M94 : hm_M := (⟨"HandshakeForge$Circuit", "placeIn", "(II)I"⟩, 3, prog_2_method_13_code, 3, (some .int), tb_c94, [])
set_option maxRecDepth 100000 in
theorem tb_d94 : hm_dec tb_M94 0 34 = true := by decide +kernel
set_option maxRecDepth 100000 in
theorem tb_e94 : (hm_Mi tb_M94).length = 34 := by decide +kernel
-- HandshakeForge$Work.signOne(II)I
set_option maxRecDepth 100000 in
def tb_c95 : List (Option hm_O) := [some (.iload_n 0, 1, 1, 0), some (.lookupswitch 34 #[(45, 27), (126, 30)], 27, 8, 0), none, none, none, none, none, none, none, none, none, none, none, none, none, none, none, none, none, none, none, none, none, none, none, none, none, none, some (.iload_n 1, 1, 1, 0), some (.ineg, 1, 5, 0), some (.ireturn, 1, 16, 0), some (.iload_n 1, 1, 1, 0), some (.iconst (-1), 1, 0, 0), some (.ixor, 1, 3, 0), some (.ireturn, 1, 16, 0), some (.iload_n 1, 1, 1, 0), some (.ifCond .ne 7, 3, 7, 0), none, none, some (.iconst 1, 1, 0, 0), some (.goto 4, 3, 7, 0), none, none, some (.iconst 0, 1, 0, 0), some (.invokestatic 193, 3, 14, 115), none, none, some (.ireturn, 1, 16, 0)]
def tb_M95 : hm_M := (⟨"HandshakeForge$Work", "signOne", "(II)I"⟩, 10, prog_8_method_23_code, 2, (some .int), tb_c95, [])
set_option maxRecDepth 100000 in
theorem tb_d95_0 : hm_dec tb_M95 0 40 = true := by decide +kernel
set_option maxRecDepth 100000 in
theorem tb_d95_40 : hm_dec tb_M95 40 8 = true := by decide +kernel
set_option maxRecDepth 100000 in
theorem tb_d95 : hm_dec tb_M95 0 48 = true := hm_dec_j (n := 40) (m := 8) (tb_d95_0) tb_d95_40
set_option maxRecDepth 100000 in
theorem tb_e95 : (hm_Mi tb_M95).length = 48 := by decide +kernel
-- HandshakeForge$Work.turnToCall(II)V
set_option maxRecDepth 100000 in
def tb_c96 : List (Option hm_O) := [some (.aload_n 0, 1, 1, 0), some (.getfield 62, 3, 9, 65), none, none, some (.getfield 116, 3, 9, 83), none, none, some (.iload_n 1, 1, 1, 0), some (.iaload, 1, 11, 0), some (.istore_n 3, 1, 2, 0), some (.aload_n 0, 1, 1, 0), some (.getfield 62, 3, 9, 65), none, none, some (.getfield 119, 3, 9, 84), none, none, some (.iload_n 1, 1, 1, 0), some (.iaload, 1, 11, 0), some (.istore 4, 2, 2, 0), none, some (.aload_n 0, 1, 1, 0), some (.getfield 62, 3, 9, 65), none, none, some (.getfield 122, 3, 9, 85), none, none, some (.iload_n 1, 1, 1, 0), some (.iaload, 1, 11, 0), some (.istore 5, 2, 2, 0), none, some (.iload_n 2, 1, 1, 0), some (.iload 5, 2, 1, 0), none, some (.if_icmp .ge 45, 3, 7, 0), none, none, some (.aload_n 0, 1, 1, 0), some (.getfield 21, 3, 9, 53), none, none, some (.iload_n 1, 1, 1, 0), some (.iload_n 2, 1, 1, 0), some (.ifCond .ne 8, 3, 7, 0), none, none, some (.iload 4, 2, 1, 0), none, some (.goto 16, 3, 7, 0), none, none, some (.aload_n 0, 1, 1, 0), some (.getfield 62, 3, 9, 65), none, none, some (.aload_n 0, 1, 1, 0), some (.getfield 21, 3, 9, 53), none, none, some (.iload_n 1, 1, 1, 0), some (.iaload, 1, 11, 0), some (.invokevirtual 146, 3, 14, 117), none, none, some (.iastore, 1, 11, 1), some (.aload_n 0, 1, 1, 0), some (.aload_n 0, 1, 1, 0), some (.getfield 21, 3, 9, 53), none, none, some (.iload_n 1, 1, 1, 0), some (.iaload, 1, 11, 0), some (.iload_n 1, 1, 1, 0), some (.invokevirtual 81, 3, 14, 100), none, none, some (.goto 90, 3, 7, 0), none, none, some (.iload_n 2, 1, 1, 0), some (.iload 5, 2, 1, 0), none, some (.if_icmp .ne 40, 3, 7, 0), none, none, some (.aload_n 0, 1, 1, 0), some (.iload_n 3, 1, 1, 0), some (.iload 4, 2, 1, 0), none, some (.iload 5, 2, 1, 0), none, some (.invokevirtual 149, 3, 14, 118), none, none, some (.aload_n 0, 1, 1, 0), some (.getfield 21, 3, 9, 53), none, none, some (.iload_n 1, 1, 1, 0), some (.aload_n 0, 1, 1, 0), some (.getfield 62, 3, 9, 65), none, none, some (.iload_n 3, 1, 1, 0), some (.invokevirtual 153, 3, 14, 119), none, none, some (.iastore, 1, 11, 1), some (.aload_n 0, 1, 1, 0), some (.aload_n 0, 1, 1, 0), some (.getfield 21, 3, 9, 53), none, none, some (.iload_n 1, 1, 1, 0), some (.iaload, 1, 11, 0), some (.iload_n 1, 1, 1, 0), some (.invokevirtual 81, 3, 14, 100), none, none, some (.goto 47, 3, 7, 0), none, none, some (.aload_n 0, 1, 1, 0), some (.aload_n 0, 1, 1, 0), some (.getfield 21, 3, 9, 53), none, none, some (.iload_n 1, 1, 1, 0), some (.iaload, 1, 11, 0), some (.invokevirtual 132, 3, 14, 111), none, none, some (.istore 6, 2, 2, 0), none, some (.aload_n 0, 1, 1, 0), some (.getfield 21, 3, 9, 53), none, none, some (.iload_n 1, 1, 1, 0), some (.aload_n 0, 1, 1, 0), some (.getfield 62, 3, 9, 65), none, none, some (.aload_n 0, 1, 1, 0), some (.getfield 21, 3, 9, 53), none, none, some (.iload_n 1, 1, 1, 0), some (.iaload, 1, 11, 0), some (.invokevirtual 146, 3, 14, 117), none, none, some (.iastore, 1, 11, 1), some (.aload_n 0, 1, 1, 0), some (.aload_n 0, 1, 1, 0), some (.getfield 21, 3, 9, 53), none, none, some (.iload_n 1, 1, 1, 0), some (.iaload, 1, 11, 0), some (.iload_n 1, 1, 1, 0), some (.iload 6, 2, 1, 0), none, some (.invokevirtual 156, 3, 14, 120), none, none, some (.return_, 1, 16, 0)]
def tb_M96 : hm_M := (⟨"HandshakeForge$Work", "turnToCall", "(II)V"⟩, 10, prog_8_method_10_code, 7, none, tb_c96, [])
set_option maxRecDepth 100000 in
theorem tb_d96_0 : hm_dec tb_M96 0 40 = true := by decide +kernel
set_option maxRecDepth 100000 in
theorem tb_d96_40 : hm_dec tb_M96 40 40 = true := by decide +kernel
set_option maxRecDepth 100000 in
theorem tb_d96_80 : hm_dec tb_M96 80 40 = true := by decide +kernel
set_option maxRecDepth 100000 in
theorem tb_d96_120 : hm_dec tb_M96 120 40 = true := by decide +kernel
set_option maxRecDepth 100000 in
theorem tb_d96_160 : hm_dec tb_M96 160 8 = true := by decide +kernel
set_option maxRecDepth 100000 in
theorem tb_d96 : hm_dec tb_M96 0 168 = true := hm_dec_j (n := 160) (m := 8) (hm_dec_j (n := 120) (m := 40) (hm_dec_j (n := 80) (m := 40) (hm_dec_j (n := 40) (m := 40) (tb_d96_0) tb_d96_40) tb_d96_80) tb_d96_120) tb_d96_160
set_option maxRecDepth 100000 in
theorem tb_e96 : (hm_Mi tb_M96).length = 168 := by decide +kernel
-- HandshakeForge$Circuit.follower(I)I
set_option maxRecDepth 100000 in
def tb_c97 : List (Option hm_O) := [some (.aload_n 0, 1, 1, 0), some (.iload_n 1, 1, 1, 0), some (.invokevirtual 69, 3, 14, 92), none, none, some (.ifCond .eq 12, 3, 7, 0), none, none, some (.aload_n 0, 1, 1, 0), some (.getfield 24, 3, 9, 12), none, none, some (.iload_n 1, 1, 1, 0), some (.iaload, 1, 11, 0), some (.goto 4, 3, 7, 0), none, none, some (.iconst (-1), 1, 0, 0), some (.ireturn, 1, 16, 0)]
def tb_M97 : hm_M := (⟨"HandshakeForge$Circuit", "follower", "(I)I"⟩, 3, prog_2_method_12_code, 2, (some .int), tb_c97, [])
set_option maxRecDepth 100000 in
theorem tb_d97 : hm_dec tb_M97 0 19 = true := by decide +kernel
set_option maxRecDepth 100000 in
theorem tb_e97 : (hm_Mi tb_M97).length = 19 := by decide +kernel
-- HandshakeForge$Work.pass(III)V
set_option maxRecDepth 100000 in
def tb_c98 : List (Option hm_O) := [some (.iload_n 2, 1, 1, 0), some (.istore 4, 2, 2, 0), none, some (.iconst 0, 1, 0, 0), some (.istore 5, 2, 2, 0), none, some (.iload 5, 2, 1, 0), none, some (.iload_n 3, 1, 1, 0), some (.if_icmp .ge 42, 3, 7, 0), none, none, some (.aload_n 0, 1, 1, 0), some (.aload_n 0, 1, 1, 0), some (.getfield 62, 3, 9, 65), none, none, some (.iload_n 1, 1, 1, 0), some (.invokevirtual 159, 3, 14, 121), none, none, some (.iload 5, 2, 1, 0), none, some (.iadd, 1, 3, 0), some (.iconst 0, 1, 0, 0), some (.aload_n 0, 1, 1, 0), some (.iload 4, 2, 1, 0), none, some (.invokevirtual 132, 3, 14, 111), none, none, some (.invokevirtual 162, 3, 14, 122), none, none, some (.aload_n 0, 1, 1, 0), some (.getfield 62, 3, 9, 65), none, none, some (.iload 4, 2, 1, 0), none, some (.invokevirtual 146, 3, 14, 117), none, none, some (.istore 4, 2, 2, 0), none, some (.iinc 5 1, 3, 6, 0), none, none, some (.goto (-42), 3, 7, 0), none, none, some (.return_, 1, 16, 0)]
def tb_M98 : hm_M := (⟨"HandshakeForge$Work", "pass", "(III)V"⟩, 10, prog_8_method_11_code, 6, none, tb_c98, [])
set_option maxRecDepth 100000 in
theorem tb_d98_0 : hm_dec tb_M98 0 40 = true := by decide +kernel
set_option maxRecDepth 100000 in
theorem tb_d98_40 : hm_dec tb_M98 40 12 = true := by decide +kernel
set_option maxRecDepth 100000 in
theorem tb_d98 : hm_dec tb_M98 0 52 = true := hm_dec_j (n := 40) (m := 12) (tb_d98_0) tb_d98_40
set_option maxRecDepth 100000 in
theorem tb_e98 : (hm_Mi tb_M98).length = 52 := by decide +kernel
-- HandshakeForge$Circuit.firstParameter(I)I
set_option maxRecDepth 100000 in
def tb_c99 : List (Option hm_O) := [some (.iload_n 1, 1, 1, 0), some (.ifCond .lt 18, 3, 7, 0), none, none, some (.iload_n 1, 1, 1, 0), some (.bipush 12, 2, 0, 0), none, some (.if_icmp .ge 12, 3, 7, 0), none, none, some (.aload_n 0, 1, 1, 0), some (.getfield 46, 3, 9, 18), none, none, some (.iload_n 1, 1, 1, 0), some (.iaload, 1, 11, 0), some (.goto 4, 3, 7, 0), none, none, some (.iconst 0, 1, 0, 0), some (.ireturn, 1, 16, 0)]
def tb_M99 : hm_M := (⟨"HandshakeForge$Circuit", "firstParameter", "(I)I"⟩, 3, prog_2_method_10_code, 2, (some .int), tb_c99, [])
set_option maxRecDepth 100000 in
theorem tb_d99 : hm_dec tb_M99 0 21 = true := by decide +kernel
set_option maxRecDepth 100000 in
theorem tb_e99 : (hm_Mi tb_M99).length = 21 := by decide +kernel
-- HandshakeForge$Work.assign(III)V
set_option maxRecDepth 100000 in
def tb_c100 : List (Option hm_O) := [some (.iload_n 1, 1, 1, 0), some (.bipush 24, 2, 0, 0), none, some (.isub, 1, 3, 0), some (.istore 4, 2, 2, 0), none, some (.iload_n 1, 1, 1, 0), some (.ifCond .lt 47, 3, 7, 0), none, none, some (.iload_n 1, 1, 1, 0), some (.bipush 24, 2, 0, 0), none, some (.if_icmp .ge 41, 3, 7, 0), none, none, some (.aload_n 0, 1, 1, 0), some (.getfield 62, 3, 9, 65), none, none, some (.getfield 190, 3, 9, 86), none, none, some (.iload_n 1, 1, 1, 0), some (.iaload, 1, 11, 0), some (.istore 5, 2, 2, 0), none, some (.aload_n 0, 1, 1, 0), some (.getfield 31, 3, 9, 56), none, none, some (.iload_n 1, 1, 1, 0), some (.iload 5, 2, 1, 0), none, some (.ifCond .ne 8, 3, 7, 0), none, none, some (.iload_n 3, 1, 1, 0), some (.i2s, 1, 5, 0), some (.goto 11, 3, 7, 0), none, none, some (.iload_n 3, 1, 1, 0), some (.iconst 1, 1, 0, 0), some (.iload 5, 2, 1, 0), none, some (.ishl, 1, 3, 0), some (.iconst 1, 1, 0, 0), some (.isub, 1, 3, 0), some (.iand, 1, 3, 0), some (.iastore, 1, 11, 1), some (.goto 38, 3, 7, 0), none, none, some (.iload 4, 2, 1, 0), none, some (.ifCond .lt 33, 3, 7, 0), none, none, some (.iload 4, 2, 1, 0), none, some (.bipush 6, 2, 0, 0), none, some (.if_icmp .ge 26, 3, 7, 0), none, none, some (.aload_n 0, 1, 1, 0), some (.getfield 34, 3, 9, 57), none, none, some (.iload 4, 2, 1, 0), none, some (.bipush 64, 2, 0, 0), none, some (.imul, 1, 3, 0), some (.aload_n 0, 1, 1, 0), some (.getfield 62, 3, 9, 65), none, none, some (.iload 4, 2, 1, 0), none, some (.iload_n 2, 1, 1, 0), some (.invokevirtual 187, 3, 14, 116), none, none, some (.iadd, 1, 3, 0), some (.iload_n 3, 1, 1, 0), some (.i2s, 1, 5, 0), some (.iastore, 1, 11, 1), some (.return_, 1, 16, 0)]
def tb_M100 : hm_M := (⟨"HandshakeForge$Work", "assign", "(III)V"⟩, 10, prog_8_method_22_code, 6, none, tb_c100, [])
set_option maxRecDepth 100000 in
theorem tb_d100_0 : hm_dec tb_M100 0 40 = true := by decide +kernel
set_option maxRecDepth 100000 in
theorem tb_d100_40 : hm_dec tb_M100 40 40 = true := by decide +kernel
set_option maxRecDepth 100000 in
theorem tb_d100_80 : hm_dec tb_M100 80 10 = true := by decide +kernel
set_option maxRecDepth 100000 in
theorem tb_d100 : hm_dec tb_M100 0 90 = true := hm_dec_j (n := 80) (m := 10) (hm_dec_j (n := 40) (m := 40) (tb_d100_0) tb_d100_40) tb_d100_80
set_option maxRecDepth 100000 in
theorem tb_e100 : (hm_Mi tb_M100).length = 90 := by decide +kernel
-- HandshakeForge$Circuit.body(I)I
set_option maxRecDepth 100000 in
def tb_c101 : List (Option hm_O) := [some (.iload_n 1, 1, 1, 0), some (.ifCond .lt 18, 3, 7, 0), none, none, some (.iload_n 1, 1, 1, 0), some (.bipush 12, 2, 0, 0), none, some (.if_icmp .ge 12, 3, 7, 0), none, none, some (.aload_n 0, 1, 1, 0), some (.getfield 49, 3, 9, 19), none, none, some (.iload_n 1, 1, 1, 0), some (.iaload, 1, 11, 0), some (.goto 4, 3, 7, 0), none, none, some (.iconst (-1), 1, 0, 0), some (.ireturn, 1, 16, 0)]
def tb_M101 : hm_M := (⟨"HandshakeForge$Circuit", "body", "(I)I"⟩, 3, prog_2_method_11_code, 2, (some .int), tb_c101, [])
set_option maxRecDepth 100000 in
theorem tb_d101 : hm_dec tb_M101 0 21 = true := by decide +kernel
set_option maxRecDepth 100000 in
theorem tb_e101 : (hm_Mi tb_M101).length = 21 := by decide +kernel
-- HandshakeForge$Work.askOrTell(III)V
set_option maxRecDepth 100000 in
def tb_c102 : List (Option hm_O) := [some (.iload_n 1, 1, 1, 0), some (.ifCond .lt 12, 3, 7, 0), none, none, some (.aload_n 0, 1, 1, 0), some (.iload_n 1, 1, 1, 0), some (.iload_n 2, 1, 1, 0), some (.invokevirtual 81, 3, 14, 100), none, none, some (.goto 9, 3, 7, 0), none, none, some (.aload_n 0, 1, 1, 0), some (.iload_n 2, 1, 1, 0), some (.iload_n 3, 1, 1, 0), some (.invokevirtual 125, 3, 14, 109), none, none, some (.return_, 1, 16, 0)]
def tb_M102 : hm_M := (⟨"HandshakeForge$Work", "askOrTell", "(III)V"⟩, 10, prog_8_method_18_code, 4, none, tb_c102, [])
set_option maxRecDepth 100000 in
theorem tb_d102 : hm_dec tb_M102 0 20 = true := by decide +kernel
set_option maxRecDepth 100000 in
theorem tb_e102 : (hm_Mi tb_M102).length = 20 := by decide +kernel
-- HandshakeForge$Work.turnToMove(II)V
set_option maxRecDepth 100000 in
def tb_c103 : List (Option hm_O) := [some (.aload_n 0, 1, 1, 0), some (.getfield 62, 3, 9, 65), none, none, some (.getfield 116, 3, 9, 83), none, none, some (.iload_n 1, 1, 1, 0), some (.iaload, 1, 11, 0), some (.istore_n 3, 1, 2, 0), some (.aload_n 0, 1, 1, 0), some (.getfield 62, 3, 9, 65), none, none, some (.getfield 119, 3, 9, 84), none, none, some (.iload_n 1, 1, 1, 0), some (.iaload, 1, 11, 0), some (.istore 4, 2, 2, 0), none, some (.aload_n 0, 1, 1, 0), some (.getfield 62, 3, 9, 65), none, none, some (.getfield 122, 3, 9, 85), none, none, some (.iload_n 1, 1, 1, 0), some (.iaload, 1, 11, 0), some (.istore 5, 2, 2, 0), none, some (.aload_n 0, 1, 1, 0), some (.getfield 62, 3, 9, 65), none, none, some (.getfield 101, 3, 9, 82), none, none, some (.iload_n 1, 1, 1, 0), some (.iaload, 1, 11, 0), some (.istore 6, 2, 2, 0), none, some (.iload 5, 2, 1, 0), none, some (.ifCond .ge 9, 3, 7, 0), none, none, some (.iload_n 2, 1, 1, 0), some (.iconst 1, 1, 0, 0), some (.iadd, 1, 3, 0), some (.goto 4, 3, 7, 0), none, none, some (.iload_n 2, 1, 1, 0), some (.istore 7, 2, 2, 0), none, some (.iload 6, 2, 1, 0), none, some (.sipush 406, 3, 0, 0), none, none, some (.if_icmp .ne 17, 3, 7, 0), none, none, some (.iload_n 2, 1, 1, 0), some (.ifCond .ne 13, 3, 7, 0), none, none, some (.aload_n 0, 1, 1, 0), some (.iload 4, 2, 1, 0), none, some (.iload_n 1, 1, 1, 0), some (.invokevirtual 81, 3, 14, 100), none, none, some (.goto 97, 3, 7, 0), none, none, some (.iload 6, 2, 1, 0), none, some (.sipush 406, 3, 0, 0), none, none, some (.if_icmp .ne 18, 3, 7, 0), none, none, some (.aload_n 0, 1, 1, 0), some (.iload_n 1, 1, 1, 0), some (.iload_n 3, 1, 1, 0), some (.aload_n 0, 1, 1, 0), some (.iload 4, 2, 1, 0), none, some (.invokevirtual 132, 3, 14, 111), none, none, some (.invokevirtual 165, 3, 14, 123), none, none, some (.goto 74, 3, 7, 0), none, none, some (.iload 7, 2, 1, 0), none, some (.ifCond .ne 13, 3, 7, 0), none, none, some (.aload_n 0, 1, 1, 0), some (.iload 5, 2, 1, 0), none, some (.iload_n 1, 1, 1, 0), some (.invokevirtual 81, 3, 14, 100), none, none, some (.goto 59, 3, 7, 0), none, none, some (.iload 6, 2, 1, 0), none, some (.sipush 407, 3, 0, 0), none, none, some (.if_icmp .ne 12, 3, 7, 0), none, none, some (.aload_n 0, 1, 1, 0), some (.iload_n 1, 1, 1, 0), some (.iload_n 3, 1, 1, 0), some (.invokevirtual 168, 3, 14, 124), none, none, some (.goto 42, 3, 7, 0), none, none, some (.iload 7, 2, 1, 0), none, some (.iconst 1, 1, 0, 0), some (.if_icmp .ne 13, 3, 7, 0), none, none, some (.aload_n 0, 1, 1, 0), some (.iload 4, 2, 1, 0), none, some (.iload_n 1, 1, 1, 0), some (.invokevirtual 81, 3, 14, 100), none, none, some (.goto 26, 3, 7, 0), none, none, some (.aload_n 0, 1, 1, 0), some (.iload_n 3, 1, 1, 0), some (.aload_n 0, 1, 1, 0), some (.iload 5, 2, 1, 0), none, some (.invokevirtual 132, 3, 14, 111), none, none, some (.aload_n 0, 1, 1, 0), some (.iload 4, 2, 1, 0), none, some (.invokevirtual 132, 3, 14, 111), none, none, some (.invokevirtual 162, 3, 14, 122), none, none, some (.aload_n 0, 1, 1, 0), some (.iload_n 1, 1, 1, 0), some (.iconst 0, 1, 0, 0), some (.invokevirtual 125, 3, 14, 109), none, none, some (.return_, 1, 16, 0)]
def tb_M103 : hm_M := (⟨"HandshakeForge$Work", "turnToMove", "(II)V"⟩, 10, prog_8_method_12_code, 8, none, tb_c103, [])
set_option maxRecDepth 100000 in
theorem tb_d103_0 : hm_dec tb_M103 0 40 = true := by decide +kernel
set_option maxRecDepth 100000 in
theorem tb_d103_40 : hm_dec tb_M103 40 40 = true := by decide +kernel
set_option maxRecDepth 100000 in
theorem tb_d103_80 : hm_dec tb_M103 80 40 = true := by decide +kernel
set_option maxRecDepth 100000 in
theorem tb_d103_120 : hm_dec tb_M103 120 40 = true := by decide +kernel
set_option maxRecDepth 100000 in
theorem tb_d103_160 : hm_dec tb_M103 160 14 = true := by decide +kernel
set_option maxRecDepth 100000 in
theorem tb_d103 : hm_dec tb_M103 0 174 = true := hm_dec_j (n := 160) (m := 14) (hm_dec_j (n := 120) (m := 40) (hm_dec_j (n := 80) (m := 40) (hm_dec_j (n := 40) (m := 40) (tb_d103_0) tb_d103_40) tb_d103_80) tb_d103_120) tb_d103_160
set_option maxRecDepth 100000 in
theorem tb_e103 : (hm_Mi tb_M103).length = 174 := by decide +kernel
