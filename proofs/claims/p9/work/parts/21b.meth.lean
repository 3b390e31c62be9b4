-- HandshakeForge$Tokens.scanSign(I)I
set_option maxRecDepth 100000 in
def tb_c32 : List (Option hm_O) := [some (.aload_n 0, 1, 1, 0), some (.getfield 32, 3, 9, 49), none, none, some (.aload_n 0, 1, 1, 0), some (.getfield 29, 3, 9, 48), none, none, some (.iconst 1, 1, 0, 0), some (.iadd, 1, 3, 0), some (.invokevirtual 56, 3, 14, 52), none, none, some (.istore_n 2, 1, 2, 0), some (.iload_n 2, 1, 1, 0), some (.iload_n 1, 1, 1, 0), some (.if_icmp .ne 37, 3, 7, 0), none, none, some (.iload_n 1, 1, 1, 0), some (.bipush 38, 2, 0, 0), none, some (.if_icmp .eq 27, 3, 7, 0), none, none, some (.iload_n 1, 1, 1, 0), some (.bipush 124, 2, 0, 0), none, some (.if_icmp .eq 21, 3, 7, 0), none, none, some (.iload_n 1, 1, 1, 0), some (.bipush 61, 2, 0, 0), none, some (.if_icmp .eq 15, 3, 7, 0), none, none, some (.iload_n 1, 1, 1, 0), some (.bipush 60, 2, 0, 0), none, some (.if_icmp .eq 9, 3, 7, 0), none, none, some (.iload_n 1, 1, 1, 0), some (.bipush 62, 2, 0, 0), none, some (.if_icmp .ne 7, 3, 7, 0), none, none, some (.iconst 1, 1, 0, 0), some (.goto 4, 3, 7, 0), none, none, some (.iconst 0, 1, 0, 0), some (.istore_n 3, 1, 2, 0), some (.iload_n 2, 1, 1, 0), some (.bipush 61, 2, 0, 0), none, some (.if_icmp .ne 25, 3, 7, 0), none, none, some (.iload_n 1, 1, 1, 0), some (.bipush 33, 2, 0, 0), none, some (.if_icmp .eq 15, 3, 7, 0), none, none, some (.iload_n 1, 1, 1, 0), some (.bipush 60, 2, 0, 0), none, some (.if_icmp .eq 9, 3, 7, 0), none, none, some (.iload_n 1, 1, 1, 0), some (.bipush 62, 2, 0, 0), none, some (.if_icmp .ne 7, 3, 7, 0), none, none, some (.iconst 1, 1, 0, 0), some (.goto 4, 3, 7, 0), none, none, some (.iconst 0, 1, 0, 0), some (.istore 4, 2, 2, 0), none, some (.iload_n 3, 1, 1, 0), some (.ifCond .ne 8, 3, 7, 0), none, none, some (.iload 4, 2, 1, 0), none, some (.ifCond .eq 20, 3, 7, 0), none, none, some (.aload_n 0, 1, 1, 0), some (.dup, 1, 6, 0), some (.getfield 29, 3, 9, 48), none, none, some (.iconst 2, 1, 0, 0), some (.iadd, 1, 3, 0), some (.putfield 29, 3, 9, 48), none, none, some (.iload_n 1, 1, 1, 0), some (.bipush 8, 2, 0, 0), none, some (.ishl, 1, 3, 0), some (.iload_n 2, 1, 1, 0), some (.ior, 1, 3, 0), some (.ireturn, 1, 16, 0), some (.aload_n 0, 1, 1, 0), some (.dup, 1, 6, 0), some (.getfield 29, 3, 9, 48), none, none, some (.iconst 1, 1, 0, 0), some (.iadd, 1, 3, 0), some (.putfield 29, 3, 9, 48), none, none, some (.iload_n 1, 1, 1, 0), some (.invokestatic 92, 3, 14, 61), none, none, some (.ifCond .eq 7, 3, 7, 0), none, none, some (.iload_n 1, 1, 1, 0), some (.goto 4, 3, 7, 0), none, none, some (.iconst 4, 1, 0, 0), some (.ireturn, 1, 16, 0)]
def tb_M32 : hm_M := (⟨"HandshakeForge$Tokens", "scanSign", "(I)I"⟩, 6, prog_7_method_10_code, 5, (some .int), tb_c32, [])
set_option maxRecDepth 100000 in
theorem tb_d32_0 : hm_dec tb_M32 0 40 = true := by decide +kernel
set_option maxRecDepth 100000 in
theorem tb_d32_40 : hm_dec tb_M32 40 40 = true := by decide +kernel
set_option maxRecDepth 100000 in
theorem tb_d32_80 : hm_dec tb_M32 80 40 = true := by decide +kernel
set_option maxRecDepth 100000 in
theorem tb_d32_120 : hm_dec tb_M32 120 15 = true := by decide +kernel
set_option maxRecDepth 100000 in
theorem tb_d32 : hm_dec tb_M32 0 135 = true := hm_dec_j (n := 120) (m := 15) (hm_dec_j (n := 80) (m := 40) (hm_dec_j (n := 40) (m := 40) (tb_d32_0) tb_d32_40) tb_d32_80) tb_d32_120
set_option maxRecDepth 100000 in
theorem tb_e32 : (hm_Mi tb_M32).length = 135 := by decide +kernel
-- HandshakeForge$Tokens.isSign(I)Z
set_option maxRecDepth 100000 in
def tb_c33 : List (Option hm_O) := [some (.iload_n 0, 1, 1, 0), some (.tableswitch 393 33 126 #[391, 393, 393, 393, 391, 391, 393, 391, 391, 391, 391, 391, 391, 393, 391, 393, 393, 393, 393, 393, 393, 393, 393, 393, 393, 391, 391, 391, 391, 391, 391, 393, 393, 393, 393, 393, 393, 393, 393, 393, 393, 393, 393, 393, 393, 393, 393, 393, 393, 393, 393, 393, 393, 393, 393, 393, 393, 393, 391, 393, 391, 391, 393, 393, 393, 393, 393, 393, 393, 393, 393, 393, 393, 393, 393, 393, 393, 393, 393, 393, 393, 393, 393, 393, 393, 393, 393, 393, 393, 393, 391, 391, 391, 391], 391, 8, 0), none, none, none, none, none, none, none, none, none, none, none, none, none, none, none, none, none, none, none, none, none, none, none, none, none, none, none, none, none, none, none, none, none, none, none, none, none, none, none, none, none, none, none, none, none, none, none, none, none, none, none, none, none, none, none, none, none, none, none, none, none, none, none, none, none, none, none, none, none, none, none, none, none, none, none, none, none, none, none, none, none, none, none, none, none, none, none, none, none, none, none, none, none, none, none, none, none, none, none, none, none, none, none, none, none, none, none, none, none, none, none, none, none, none, none, none, none, none, none, none, none, none, none, none, none, none, none, none, none, none, none, none, none, none, none, none, none, none, none, none, none, none, none, none, none, none, none, none, none, none, none, none, none, none, none, none, none, none, none, none, none, none, none, none, none, none, none, none, none, none, none, none, none, none, none, none, none, none, none, none, none, none, none, none, none, none, none, none, none, none, none, none, none, none, none, none, none, none, none, none, none, none, none, none, none, none, none, none, none, none, none, none, none, none, none, none, none, none, none, none, none, none, none, none, none, none, none, none, none, none, none, none, none, none, none, none, none, none, none, none, none, none, none, none, none, none, none, none, none, none, none, none, none, none, none, none, none, none, none, none, none, none, none, none, none, none, none, none, none, none, none, none, none, none, none, none, none, none, none, none, none, none, none, none, none, none, none, none, none, none, none, none, none, none, none, none, none, none, none, none, none, none, none, none, none, none, none, none, none, none, none, none, none, none, none, none, none, none, none, none, none, none, none, none, none, none, none, none, none, none, none, none, none, none, none, none, none, none, none, none, none, none, none, none, none, none, none, none, none, none, none, none, none, none, none, none, none, none, none, none, none, none, none, none, none, none, none, none, none, none, none, none, none, none, none, none, none, none, none, none, none, none, none, none, none, none, none, none, none, none, some (.iconst 1, 1, 0, 0), some (.ireturn, 1, 16, 0), some (.iconst 0, 1, 0, 0), some (.ireturn, 1, 16, 0)]
def tb_M33 : hm_M := (⟨"HandshakeForge$Tokens", "isSign", "(I)Z"⟩, 6, prog_7_method_11_code, 1, (some .boolean), tb_c33, [])
set_option maxRecDepth 100000 in
theorem tb_d33_0 : hm_dec tb_M33 0 40 = true := by decide +kernel
set_option maxRecDepth 100000 in
theorem tb_d33_40 : hm_dec tb_M33 40 40 = true := by decide +kernel
set_option maxRecDepth 100000 in
theorem tb_d33_80 : hm_dec tb_M33 80 40 = true := by decide +kernel
set_option maxRecDepth 100000 in
theorem tb_d33_120 : hm_dec tb_M33 120 40 = true := by decide +kernel
set_option maxRecDepth 100000 in
theorem tb_d33_160 : hm_dec tb_M33 160 40 = true := by decide +kernel
set_option maxRecDepth 100000 in
theorem tb_d33_200 : hm_dec tb_M33 200 40 = true := by decide +kernel
set_option maxRecDepth 100000 in
theorem tb_d33_240 : hm_dec tb_M33 240 40 = true := by decide +kernel
set_option maxRecDepth 100000 in
theorem tb_d33_280 : hm_dec tb_M33 280 40 = true := by decide +kernel
set_option maxRecDepth 100000 in
theorem tb_d33_320 : hm_dec tb_M33 320 40 = true := by decide +kernel
set_option maxRecDepth 100000 in
theorem tb_d33_360 : hm_dec tb_M33 360 36 = true := by decide +kernel
set_option maxRecDepth 100000 in
theorem tb_d33 : hm_dec tb_M33 0 396 = true := hm_dec_j (n := 360) (m := 36) (hm_dec_j (n := 320) (m := 40) (hm_dec_j (n := 280) (m := 40) (hm_dec_j (n := 240) (m := 40) (hm_dec_j (n := 200) (m := 40) (hm_dec_j (n := 160) (m := 40) (hm_dec_j (n := 120) (m := 40) (hm_dec_j (n := 80) (m := 40) (hm_dec_j (n := 40) (m := 40) (tb_d33_0) tb_d33_40) tb_d33_80) tb_d33_120) tb_d33_160) tb_d33_200) tb_d33_240) tb_d33_280) tb_d33_320) tb_d33_360
set_option maxRecDepth 100000 in
theorem tb_e33 : (hm_Mi tb_M33).length = 396 := by decide +kernel
-- HandshakeForge$Tokens.kind()I
set_option maxRecDepth 100000 in
def tb_c34 : List (Option hm_O) := [some (.aload_n 0, 1, 1, 0), some (.getfield 25, 3, 9, 47), none, none, some (.ifCond .lt 25, 3, 7, 0), none, none, some (.aload_n 0, 1, 1, 0), some (.getfield 25, 3, 9, 47), none, none, some (.sipush 2000, 3, 0, 0), none, none, some (.if_icmp .gt 15, 3, 7, 0), none, none, some (.aload_n 0, 1, 1, 0), some (.getfield 15, 3, 9, 44), none, none, some (.aload_n 0, 1, 1, 0), some (.getfield 25, 3, 9, 47), none, none, some (.iaload, 1, 11, 0), some (.goto 4, 3, 7, 0), none, none, some (.iconst 3, 1, 0, 0), some (.ireturn, 1, 16, 0)]
def tb_M34 : hm_M := (⟨"HandshakeForge$Tokens", "kind", "()I"⟩, 6, prog_7_method_2_code, 1, (some .int), tb_c34, [])
set_option maxRecDepth 100000 in
theorem tb_d34 : hm_dec tb_M34 0 31 = true := by decide +kernel
set_option maxRecDepth 100000 in
theorem tb_e34 : (hm_Mi tb_M34).length = 31 := by decide +kernel
-- HandshakeForge$Tokens.step()V
set_option maxRecDepth 100000 in
def tb_c35 : List (Option hm_O) := [some (.aload_n 0, 1, 1, 0), some (.getfield 25, 3, 9, 47), none, none, some (.ifCond .lt 49, 3, 7, 0), none, none, some (.aload_n 0, 1, 1, 0), some (.getfield 25, 3, 9, 47), none, none, some (.sipush 2000, 3, 0, 0), none, none, some (.if_icmp .ge 39, 3, 7, 0), none, none, some (.aload_n 0, 1, 1, 0), some (.getfield 15, 3, 9, 44), none, none, some (.aload_n 0, 1, 1, 0), some (.getfield 25, 3, 9, 47), none, none, some (.iaload, 1, 11, 0), some (.iconst 3, 1, 0, 0), some (.if_icmp .eq 26, 3, 7, 0), none, none, some (.aload_n 0, 1, 1, 0), some (.getfield 15, 3, 9, 44), none, none, some (.aload_n 0, 1, 1, 0), some (.getfield 25, 3, 9, 47), none, none, some (.iaload, 1, 11, 0), some (.iconst 4, 1, 0, 0), some (.if_icmp .eq 13, 3, 7, 0), none, none, some (.aload_n 0, 1, 1, 0), some (.dup, 1, 6, 0), some (.getfield 25, 3, 9, 47), none, none, some (.iconst 1, 1, 0, 0), some (.iadd, 1, 3, 0), some (.putfield 25, 3, 9, 47), none, none, some (.return_, 1, 16, 0)]
def tb_M35 : hm_M := (⟨"HandshakeForge$Tokens", "step", "()V"⟩, 6, prog_7_method_5_code, 1, none, tb_c35, [])
set_option maxRecDepth 100000 in
theorem tb_d35_0 : hm_dec tb_M35 0 40 = true := by decide +kernel
set_option maxRecDepth 100000 in
theorem tb_d35_40 : hm_dec tb_M35 40 14 = true := by decide +kernel
set_option maxRecDepth 100000 in
theorem tb_d35 : hm_dec tb_M35 0 54 = true := hm_dec_j (n := 40) (m := 14) (tb_d35_0) tb_d35_40
set_option maxRecDepth 100000 in
theorem tb_e35 : (hm_Mi tb_M35).length = 54 := by decide +kernel
-- HandshakeForge$Compiler.routineHead(I)I
set_option maxRecDepth 100000 in
def tb_c36 : List (Option hm_O) := [some (.aload_n 0, 1, 1, 0), some (.iload_n 1, 1, 1, 0), some (.iconst 0, 1, 0, 0), some (.invokevirtual 129, 3, 14, 62), none, none, some (.istore_n 2, 1, 2, 0), some (.aload_n 0, 1, 1, 0), some (.getfield 69, 3, 9, 42), none, none, some (.getfield 92, 3, 9, 72), none, none, some (.getfield 96, 3, 9, 73), none, none, some (.istore_n 3, 1, 2, 0), some (.aload_n 0, 1, 1, 0), some (.getfield 69, 3, 9, 42), none, none, some (.getfield 149, 3, 9, 76), none, none, some (.iconst 0, 1, 0, 0), some (.iaload, 1, 11, 0), some (.istore 4, 2, 2, 0), none, some (.aload_n 0, 1, 1, 0), some (.bipush 40, 2, 0, 0), none, some (.invokevirtual 132, 3, 14, 63), none, none, some (.aload_n 0, 1, 1, 0), some (.getfield 65, 3, 9, 41), none, none, some (.invokevirtual 81, 3, 14, 39), none, none, some (.bipush 41, 2, 0, 0), none, some (.if_icmp .ne 7, 3, 7, 0), none, none, some (.iconst 0, 1, 0, 0), some (.goto 8, 3, 7, 0), none, none, some (.aload_n 0, 1, 1, 0), some (.iload_n 3, 1, 1, 0), some (.invokevirtual 152, 3, 14, 64), none, none, some (.istore 5, 2, 2, 0), none, some (.aload_n 0, 1, 1, 0), some (.bipush 41, 2, 0, 0), none, some (.invokevirtual 132, 3, 14, 63), none, none, some (.aload_n 0, 1, 1, 0), some (.getfield 69, 3, 9, 42), none, none, some (.iload_n 2, 1, 1, 0), some (.iload 4, 2, 1, 0), none, some (.iload 5, 2, 1, 0), none, some (.invokevirtual 153, 3, 14, 65), none, none, some (.aload_n 0, 1, 1, 0), some (.iload_n 2, 1, 1, 0), some (.putfield 48, 3, 9, 37), none, none, some (.aload_n 0, 1, 1, 0), some (.iload_n 1, 1, 1, 0), some (.bipush 6, 2, 0, 0), none, some (.if_icmp .ne 7, 3, 7, 0), none, none, some (.iload_n 3, 1, 1, 0), some (.goto 4, 3, 7, 0), none, none, some (.iconst 0, 1, 0, 0), some (.putfield 51, 3, 9, 38), none, none, some (.aload_n 0, 1, 1, 0), some (.lconst 0, 1, 0, 0), some (.putfield 28, 3, 9, 31), none, none, some (.aload_n 0, 1, 1, 0), some (.lconst 0, 1, 0, 0), some (.putfield 32, 3, 9, 32), none, none, some (.aload_n 0, 1, 1, 0), some (.lconst 0, 1, 0, 0), some (.putfield 35, 3, 9, 33), none, none, some (.iload_n 2, 1, 1, 0), some (.ireturn, 1, 16, 0)]
def tb_M36 : hm_M := (⟨"HandshakeForge$Compiler", "routineHead", "(I)I"⟩, 5, prog_3_method_4_code, 6, (some .int), tb_c36, [])
set_option maxRecDepth 100000 in
theorem tb_d36_0 : hm_dec tb_M36 0 40 = true := by decide +kernel
set_option maxRecDepth 100000 in
theorem tb_d36_40 : hm_dec tb_M36 40 40 = true := by decide +kernel
set_option maxRecDepth 100000 in
theorem tb_d36_80 : hm_dec tb_M36 80 33 = true := by decide +kernel
set_option maxRecDepth 100000 in
theorem tb_d36 : hm_dec tb_M36 0 113 = true := hm_dec_j (n := 80) (m := 33) (hm_dec_j (n := 40) (m := 40) (tb_d36_0) tb_d36_40) tb_d36_80
set_option maxRecDepth 100000 in
theorem tb_e36 : (hm_Mi tb_M36).length = 113 := by decide +kernel
-- HandshakeForge$Compiler.declare(II)I
set_option maxRecDepth 100000 in
def tb_c37 : List (Option hm_O) := [some (.aload_n 0, 1, 1, 0), some (.aload_n 0, 1, 1, 0), some (.getfield 65, 3, 9, 41), none, none, some (.invokevirtual 81, 3, 14, 39), none, none, some (.iconst 1, 1, 0, 0), some (.if_icmp .ne 28, 3, 7, 0), none, none, some (.aload_n 0, 1, 1, 0), some (.getfield 69, 3, 9, 42), none, none, some (.getfield 92, 3, 9, 72), none, none, some (.aload_n 0, 1, 1, 0), some (.getfield 65, 3, 9, 41), none, none, some (.invokevirtual 235, 3, 14, 66), none, none, some (.iload_n 2, 1, 1, 0), some (.invokevirtual 239, 3, 14, 67), none, none, some (.ifCond .ge 7, 3, 7, 0), none, none, some (.iconst 1, 1, 0, 0), some (.goto 4, 3, 7, 0), none, none, some (.iconst 0, 1, 0, 0), some (.aload_n 0, 1, 1, 0), some (.getfield 65, 3, 9, 41), none, none, some (.invokevirtual 122, 3, 14, 47), none, none, some (.invokevirtual 125, 3, 14, 48), none, none, some (.iload_n 1, 1, 1, 0), some (.bipush 6, 2, 0, 0), none, some (.if_icmp .ne 7, 3, 7, 0), none, none, some (.iconst 5, 1, 0, 0), some (.goto 4, 3, 7, 0), none, none, some (.iload_n 1, 1, 1, 0), some (.istore_n 3, 1, 2, 0), some (.aload_n 0, 1, 1, 0), some (.iload_n 3, 1, 1, 0), some (.ifCond .lt 30, 3, 7, 0), none, none, some (.iload_n 3, 1, 1, 0), some (.bipush 6, 2, 0, 0), none, some (.if_icmp .ge 24, 3, 7, 0), none, none, some (.aload_n 0, 1, 1, 0), some (.getfield 69, 3, 9, 42), none, none, some (.getfield 149, 3, 9, 76), none, none, some (.iload_n 3, 1, 1, 0), some (.iaload, 1, 11, 0), some (.getstatic 243, 3, 19, 2), none, none, some (.iload_n 3, 1, 1, 0), some (.iaload, 1, 11, 0), some (.if_icmp .ge 7, 3, 7, 0), none, none, some (.iconst 1, 1, 0, 0), some (.goto 4, 3, 7, 0), none, none, some (.iconst 0, 1, 0, 0), some (.aload_n 0, 1, 1, 0), some (.getfield 65, 3, 9, 41), none, none, some (.invokevirtual 122, 3, 14, 47), none, none, some (.invokevirtual 125, 3, 14, 48), none, none, some (.aload_n 0, 1, 1, 0), some (.getfield 69, 3, 9, 42), none, none, some (.getfield 149, 3, 9, 76), none, none, some (.iload_n 3, 1, 1, 0), some (.iaload, 1, 11, 0), some (.istore 4, 2, 2, 0), none, some (.aload_n 0, 1, 1, 0), some (.getfield 69, 3, 9, 42), none, none, some (.getfield 149, 3, 9, 76), none, none, some (.iload_n 3, 1, 1, 0), some (.dup2, 1, 6, 0), some (.iaload, 1, 11, 0), some (.iconst 1, 1, 0, 0), some (.iadd, 1, 3, 0), some (.iastore, 1, 11, 1), some (.aload_n 0, 1, 1, 0), some (.getfield 69, 3, 9, 42), none, none, some (.getfield 92, 3, 9, 72), none, none, some (.aload_n 0, 1, 1, 0), some (.getfield 65, 3, 9, 41), none, none, some (.invokevirtual 235, 3, 14, 66), none, none, some (.iload_n 1, 1, 1, 0), some (.iload 4, 2, 1, 0), none, some (.invokevirtual 246, 3, 14, 68), none, none, some (.aload_n 0, 1, 1, 0), some (.getfield 65, 3, 9, 41), none, none, some (.invokevirtual 85, 3, 14, 40), none, none, some (.iload 4, 2, 1, 0), none, some (.ireturn, 1, 16, 0)]
def tb_M37 : hm_M := (⟨"HandshakeForge$Compiler", "declare", "(II)I"⟩, 5, prog_3_method_26_code, 5, (some .int), tb_c37, [])
set_option maxRecDepth 100000 in
theorem tb_d37_0 : hm_dec tb_M37 0 40 = true := by decide +kernel
set_option maxRecDepth 100000 in
theorem tb_d37_40 : hm_dec tb_M37 40 40 = true := by decide +kernel
set_option maxRecDepth 100000 in
theorem tb_d37_80 : hm_dec tb_M37 80 40 = true := by decide +kernel
set_option maxRecDepth 100000 in
theorem tb_d37_120 : hm_dec tb_M37 120 37 = true := by decide +kernel
set_option maxRecDepth 100000 in
theorem tb_d37 : hm_dec tb_M37 0 157 = true := hm_dec_j (n := 120) (m := 37) (hm_dec_j (n := 80) (m := 40) (hm_dec_j (n := 40) (m := 40) (tb_d37_0) tb_d37_40) tb_d37_80) tb_d37_120
set_option maxRecDepth 100000 in
theorem tb_e37 : (hm_Mi tb_M37).length = 157 := by decide +kernel
-- HandshakeForge$Tokens.value()J
set_option maxRecDepth 100000 in
def tb_c38 : List (Option hm_O) := [some (.aload_n 0, 1, 1, 0), some (.getfield 25, 3, 9, 47), none, none, some (.ifCond .lt 25, 3, 7, 0), none, none, some (.aload_n 0, 1, 1, 0), some (.getfield 25, 3, 9, 47), none, none, some (.sipush 2000, 3, 0, 0), none, none, some (.if_icmp .gt 15, 3, 7, 0), none, none, some (.aload_n 0, 1, 1, 0), some (.getfield 22, 3, 9, 46), none, none, some (.aload_n 0, 1, 1, 0), some (.getfield 25, 3, 9, 47), none, none, some (.laload, 1, 11, 0), some (.goto 4, 3, 7, 0), none, none, some (.lconst 0, 1, 0, 0), some (.lreturn, 1, 16, 0)]
def tb_M38 : hm_M := (⟨"HandshakeForge$Tokens", "value", "()J"⟩, 6, prog_7_method_4_code, 1, (some .long), tb_c38, [])
set_option maxRecDepth 100000 in
theorem tb_d38 : hm_dec tb_M38 0 31 = true := by decide +kernel
set_option maxRecDepth 100000 in
theorem tb_e38 : (hm_Mi tb_M38).length = 31 := by decide +kernel
-- HandshakeForge$Names.find(JI)I
set_option maxRecDepth 100000 in
def tb_c39 : List (Option hm_O) := [some (.iconst (-1), 1, 0, 0), some (.istore 4, 2, 2, 0), none, some (.iload_n 3, 1, 1, 0), some (.iconst 0, 1, 0, 0), some (.invokestatic 26, 3, 15, 9), none, none, some (.istore 5, 2, 2, 0), none, some (.iload 5, 2, 1, 0), none, some (.aload_n 0, 1, 1, 0), some (.getfield 22, 3, 9, 25), none, none, some (.if_icmp .ge 25, 3, 7, 0), none, none, some (.aload_n 0, 1, 1, 0), some (.getfield 9, 3, 9, 22), none, none, some (.iload 5, 2, 1, 0), none, some (.laload, 1, 11, 0), some (.lload_n 1, 1, 1, 0), some (.lcmp, 1, 6, 0), some (.ifCond .ne 7, 3, 7, 0), none, none, some (.iload 5, 2, 1, 0), none, some (.istore 4, 2, 2, 0), none, some (.iinc 5 1, 3, 6, 0), none, none, some (.goto (-28), 3, 7, 0), none, none, some (.iload 4, 2, 1, 0), none, some (.ireturn, 1, 16, 0)]
def tb_M39 : hm_M := (⟨"HandshakeForge$Names", "find", "(JI)I"⟩, 4, prog_4_method_2_code, 6, (some .int), tb_c39, [])
set_option maxRecDepth 100000 in
theorem tb_d39_0 : hm_dec tb_M39 0 40 = true := by decide +kernel
set_option maxRecDepth 100000 in
theorem tb_d39_40 : hm_dec tb_M39 40 4 = true := by decide +kernel
set_option maxRecDepth 100000 in
theorem tb_d39 : hm_dec tb_M39 0 44 = true := hm_dec_j (n := 40) (m := 4) (tb_d39_0) tb_d39_40
set_option maxRecDepth 100000 in
theorem tb_e39 : (hm_Mi tb_M39).length = 44 := by decide +kernel
-- HandshakeForge$Tokens.place()I
set_option maxRecDepth 100000 in
def tb_c40 : List (Option hm_O) := [some (.aload_n 0, 1, 1, 0), some (.getfield 25, 3, 9, 47), none, none, some (.ifCond .lt 25, 3, 7, 0), none, none, some (.aload_n 0, 1, 1, 0), some (.getfield 25, 3, 9, 47), none, none, some (.sipush 2000, 3, 0, 0), none, none, some (.if_icmp .gt 15, 3, 7, 0), none, none, some (.aload_n 0, 1, 1, 0), some (.getfield 19, 3, 9, 45), none, none, some (.aload_n 0, 1, 1, 0), some (.getfield 25, 3, 9, 47), none, none, some (.iaload, 1, 11, 0), some (.goto 4, 3, 7, 0), none, none, some (.iconst 0, 1, 0, 0), some (.ireturn, 1, 16, 0)]
def tb_M40 : hm_M := (⟨"HandshakeForge$Tokens", "place", "()I"⟩, 6, prog_7_method_3_code, 1, (some .int), tb_c40, [])
set_option maxRecDepth 100000 in
theorem tb_d40 : hm_dec tb_M40 0 31 = true := by decide +kernel
set_option maxRecDepth 100000 in
theorem tb_e40 : (hm_Mi tb_M40).length = 31 := by decide +kernel
-- HandshakeForge$Compiler.check(ZI)V
set_option maxRecDepth 100000 in
def tb_c41 : List (Option hm_O) := [some (.iload_n 1, 1, 1, 0), some (.ifCond .ne 16, 3, 7, 0), none, none, some (.aload_n 0, 1, 1, 0), some (.iload_n 2, 1, 1, 0), some (.putfield 9, 3, 9, 26), none, none, some (.new 249, 3, 17, 0), none, none, some (.dup, 1, 6, 0), some (.invokespecial 251, 3, 99, 0), none, none, some (.athrow, 1, 99, 0), some (.return_, 1, 16, 0)]
def tb_M41 : hm_M := (⟨"HandshakeForge$Compiler", "check", "(ZI)V"⟩, 5, prog_3_method_29_code, 3, none, tb_c41, [])
set_option maxRecDepth 100000 in
theorem tb_d41 : hm_dec tb_M41 0 18 = true := by decide +kernel
set_option maxRecDepth 100000 in
theorem tb_e41 : (hm_Mi tb_M41).length = 18 := by decide +kernel
-- HandshakeForge$Names.add(JII)V
set_option maxRecDepth 100000 in
def tb_c42 : List (Option hm_O) := [some (.aload_n 0, 1, 1, 0), some (.getfield 22, 3, 9, 25), none, none, some (.bipush 58, 2, 0, 0), none, some (.if_icmp .ge 44, 3, 7, 0), none, none, some (.aload_n 0, 1, 1, 0), some (.getfield 9, 3, 9, 22), none, none, some (.aload_n 0, 1, 1, 0), some (.getfield 22, 3, 9, 25), none, none, some (.lload_n 1, 1, 1, 0), some (.lastore, 1, 11, 1), some (.aload_n 0, 1, 1, 0), some (.getfield 15, 3, 9, 23), none, none, some (.aload_n 0, 1, 1, 0), some (.getfield 22, 3, 9, 25), none, none, some (.iload_n 3, 1, 1, 0), some (.iastore, 1, 11, 1), some (.aload_n 0, 1, 1, 0), some (.getfield 19, 3, 9, 24), none, none, some (.aload_n 0, 1, 1, 0), some (.getfield 22, 3, 9, 25), none, none, some (.iload 4, 2, 1, 0), none, some (.iastore, 1, 11, 1), some (.aload_n 0, 1, 1, 0), some (.dup, 1, 6, 0), some (.getfield 22, 3, 9, 25), none, none, some (.iconst 1, 1, 0, 0), some (.iadd, 1, 3, 0), some (.putfield 22, 3, 9, 25), none, none, some (.return_, 1, 16, 0)]
def tb_M42 : hm_M := (⟨"HandshakeForge$Names", "add", "(JII)V"⟩, 4, prog_4_method_3_code, 5, none, tb_c42, [])
set_option maxRecDepth 100000 in
theorem tb_d42_0 : hm_dec tb_M42 0 40 = true := by decide +kernel
set_option maxRecDepth 100000 in
theorem tb_d42_40 : hm_dec tb_M42 40 11 = true := by decide +kernel
set_option maxRecDepth 100000 in
theorem tb_d42 : hm_dec tb_M42 0 51 = true := hm_dec_j (n := 40) (m := 11) (tb_d42_0) tb_d42_40
set_option maxRecDepth 100000 in
theorem tb_e42 : (hm_Mi tb_M42).length = 51 := by decide +kernel
-- HandshakeForge$Compiler.expect(I)V
set_option maxRecDepth 100000 in
def tb_c43 : List (Option hm_O) := [some (.aload_n 0, 1, 1, 0), some (.aload_n 0, 1, 1, 0), some (.getfield 65, 3, 9, 41), none, none, some (.invokevirtual 81, 3, 14, 39), none, none, some (.iload_n 1, 1, 1, 0), some (.if_icmp .ne 7, 3, 7, 0), none, none, some (.iconst 1, 1, 0, 0), some (.goto 4, 3, 7, 0), none, none, some (.iconst 0, 1, 0, 0), some (.aload_n 0, 1, 1, 0), some (.getfield 65, 3, 9, 41), none, none, some (.invokevirtual 122, 3, 14, 47), none, none, some (.invokevirtual 125, 3, 14, 48), none, none, some (.aload_n 0, 1, 1, 0), some (.getfield 65, 3, 9, 41), none, none, some (.invokevirtual 85, 3, 14, 40), none, none, some (.return_, 1, 16, 0)]
def tb_M43 : hm_M := (⟨"HandshakeForge$Compiler", "expect", "(I)V"⟩, 5, prog_3_method_28_code, 2, none, tb_c43, [])
set_option maxRecDepth 100000 in
theorem tb_d43 : hm_dec tb_M43 0 35 = true := by decide +kernel
set_option maxRecDepth 100000 in
theorem tb_e43 : (hm_Mi tb_M43).length = 35 := by decide +kernel
-- HandshakeForge$Compiler.parameters(I)I
set_option maxRecDepth 100000 in
def tb_c44 : List (Option hm_O) := [some (.aload_n 0, 1, 1, 0), some (.iload_n 1, 1, 1, 0), some (.invokevirtual 157, 3, 14, 69), none, none, some (.iconst 1, 1, 0, 0), some (.istore_n 2, 1, 2, 0), some (.iload_n 2, 1, 1, 0), some (.sipush 2000, 3, 0, 0), none, none, some (.if_icmp .ge 54, 3, 7, 0), none, none, some (.aload_n 0, 1, 1, 0), some (.getfield 65, 3, 9, 41), none, none, some (.invokevirtual 81, 3, 14, 39), none, none, some (.bipush 44, 2, 0, 0), none, some (.if_icmp .ne 42, 3, 7, 0), none, none, some (.aload_n 0, 1, 1, 0), some (.getfield 65, 3, 9, 41), none, none, some (.invokevirtual 85, 3, 14, 40), none, none, some (.aload_n 0, 1, 1, 0), some (.iload_n 2, 1, 1, 0), some (.iconst 4, 1, 0, 0), some (.if_icmp .ge 7, 3, 7, 0), none, none, some (.iconst 1, 1, 0, 0), some (.goto 4, 3, 7, 0), none, none, some (.iconst 0, 1, 0, 0), some (.aload_n 0, 1, 1, 0), some (.getfield 65, 3, 9, 41), none, none, some (.invokevirtual 122, 3, 14, 47), none, none, some (.invokevirtual 125, 3, 14, 48), none, none, some (.aload_n 0, 1, 1, 0), some (.iload_n 1, 1, 1, 0), some (.invokevirtual 157, 3, 14, 69), none, none, some (.iinc 2 1, 3, 6, 0), none, none, some (.goto (-55), 3, 7, 0), none, none, some (.iload_n 2, 1, 1, 0), some (.ireturn, 1, 16, 0)]
def tb_M44 : hm_M := (⟨"HandshakeForge$Compiler", "parameters", "(I)I"⟩, 5, prog_3_method_5_code, 3, (some .int), tb_c44, [])
set_option maxRecDepth 100000 in
theorem tb_d44_0 : hm_dec tb_M44 0 40 = true := by decide +kernel
set_option maxRecDepth 100000 in
theorem tb_d44_40 : hm_dec tb_M44 40 27 = true := by decide +kernel
set_option maxRecDepth 100000 in
theorem tb_d44 : hm_dec tb_M44 0 67 = true := hm_dec_j (n := 40) (m := 27) (tb_d44_0) tb_d44_40
set_option maxRecDepth 100000 in
theorem tb_e44 : (hm_Mi tb_M44).length = 67 := by decide +kernel
-- HandshakeForge$Compiler.declareInt(I)V
set_option maxRecDepth 100000 in
def tb_c45 : List (Option hm_O) := [some (.aload_n 0, 1, 1, 0), some (.getfield 69, 3, 9, 42), none, none, some (.aload_n 0, 1, 1, 0), some (.iconst 0, 1, 0, 0), some (.iload_n 1, 1, 1, 0), some (.invokevirtual 129, 3, 14, 62), none, none, some (.iconst 0, 1, 0, 0), some (.invokevirtual 138, 3, 14, 70), none, none, some (.return_, 1, 16, 0)]
def tb_M45 : hm_M := (⟨"HandshakeForge$Compiler", "declareInt", "(I)V"⟩, 5, prog_3_method_25_code, 2, none, tb_c45, [])
set_option maxRecDepth 100000 in
theorem tb_d45 : hm_dec tb_M45 0 15 = true := by decide +kernel
set_option maxRecDepth 100000 in
theorem tb_e45 : (hm_Mi tb_M45).length = 15 := by decide +kernel
-- HandshakeForge$Circuit.setBits(II)V
set_option maxRecDepth 100000 in
def tb_c46 : List (Option hm_O) := [some (.iload_n 1, 1, 1, 0), some (.ifCond .lt 16, 3, 7, 0), none, none, some (.iload_n 1, 1, 1, 0), some (.bipush 24, 2, 0, 0), none, some (.if_icmp .ge 10, 3, 7, 0), none, none, some (.aload_n 0, 1, 1, 0), some (.getfield 37, 3, 9, 15), none, none, some (.iload_n 1, 1, 1, 0), some (.iload_n 2, 1, 1, 0), some (.iastore, 1, 11, 1), some (.return_, 1, 16, 0)]
def tb_M46 : hm_M := (⟨"HandshakeForge$Circuit", "setBits", "(II)V"⟩, 3, prog_2_method_6_code, 3, none, tb_c46, [])
set_option maxRecDepth 100000 in
theorem tb_d46 : hm_dec tb_M46 0 18 = true := by decide +kernel
set_option maxRecDepth 100000 in
theorem tb_e46 : (hm_Mi tb_M46).length = 18 := by decide +kernel
-- HandshakeForge$Circuit.setParameters(III)V
set_option maxRecDepth 100000 in
def tb_c47 : List (Option hm_O) := [some (.iload_n 1, 1, 1, 0), some (.ifCond .lt 23, 3, 7, 0), none, none, some (.iload_n 1, 1, 1, 0), some (.bipush 12, 2, 0, 0), none, some (.if_icmp .ge 17, 3, 7, 0), none, none, some (.aload_n 0, 1, 1, 0), some (.getfield 46, 3, 9, 18), none, none, some (.iload_n 1, 1, 1, 0), some (.iload_n 2, 1, 1, 0), some (.iastore, 1, 11, 1), some (.aload_n 0, 1, 1, 0), some (.getfield 43, 3, 9, 17), none, none, some (.iload_n 1, 1, 1, 0), some (.iload_n 3, 1, 1, 0), some (.iastore, 1, 11, 1), some (.return_, 1, 16, 0)]
def tb_M47 : hm_M := (⟨"HandshakeForge$Circuit", "setParameters", "(III)V"⟩, 3, prog_2_method_8_code, 4, none, tb_c47, [])
set_option maxRecDepth 100000 in
theorem tb_d47 : hm_dec tb_M47 0 25 = true := by decide +kernel
set_option maxRecDepth 100000 in
theorem tb_e47 : (hm_Mi tb_M47).length = 25 := by decide +kernel
-- HandshakeForge$Circuit.parameters(I)I
set_option maxRecDepth 100000 in
def tb_c48 : List (Option hm_O) := [some (.iload_n 1, 1, 1, 0), some (.ifCond .lt 18, 3, 7, 0), none, none, some (.iload_n 1, 1, 1, 0), some (.bipush 12, 2, 0, 0), none, some (.if_icmp .ge 12, 3, 7, 0), none, none, some (.aload_n 0, 1, 1, 0), some (.getfield 43, 3, 9, 17), none, none, some (.iload_n 1, 1, 1, 0), some (.iaload, 1, 11, 0), some (.goto 4, 3, 7, 0), none, none, some (.iconst 0, 1, 0, 0), some (.ireturn, 1, 16, 0)]
def tb_M48 : hm_M := (⟨"HandshakeForge$Circuit", "parameters", "(I)I"⟩, 3, prog_2_method_9_code, 2, (some .int), tb_c48, [])
set_option maxRecDepth 100000 in
theorem tb_d48 : hm_dec tb_M48 0 21 = true := by decide +kernel
set_option maxRecDepth 100000 in
theorem tb_e48 : (hm_Mi tb_M48).length = 21 := by decide +kernel
-- HandshakeForge$Compiler.funBody(I)I
set_option maxRecDepth 100000 in
def tb_c49 : List (Option hm_O) := [some (.aload_n 0, 1, 1, 0), some (.bipush 123, 2, 0, 0), none, some (.invokevirtual 132, 3, 14, 63), none, none, some (.aload_n 0, 1, 1, 0), some (.iload_n 1, 1, 1, 0), some (.invokevirtual 168, 3, 14, 71), none, none, some (.aload_n 0, 1, 1, 0), some (.sipush 313, 3, 0, 0), none, none, some (.iconst 0, 1, 0, 0), some (.invokevirtual 171, 3, 14, 72), none, none, some (.istore_n 2, 1, 2, 0), some (.aload_n 0, 1, 1, 0), some (.getfield 54, 3, 9, 39), none, none, some (.istore_n 3, 1, 2, 0), some (.aload_n 0, 1, 1, 0), some (.sipush 313, 3, 0, 0), none, none, some (.invokevirtual 132, 3, 14, 63), none, none, some (.aload_n 0, 1, 1, 0), some (.iconst 0, 1, 0, 0), some (.invokevirtual 174, 3, 14, 73), none, none, some (.istore 4, 2, 2, 0), none, some (.aload_n 0, 1, 1, 0), some (.getfield 69, 3, 9, 42), none, none, some (.iload_n 3, 1, 1, 0), some (.iload 4, 2, 1, 0), none, some (.invokevirtual 177, 3, 14, 74), none, none, some (.aload_n 0, 1, 1, 0), some (.bipush 59, 2, 0, 0), none, some (.invokevirtual 132, 3, 14, 63), none, none, some (.aload_n 0, 1, 1, 0), some (.bipush 125, 2, 0, 0), none, some (.invokevirtual 132, 3, 14, 63), none, none, some (.aload_n 0, 1, 1, 0), some (.getfield 69, 3, 9, 42), none, none, some (.getfield 92, 3, 9, 72), none, none, some (.iload_n 1, 1, 1, 0), some (.invokevirtual 180, 3, 14, 75), none, none, some (.iload_n 2, 1, 1, 0), some (.ifCond .ge 8, 3, 7, 0), none, none, some (.iload 4, 2, 1, 0), none, some (.goto 4, 3, 7, 0), none, none, some (.iload_n 2, 1, 1, 0), some (.ireturn, 1, 16, 0)]
def tb_M49 : hm_M := (⟨"HandshakeForge$Compiler", "funBody", "(I)I"⟩, 5, prog_3_method_7_code, 5, (some .int), tb_c49, [])
set_option maxRecDepth 100000 in
theorem tb_d49_0 : hm_dec tb_M49 0 40 = true := by decide +kernel
set_option maxRecDepth 100000 in
theorem tb_d49_40 : hm_dec tb_M49 40 40 = true := by decide +kernel
set_option maxRecDepth 100000 in
theorem tb_d49_80 : hm_dec tb_M49 80 3 = true := by decide +kernel
set_option maxRecDepth 100000 in
theorem tb_d49 : hm_dec tb_M49 0 83 = true := hm_dec_j (n := 80) (m := 3) (hm_dec_j (n := 40) (m := 40) (tb_d49_0) tb_d49_40) tb_d49_80
set_option maxRecDepth 100000 in
theorem tb_e49 : (hm_Mi tb_M49).length = 83 := by decide +kernel
-- HandshakeForge$Compiler.ints(I)V
set_option maxRecDepth 100000 in
def tb_c50 : List (Option hm_O) := [some (.iconst 0, 1, 0, 0), some (.istore_n 2, 1, 2, 0), some (.iload_n 2, 1, 1, 0), some (.sipush 2000, 3, 0, 0), none, none, some (.if_icmp .ge 40, 3, 7, 0), none, none, some (.aload_n 0, 1, 1, 0), some (.getfield 65, 3, 9, 41), none, none, some (.invokevirtual 81, 3, 14, 39), none, none, some (.sipush 301, 3, 0, 0), none, none, some (.if_icmp .ne 27, 3, 7, 0), none, none, some (.aload_n 0, 1, 1, 0), some (.getfield 65, 3, 9, 41), none, none, some (.invokevirtual 85, 3, 14, 40), none, none, some (.aload_n 0, 1, 1, 0), some (.iload_n 1, 1, 1, 0), some (.invokevirtual 157, 3, 14, 69), none, none, some (.aload_n 0, 1, 1, 0), some (.bipush 59, 2, 0, 0), none, some (.invokevirtual 132, 3, 14, 63), none, none, some (.iinc 2 1, 3, 6, 0), none, none, some (.goto (-41), 3, 7, 0), none, none, some (.return_, 1, 16, 0)]
def tb_M50 : hm_M := (⟨"HandshakeForge$Compiler", "ints", "(I)V"⟩, 5, prog_3_method_9_code, 3, none, tb_c50, [])
set_option maxRecDepth 100000 in
theorem tb_d50_0 : hm_dec tb_M50 0 40 = true := by decide +kernel
set_option maxRecDepth 100000 in
theorem tb_d50_40 : hm_dec tb_M50 40 7 = true := by decide +kernel
set_option maxRecDepth 100000 in
theorem tb_d50 : hm_dec tb_M50 0 47 = true := hm_dec_j (n := 40) (m := 7) (tb_d50_0) tb_d50_40
set_option maxRecDepth 100000 in
theorem tb_e50 : (hm_Mi tb_M50).length = 47 := by decide +kernel
-- HandshakeForge$Compiler.row(II)I
set_option maxRecDepth 100000 in
def tb_c51 : List (Option hm_O) := [some (.iconst (-1), 1, 0, 0), some (.istore_n 3, 1, 2, 0), some (.iconst (-1), 1, 0, 0), some (.istore 4, 2, 2, 0), none, some (.iconst 0, 1, 0, 0), some (.istore 5, 2, 2, 0), none, some (.iload 5, 2, 1, 0), none, some (.sipush 2000, 3, 0, 0), none, none, some (.if_icmp .ge 56, 3, 7, 0), none, none, some (.aload_n 0, 1, 1, 0), some (.getfield 65, 3, 9, 41), none, none, some (.invokevirtual 81, 3, 14, 39), none, none, some (.iload_n 1, 1, 1, 0), some (.if_icmp .eq 45, 3, 7, 0), none, none, some (.aload_n 0, 1, 1, 0), some (.iload_n 2, 1, 1, 0), some (.iconst 1, 1, 0, 0), some (.iadd, 1, 3, 0), some (.invokevirtual 187, 3, 14, 76), none, none, some (.istore 6, 2, 2, 0), none, some (.aload_n 0, 1, 1, 0), some (.getfield 69, 3, 9, 42), none, none, some (.iload 4, 2, 1, 0), none, some (.iload 6, 2, 1, 0), none, some (.invokevirtual 177, 3, 14, 74), none, none, some (.iload 5, 2, 1, 0), none, some (.ifCond .ne 8, 3, 7, 0), none, none, some (.iload 6, 2, 1, 0), none, some (.goto 4, 3, 7, 0), none, none, some (.iload_n 3, 1, 1, 0), some (.istore_n 3, 1, 2, 0), some (.iload 6, 2, 1, 0), none, some (.istore 4, 2, 2, 0), none, some (.iinc 5 1, 3, 6, 0), none, none, some (.goto (-58), 3, 7, 0), none, none, some (.aload_n 0, 1, 1, 0), some (.iload 4, 2, 1, 0), none, some (.putfield 54, 3, 9, 39), none, none, some (.aload_n 0, 1, 1, 0), some (.iload 5, 2, 1, 0), none, some (.putfield 57, 3, 9, 40), none, none, some (.iload_n 3, 1, 1, 0), some (.ireturn, 1, 16, 0)]
def tb_M51 : hm_M := (⟨"HandshakeForge$Compiler", "row", "(II)I"⟩, 5, prog_3_method_10_code, 7, (some .int), tb_c51, [])
set_option maxRecDepth 100000 in
theorem tb_d51_0 : hm_dec tb_M51 0 40 = true := by decide +kernel
set_option maxRecDepth 100000 in
theorem tb_d51_40 : hm_dec tb_M51 40 40 = true := by decide +kernel
set_option maxRecDepth 100000 in
theorem tb_d51_80 : hm_dec tb_M51 80 3 = true := by decide +kernel
set_option maxRecDepth 100000 in
theorem tb_d51 : hm_dec tb_M51 0 83 = true := hm_dec_j (n := 80) (m := 3) (hm_dec_j (n := 40) (m := 40) (tb_d51_0) tb_d51_40) tb_d51_80
set_option maxRecDepth 100000 in
theorem tb_e51 : (hm_Mi tb_M51).length = 83 := by decide +kernel
-- HandshakeForge$Compiler.statement(I)I
set_option maxRecDepth 100000 in
def tb_c52 : List (Option hm_O) := [some (.aload_n 0, 1, 1, 0), some (.iload_n 1, 1, 1, 0), some (.bipush 20, 2, 0, 0), none, some (.if_icmp .gt 7, 3, 7, 0), none, none, some (.iconst 1, 1, 0, 0), some (.goto 4, 3, 7, 0), none, none, some (.iconst 0, 1, 0, 0), some (.aload_n 0, 1, 1, 0), some (.getfield 65, 3, 9, 41), none, none, some (.invokevirtual 122, 3, 14, 47), none, none, some (.invokevirtual 125, 3, 14, 48), none, none, some (.aload_n 0, 1, 1, 0), some (.getfield 65, 3, 9, 41), none, none, some (.invokevirtual 81, 3, 14, 39), none, none, some (.lookupswitch 175 #[(123, 59), (308, 102), (310, 108), (311, 134), (312, 169), (314, 75)], 59, 8, 0), none, none, none, none, none, none, none, none, none, none, none, none, none, none, none, none, none, none, none, none, none, none, none, none, none, none, none, none, none, none, none, none, none, none, none, none, none, none, none, none, none, none, none, none, none, none, none, none, none, none, none, none, none, none, none, none, none, none, some (.aload_n 0, 1, 1, 0), some (.iload_n 1, 1, 1, 0), some (.aload_n 0, 1, 1, 0), some (.getfield 69, 3, 9, 42), none, none, some (.getfield 92, 3, 9, 72), none, none, some (.getfield 96, 3, 9, 73), none, none, some (.invokevirtual 107, 3, 14, 44), none, none, some (.ireturn, 1, 16, 0), some (.aload_n 0, 1, 1, 0), some (.getfield 65, 3, 9, 41), none, none, some (.invokevirtual 85, 3, 14, 40), none, none, some (.aload_n 0, 1, 1, 0), some (.bipush 59, 2, 0, 0), none, some (.invokevirtual 132, 3, 14, 63), none, none, some (.aload_n 0, 1, 1, 0), some (.getfield 69, 3, 9, 42), none, none, some (.sipush 314, 3, 0, 0), none, none, some (.iconst (-1), 1, 0, 0), some (.iconst (-1), 1, 0, 0), some (.iconst (-1), 1, 0, 0), some (.invokevirtual 183, 3, 14, 77), none, none, some (.ireturn, 1, 16, 0), some (.aload_n 0, 1, 1, 0), some (.iload_n 1, 1, 1, 0), some (.invokevirtual 190, 3, 14, 78), none, none, some (.ireturn, 1, 16, 0), some (.aload_n 0, 1, 1, 0), some (.iload_n 1, 1, 1, 0), some (.invokevirtual 193, 3, 14, 79), none, none, some (.istore_n 2, 1, 2, 0), some (.aload_n 0, 1, 1, 0), some (.getfield 69, 3, 9, 42), none, none, some (.sipush 310, 3, 0, 0), none, none, some (.iload_n 2, 1, 1, 0), some (.aload_n 0, 1, 1, 0), some (.iload_n 1, 1, 1, 0), some (.iconst 1, 1, 0, 0), some (.iadd, 1, 3, 0), some (.invokevirtual 187, 3, 14, 76), none, none, some (.iconst (-1), 1, 0, 0), some (.invokevirtual 183, 3, 14, 77), none, none, some (.ireturn, 1, 16, 0), some (.aload_n 0, 1, 1, 0), some (.getfield 65, 3, 9, 41), none, none, some (.invokevirtual 85, 3, 14, 40), none, none, some (.aload_n 0, 1, 1, 0), some (.iconst 0, 1, 0, 0), some (.ldc 196, 2, 13, 4), none, some (.invokevirtual 135, 3, 14, 80), none, none, some (.istore_n 3, 1, 2, 0), some (.aload_n 0, 1, 1, 0), some (.getfield 69, 3, 9, 42), none, none, some (.sipush 311, 3, 0, 0), none, none, some (.iload_n 3, 1, 1, 0), some (.aload_n 0, 1, 1, 0), some (.iload_n 1, 1, 1, 0), some (.iconst 1, 1, 0, 0), some (.iadd, 1, 3, 0), some (.invokevirtual 187, 3, 14, 76), none, none, some (.iconst (-1), 1, 0, 0), some (.invokevirtual 183, 3, 14, 77), none, none, some (.ireturn, 1, 16, 0), some (.aload_n 0, 1, 1, 0), some (.iload_n 1, 1, 1, 0), some (.invokevirtual 197, 3, 14, 81), none, none, some (.ireturn, 1, 16, 0), some (.aload_n 0, 1, 1, 0), some (.iload_n 1, 1, 1, 0), some (.invokevirtual 200, 3, 14, 82), none, none, some (.ireturn, 1, 16, 0)]
def tb_M52 : hm_M := (⟨"HandshakeForge$Compiler", "statement", "(I)I"⟩, 5, prog_3_method_11_code, 4, (some .int), tb_c52, [])
set_option maxRecDepth 100000 in
theorem tb_d52_0 : hm_dec tb_M52 0 40 = true := by decide +kernel
set_option maxRecDepth 100000 in
theorem tb_d52_40 : hm_dec tb_M52 40 40 = true := by decide +kernel
set_option maxRecDepth 100000 in
theorem tb_d52_80 : hm_dec tb_M52 80 40 = true := by decide +kernel
set_option maxRecDepth 100000 in
theorem tb_d52_120 : hm_dec tb_M52 120 40 = true := by decide +kernel
set_option maxRecDepth 100000 in
theorem tb_d52_160 : hm_dec tb_M52 160 40 = true := by decide +kernel
set_option maxRecDepth 100000 in
theorem tb_d52_200 : hm_dec tb_M52 200 10 = true := by decide +kernel
set_option maxRecDepth 100000 in
theorem tb_d52 : hm_dec tb_M52 0 210 = true := hm_dec_j (n := 200) (m := 10) (hm_dec_j (n := 160) (m := 40) (hm_dec_j (n := 120) (m := 40) (hm_dec_j (n := 80) (m := 40) (hm_dec_j (n := 40) (m := 40) (tb_d52_0) tb_d52_40) tb_d52_80) tb_d52_120) tb_d52_160) tb_d52_200
set_option maxRecDepth 100000 in
theorem tb_e52 : (hm_Mi tb_M52).length = 210 := by decide +kernel
-- HandshakeForge$Compiler.block(II)I
set_option maxRecDepth 100000 in
def tb_c53 : List (Option hm_O) := [some (.aload_n 0, 1, 1, 0), some (.bipush 123, 2, 0, 0), none, some (.invokevirtual 132, 3, 14, 63), none, none, some (.aload_n 0, 1, 1, 0), some (.iload_n 2, 1, 1, 0), some (.invokevirtual 168, 3, 14, 71), none, none, some (.aload_n 0, 1, 1, 0), some (.bipush 125, 2, 0, 0), none, some (.iload_n 1, 1, 1, 0), some (.invokevirtual 171, 3, 14, 72), none, none, some (.istore_n 3, 1, 2, 0), some (.aload_n 0, 1, 1, 0), some (.getfield 57, 3, 9, 40), none, none, some (.istore 4, 2, 2, 0), none, some (.aload_n 0, 1, 1, 0), some (.bipush 125, 2, 0, 0), none, some (.invokevirtual 132, 3, 14, 63), none, none, some (.aload_n 0, 1, 1, 0), some (.getfield 69, 3, 9, 42), none, none, some (.getfield 92, 3, 9, 72), none, none, some (.iload_n 2, 1, 1, 0), some (.invokevirtual 180, 3, 14, 75), none, none, some (.iload 4, 2, 1, 0), none, some (.iconst 1, 1, 0, 0), some (.if_icmp .ne 5, 3, 7, 0), none, none, some (.iload_n 3, 1, 1, 0), some (.ireturn, 1, 16, 0), some (.aload_n 0, 1, 1, 0), some (.getfield 69, 3, 9, 42), none, none, some (.iload 4, 2, 1, 0), none, some (.ifCond .ne 9, 3, 7, 0), none, none, some (.sipush 314, 3, 0, 0), none, none, some (.goto 6, 3, 7, 0), none, none, some (.sipush 408, 3, 0, 0), none, none, some (.iload_n 3, 1, 1, 0), some (.iconst (-1), 1, 0, 0), some (.iconst (-1), 1, 0, 0), some (.invokevirtual 183, 3, 14, 77), none, none, some (.ireturn, 1, 16, 0)]
def tb_M53 : hm_M := (⟨"HandshakeForge$Compiler", "block", "(II)I"⟩, 5, prog_3_method_8_code, 5, (some .int), tb_c53, [])
set_option maxRecDepth 100000 in
theorem tb_d53_0 : hm_dec tb_M53 0 40 = true := by decide +kernel
set_option maxRecDepth 100000 in
theorem tb_d53_40 : hm_dec tb_M53 40 35 = true := by decide +kernel
set_option maxRecDepth 100000 in
theorem tb_d53 : hm_dec tb_M53 0 75 = true := hm_dec_j (n := 40) (m := 35) (tb_d53_0) tb_d53_40
set_option maxRecDepth 100000 in
theorem tb_e53 : (hm_Mi tb_M53).length = 75 := by decide +kernel
-- HandshakeForge$Circuit.add(IIII)I
set_option maxRecDepth 100000 in
def tb_c54 : List (Option hm_O) := [some (.aload_n 0, 1, 1, 0), some (.getfield 52, 3, 9, 20), none, none, some (.sipush 2000, 3, 0, 0), none, none, some (.if_icmp .lt 5, 3, 7, 0), none, none, some (.iconst (-1), 1, 0, 0), some (.ireturn, 1, 16, 0), some (.aload_n 0, 1, 1, 0), some (.getfield 9, 3, 9, 8), none, none, some (.aload_n 0, 1, 1, 0), some (.getfield 52, 3, 9, 20), none, none, some (.iload_n 1, 1, 1, 0), some (.iastore, 1, 11, 1), some (.aload_n 0, 1, 1, 0), some (.getfield 15, 3, 9, 9), none, none, some (.aload_n 0, 1, 1, 0), some (.getfield 52, 3, 9, 20), none, none, some (.iload_n 2, 1, 1, 0), some (.iastore, 1, 11, 1), some (.aload_n 0, 1, 1, 0), some (.getfield 18, 3, 9, 10), none, none, some (.aload_n 0, 1, 1, 0), some (.getfield 52, 3, 9, 20), none, none, some (.iload_n 3, 1, 1, 0), some (.iastore, 1, 11, 1), some (.aload_n 0, 1, 1, 0), some (.getfield 21, 3, 9, 11), none, none, some (.aload_n 0, 1, 1, 0), some (.getfield 52, 3, 9, 20), none, none, some (.iload 4, 2, 1, 0), none, some (.iastore, 1, 11, 1), some (.aload_n 0, 1, 1, 0), some (.getfield 24, 3, 9, 12), none, none, some (.aload_n 0, 1, 1, 0), some (.getfield 52, 3, 9, 20), none, none, some (.iconst (-1), 1, 0, 0), some (.iastore, 1, 11, 1), some (.aload_n 0, 1, 1, 0), some (.dup, 1, 6, 0), some (.getfield 52, 3, 9, 20), none, none, some (.iconst 1, 1, 0, 0), some (.iadd, 1, 3, 0), some (.putfield 52, 3, 9, 20), none, none, some (.aload_n 0, 1, 1, 0), some (.getfield 52, 3, 9, 20), none, none, some (.iconst 1, 1, 0, 0), some (.isub, 1, 3, 0), some (.ireturn, 1, 16, 0)]
def tb_M54 : hm_M := (⟨"HandshakeForge$Circuit", "add", "(IIII)I"⟩, 3, prog_2_method_3_code, 5, (some .int), tb_c54, [])
set_option maxRecDepth 100000 in
theorem tb_d54_0 : hm_dec tb_M54 0 40 = true := by decide +kernel
set_option maxRecDepth 100000 in
theorem tb_d54_40 : hm_dec tb_M54 40 40 = true := by decide +kernel
set_option maxRecDepth 100000 in
theorem tb_d54 : hm_dec tb_M54 0 80 = true := hm_dec_j (n := 40) (m := 40) (tb_d54_0) tb_d54_40
set_option maxRecDepth 100000 in
theorem tb_e54 : (hm_Mi tb_M54).length = 80 := by decide +kernel
-- HandshakeForge$Compiler.choice(I)I
set_option maxRecDepth 100000 in
def tb_c55 : List (Option hm_O) := [some (.aload_n 0, 1, 1, 0), some (.iload_n 1, 1, 1, 0), some (.invokevirtual 193, 3, 14, 79), none, none, some (.istore_n 2, 1, 2, 0), some (.aload_n 0, 1, 1, 0), some (.iload_n 1, 1, 1, 0), some (.iconst 1, 1, 0, 0), some (.iadd, 1, 3, 0), some (.invokevirtual 187, 3, 14, 76), none, none, some (.istore_n 3, 1, 2, 0), some (.iconst (-1), 1, 0, 0), some (.istore 4, 2, 2, 0), none, some (.aload_n 0, 1, 1, 0), some (.getfield 65, 3, 9, 41), none, none, some (.invokevirtual 81, 3, 14, 39), none, none, some (.sipush 309, 3, 0, 0), none, none, some (.if_icmp .ne 19, 3, 7, 0), none, none, some (.aload_n 0, 1, 1, 0), some (.getfield 65, 3, 9, 41), none, none, some (.invokevirtual 85, 3, 14, 40), none, none, some (.aload_n 0, 1, 1, 0), some (.iload_n 1, 1, 1, 0), some (.iconst 1, 1, 0, 0), some (.iadd, 1, 3, 0), some (.invokevirtual 187, 3, 14, 76), none, none, some (.istore 4, 2, 2, 0), none, some (.aload_n 0, 1, 1, 0), some (.getfield 69, 3, 9, 42), none, none, some (.sipush 308, 3, 0, 0), none, none, some (.iload_n 2, 1, 1, 0), some (.iload_n 3, 1, 1, 0), some (.iload 4, 2, 1, 0), none, some (.invokevirtual 183, 3, 14, 77), none, none, some (.ireturn, 1, 16, 0)]
def tb_M55 : hm_M := (⟨"HandshakeForge$Compiler", "choice", "(I)I"⟩, 5, prog_3_method_12_code, 5, (some .int), tb_c55, [])
set_option maxRecDepth 100000 in
theorem tb_d55_0 : hm_dec tb_M55 0 40 = true := by decide +kernel
set_option maxRecDepth 100000 in
theorem tb_d55_40 : hm_dec tb_M55 40 21 = true := by decide +kernel
set_option maxRecDepth 100000 in
theorem tb_d55 : hm_dec tb_M55 0 61 = true := hm_dec_j (n := 40) (m := 21) (tb_d55_0) tb_d55_40
set_option maxRecDepth 100000 in
theorem tb_e55 : (hm_Mi tb_M55).length = 61 := by decide +kernel
-- HandshakeForge$Compiler.condition(I)I
set_option maxRecDepth 100000 in
def tb_c56 : List (Option hm_O) := [some (.aload_n 0, 1, 1, 0), some (.getfield 65, 3, 9, 41), none, none, some (.invokevirtual 85, 3, 14, 40), none, none, some (.aload_n 0, 1, 1, 0), some (.bipush 40, 2, 0, 0), none, some (.invokevirtual 132, 3, 14, 63), none, none, some (.aload_n 0, 1, 1, 0), some (.iload_n 1, 1, 1, 0), some (.invokevirtual 174, 3, 14, 73), none, none, some (.istore_n 2, 1, 2, 0), some (.aload_n 0, 1, 1, 0), some (.bipush 41, 2, 0, 0), none, some (.invokevirtual 132, 3, 14, 63), none, none, some (.iload_n 2, 1, 1, 0), some (.ireturn, 1, 16, 0)]
def tb_M56 : hm_M := (⟨"HandshakeForge$Compiler", "condition", "(I)I"⟩, 5, prog_3_method_17_code, 3, (some .int), tb_c56, [])
set_option maxRecDepth 100000 in
theorem tb_d56 : hm_dec tb_M56 0 27 = true := by decide +kernel
set_option maxRecDepth 100000 in
theorem tb_e56 : (hm_Mi tb_M56).length = 27 := by decide +kernel
-- HandshakeForge$Compiler.expression(I)I
set_option maxRecDepth 100000 in
def tb_c57 : List (Option hm_O) := [some (.aload_n 0, 1, 1, 0), some (.getfield 25, 3, 9, 30), none, none, some (.istore_n 2, 1, 2, 0), some (.aload_n 0, 1, 1, 0), some (.iload_n 1, 1, 1, 0), some (.invokevirtual 223, 3, 14, 83), none, none, some (.istore_n 3, 1, 2, 0), some (.aload_n 0, 1, 1, 0), some (.getfield 65, 3, 9, 41), none, none, some (.invokevirtual 81, 3, 14, 39), none, none, some (.invokestatic 226, 3, 14, 84), none, none, some (.istore 4, 2, 2, 0), none, some (.iconst 0, 1, 0, 0), some (.istore 5, 2, 2, 0), none, some (.iload 5, 2, 1, 0), none, some (.sipush 2000, 3, 0, 0), none, none, some (.if_icmp .ge 110, 3, 7, 0), none, none, some (.iload 4, 2, 1, 0), none, some (.ifCond .le 105, 3, 7, 0), none, none, some (.aload_n 0, 1, 1, 0), some (.iload_n 2, 1, 1, 0), some (.iload 4, 2, 1, 0), none, some (.iload_n 3, 1, 1, 0), some (.invokevirtual 229, 3, 14, 85), none, none, some (.istore_n 3, 1, 2, 0), some (.aload_n 0, 1, 1, 0), some (.aload_n 0, 1, 1, 0), some (.getfield 25, 3, 9, 30), none, none, some (.sipush 210, 3, 0, 0), none, none, some (.if_icmp .ge 7, 3, 7, 0), none, none, some (.iconst 1, 1, 0, 0), some (.goto 4, 3, 7, 0), none, none, some (.iconst 0, 1, 0, 0), some (.aload_n 0, 1, 1, 0), some (.getfield 65, 3, 9, 41), none, none, some (.invokevirtual 122, 3, 14, 47), none, none, some (.invokevirtual 125, 3, 14, 48), none, none, some (.aload_n 0, 1, 1, 0), some (.getfield 18, 3, 9, 28), none, none, some (.aload_n 0, 1, 1, 0), some (.getfield 25, 3, 9, 30), none, none, some (.aload_n 0, 1, 1, 0), some (.getfield 65, 3, 9, 41), none, none, some (.invokevirtual 81, 3, 14, 39), none, none, some (.iastore, 1, 11, 1), some (.aload_n 0, 1, 1, 0), some (.getfield 22, 3, 9, 29), none, none, some (.aload_n 0, 1, 1, 0), some (.getfield 25, 3, 9, 30), none, none, some (.iload_n 3, 1, 1, 0), some (.iastore, 1, 11, 1), some (.aload_n 0, 1, 1, 0), some (.dup, 1, 6, 0), some (.getfield 25, 3, 9, 30), none, none, some (.iconst 1, 1, 0, 0), some (.iadd, 1, 3, 0), some (.putfield 25, 3, 9, 30), none, none, some (.aload_n 0, 1, 1, 0), some (.getfield 65, 3, 9, 41), none, none, some (.invokevirtual 85, 3, 14, 40), none, none, some (.aload_n 0, 1, 1, 0), some (.iload_n 1, 1, 1, 0), some (.invokevirtual 223, 3, 14, 83), none, none, some (.istore_n 3, 1, 2, 0), some (.aload_n 0, 1, 1, 0), some (.getfield 65, 3, 9, 41), none, none, some (.invokevirtual 81, 3, 14, 39), none, none, some (.invokestatic 226, 3, 14, 84), none, none, some (.istore 4, 2, 2, 0), none, some (.iinc 5 1, 3, 6, 0), none, none, some (.goto (-112), 3, 7, 0), none, none, some (.aload_n 0, 1, 1, 0), some (.iload_n 2, 1, 1, 0), some (.iconst 1, 1, 0, 0), some (.iload_n 3, 1, 1, 0), some (.invokevirtual 229, 3, 14, 85), none, none, some (.ireturn, 1, 16, 0)]
def tb_M57 : hm_M := (⟨"HandshakeForge$Compiler", "expression", "(I)I"⟩, 5, prog_3_method_20_code, 6, (some .int), tb_c57, [])
set_option maxRecDepth 100000 in
theorem tb_d57_0 : hm_dec tb_M57 0 40 = true := by decide +kernel
set_option maxRecDepth 100000 in
theorem tb_d57_40 : hm_dec tb_M57 40 40 = true := by decide +kernel
set_option maxRecDepth 100000 in
theorem tb_d57_80 : hm_dec tb_M57 80 40 = true := by decide +kernel
set_option maxRecDepth 100000 in
theorem tb_d57_120 : hm_dec tb_M57 120 29 = true := by decide +kernel
set_option maxRecDepth 100000 in
theorem tb_d57 : hm_dec tb_M57 0 149 = true := hm_dec_j (n := 120) (m := 29) (hm_dec_j (n := 80) (m := 40) (hm_dec_j (n := 40) (m := 40) (tb_d57_0) tb_d57_40) tb_d57_80) tb_d57_120
set_option maxRecDepth 100000 in
theorem tb_e57 : (hm_Mi tb_M57).length = 149 := by decide +kernel
