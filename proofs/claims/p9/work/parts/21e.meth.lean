-- HandshakeForge$Work.sendOrWait(III)V
set_option maxRecDepth 100000 in
def tb_c104 : List (Option hm_O) := [some (.iload_n 2, 1, 1, 0), some (.ifCond .lt 9, 3, 7, 0), none, none, some (.iload_n 2, 1, 1, 0), some (.bipush 12, 2, 0, 0), none, some (.if_icmp .lt 4, 3, 7, 0), none, none, some (.return_, 1, 16, 0), some (.iload_n 2, 1, 1, 0), some (.bipush 8, 2, 0, 0), none, some (.if_icmp .lt 39, 3, 7, 0), none, none, some (.aload_n 0, 1, 1, 0), some (.getfield 43, 3, 9, 59), none, none, some (.iload_n 2, 1, 1, 0), some (.bipush 8, 2, 0, 0), none, some (.isub, 1, 3, 0), some (.aaload, 1, 11, 0), some (.iload_n 3, 1, 1, 0), some (.i2s, 1, 5, 0), some (.invokevirtual 171, 3, 14, 125), none, none, some (.ifCond .eq 12, 3, 7, 0), none, none, some (.aload_n 0, 1, 1, 0), some (.iload_n 1, 1, 1, 0), some (.iconst 0, 1, 0, 0), some (.invokevirtual 125, 3, 14, 109), none, none, some (.goto 51, 3, 7, 0), none, none, some (.aload_n 0, 1, 1, 0), some (.getfield 46, 3, 9, 60), none, none, some (.iload_n 2, 1, 1, 0), some (.iload_n 1, 1, 1, 0), some (.iastore, 1, 11, 1), some (.goto 41, 3, 7, 0), none, none, some (.aload_n 0, 1, 1, 0), some (.getfield 49, 3, 9, 61), none, none, some (.iload_n 2, 1, 1, 0), some (.iaload, 1, 11, 0), some (.ifCond .lt 25, 3, 7, 0), none, none, some (.aload_n 0, 1, 1, 0), some (.iload_n 1, 1, 1, 0), some (.aload_n 0, 1, 1, 0), some (.getfield 49, 3, 9, 61), none, none, some (.iload_n 2, 1, 1, 0), some (.iaload, 1, 11, 0), some (.iload_n 3, 1, 1, 0), some (.invokevirtual 174, 3, 14, 126), none, none, some (.aload_n 0, 1, 1, 0), some (.getfield 49, 3, 9, 61), none, none, some (.iload_n 2, 1, 1, 0), some (.iconst (-1), 1, 0, 0), some (.iastore, 1, 11, 1), some (.goto 10, 3, 7, 0), none, none, some (.aload_n 0, 1, 1, 0), some (.getfield 46, 3, 9, 60), none, none, some (.iload_n 2, 1, 1, 0), some (.iload_n 1, 1, 1, 0), some (.iastore, 1, 11, 1), some (.return_, 1, 16, 0)]
def tb_M104 : hm_M := (⟨"HandshakeForge$Work", "sendOrWait", "(III)V"⟩, 10, prog_8_method_13_code, 4, none, tb_c104, [])
set_option maxRecDepth 100000 in
theorem tb_d104_0 : hm_dec tb_M104 0 40 = true := by decide +kernel
set_option maxRecDepth 100000 in
theorem tb_d104_40 : hm_dec tb_M104 40 40 = true := by decide +kernel
set_option maxRecDepth 100000 in
theorem tb_d104_80 : hm_dec tb_M104 80 12 = true := by decide +kernel
set_option maxRecDepth 100000 in
theorem tb_d104 : hm_dec tb_M104 0 92 = true := hm_dec_j (n := 80) (m := 12) (hm_dec_j (n := 40) (m := 40) (tb_d104_0) tb_d104_40) tb_d104_80
set_option maxRecDepth 100000 in
theorem tb_e104 : (hm_Mi tb_M104).length = 92 := by decide +kernel
-- HandshakeForge$Queue.add(I)Z
set_option maxRecDepth 100000 in
def tb_c105 : List (Option hm_O) := [some (.aload_n 0, 1, 1, 0), some (.getfield 19, 3, 9, 68), none, none, some (.bipush 40, 2, 0, 0), none, some (.if_icmp .lt 5, 3, 7, 0), none, none, some (.iconst 0, 1, 0, 0), some (.ireturn, 1, 16, 0), some (.aload_n 0, 1, 1, 0), some (.getfield 9, 3, 9, 66), none, none, some (.aload_n 0, 1, 1, 0), some (.getfield 15, 3, 9, 67), none, none, some (.aload_n 0, 1, 1, 0), some (.getfield 19, 3, 9, 68), none, none, some (.iadd, 1, 3, 0), some (.bipush 40, 2, 0, 0), none, some (.irem, 1, 6, 0), some (.iload_n 1, 1, 1, 0), some (.iastore, 1, 11, 1), some (.aload_n 0, 1, 1, 0), some (.dup, 1, 6, 0), some (.getfield 19, 3, 9, 68), none, none, some (.iconst 1, 1, 0, 0), some (.iadd, 1, 3, 0), some (.putfield 19, 3, 9, 68), none, none, some (.iconst 1, 1, 0, 0), some (.ireturn, 1, 16, 0)]
def tb_M105 : hm_M := (⟨"HandshakeForge$Queue", "add", "(I)Z"⟩, 11, prog_5_method_3_code, 2, (some .boolean), tb_c105, [])
set_option maxRecDepth 100000 in
theorem tb_d105_0 : hm_dec tb_M105 0 40 = true := by decide +kernel
set_option maxRecDepth 100000 in
theorem tb_d105_40 : hm_dec tb_M105 40 1 = true := by decide +kernel
set_option maxRecDepth 100000 in
theorem tb_d105 : hm_dec tb_M105 0 41 = true := hm_dec_j (n := 40) (m := 1) (tb_d105_0) tb_d105_40
set_option maxRecDepth 100000 in
theorem tb_e105 : (hm_Mi tb_M105).length = 41 := by decide +kernel
-- HandshakeForge$Work.handOver(III)V
set_option maxRecDepth 100000 in
def tb_c106 : List (Option hm_O) := [some (.aload_n 0, 1, 1, 0), some (.getfield 62, 3, 9, 65), none, none, some (.iload_n 2, 1, 1, 0), some (.invokevirtual 97, 3, 14, 103), none, none, some (.ifCond .eq 42, 3, 7, 0), none, none, some (.aload_n 0, 1, 1, 0), some (.aload_n 0, 1, 1, 0), some (.getfield 62, 3, 9, 65), none, none, some (.getfield 119, 3, 9, 84), none, none, some (.iload_n 2, 1, 1, 0), some (.iaload, 1, 11, 0), some (.aload_n 0, 1, 1, 0), some (.aload_n 0, 1, 1, 0), some (.getfield 62, 3, 9, 65), none, none, some (.getfield 122, 3, 9, 85), none, none, some (.iload_n 2, 1, 1, 0), some (.iaload, 1, 11, 0), some (.invokevirtual 132, 3, 14, 111), none, none, some (.iload_n 3, 1, 1, 0), some (.invokevirtual 162, 3, 14, 122), none, none, some (.aload_n 0, 1, 1, 0), some (.iload_n 1, 1, 1, 0), some (.iconst 0, 1, 0, 0), some (.invokevirtual 125, 3, 14, 109), none, none, some (.aload_n 0, 1, 1, 0), some (.iload_n 2, 1, 1, 0), some (.iconst 0, 1, 0, 0), some (.invokevirtual 125, 3, 14, 109), none, none, some (.return_, 1, 16, 0)]
def tb_M106 : hm_M := (⟨"HandshakeForge$Work", "handOver", "(III)V"⟩, 10, prog_8_method_15_code, 4, none, tb_c106, [])
set_option maxRecDepth 100000 in
theorem tb_d106_0 : hm_dec tb_M106 0 40 = true := by decide +kernel
set_option maxRecDepth 100000 in
theorem tb_d106_40 : hm_dec tb_M106 40 11 = true := by decide +kernel
set_option maxRecDepth 100000 in
theorem tb_d106 : hm_dec tb_M106 0 51 = true := hm_dec_j (n := 40) (m := 11) (tb_d106_0) tb_d106_40
set_option maxRecDepth 100000 in
theorem tb_e106 : (hm_Mi tb_M106).length = 51 := by decide +kernel
-- HandshakeForge$Work.receiveOrWait(II)V
set_option maxRecDepth 100000 in
def tb_c107 : List (Option hm_O) := [some (.iload_n 2, 1, 1, 0), some (.ifCond .lt 9, 3, 7, 0), none, none, some (.iload_n 2, 1, 1, 0), some (.bipush 12, 2, 0, 0), none, some (.if_icmp .lt 4, 3, 7, 0), none, none, some (.return_, 1, 16, 0), some (.iload_n 2, 1, 1, 0), some (.bipush 8, 2, 0, 0), none, some (.if_icmp .lt 69, 3, 7, 0), none, none, some (.aload_n 0, 1, 1, 0), some (.getfield 39, 3, 9, 58), none, none, some (.iload_n 2, 1, 1, 0), some (.bipush 8, 2, 0, 0), none, some (.isub, 1, 3, 0), some (.aaload, 1, 11, 0), some (.astore_n 3, 1, 2, 0), some (.aload_n 3, 1, 1, 0), some (.getfield 177, 3, 9, 87), none, none, some (.ifCond .le 42, 3, 7, 0), none, none, some (.aload_n 0, 1, 1, 0), some (.aload_n 0, 1, 1, 0), some (.getfield 62, 3, 9, 65), none, none, some (.getfield 119, 3, 9, 84), none, none, some (.iload_n 1, 1, 1, 0), some (.iaload, 1, 11, 0), some (.aload_n 0, 1, 1, 0), some (.aload_n 0, 1, 1, 0), some (.getfield 62, 3, 9, 65), none, none, some (.getfield 122, 3, 9, 85), none, none, some (.iload_n 1, 1, 1, 0), some (.iaload, 1, 11, 0), some (.invokevirtual 132, 3, 14, 111), none, none, some (.aload_n 3, 1, 1, 0), some (.invokevirtual 180, 3, 14, 127), none, none, some (.invokevirtual 162, 3, 14, 122), none, none, some (.aload_n 0, 1, 1, 0), some (.iload_n 1, 1, 1, 0), some (.iconst 0, 1, 0, 0), some (.invokevirtual 125, 3, 14, 109), none, none, some (.goto 10, 3, 7, 0), none, none, some (.aload_n 0, 1, 1, 0), some (.getfield 49, 3, 9, 61), none, none, some (.iload_n 2, 1, 1, 0), some (.iload_n 1, 1, 1, 0), some (.iastore, 1, 11, 1), some (.goto 58, 3, 7, 0), none, none, some (.aload_n 0, 1, 1, 0), some (.getfield 46, 3, 9, 60), none, none, some (.iload_n 2, 1, 1, 0), some (.iaload, 1, 11, 0), some (.ifCond .lt 42, 3, 7, 0), none, none, some (.aload_n 0, 1, 1, 0), some (.aload_n 0, 1, 1, 0), some (.getfield 46, 3, 9, 60), none, none, some (.iload_n 2, 1, 1, 0), some (.iaload, 1, 11, 0), some (.iload_n 1, 1, 1, 0), some (.aload_n 0, 1, 1, 0), some (.aload_n 0, 1, 1, 0), some (.getfield 62, 3, 9, 65), none, none, some (.getfield 119, 3, 9, 84), none, none, some (.aload_n 0, 1, 1, 0), some (.getfield 46, 3, 9, 60), none, none, some (.iload_n 2, 1, 1, 0), some (.iaload, 1, 11, 0), some (.iaload, 1, 11, 0), some (.invokevirtual 132, 3, 14, 111), none, none, some (.invokevirtual 174, 3, 14, 126), none, none, some (.aload_n 0, 1, 1, 0), some (.getfield 46, 3, 9, 60), none, none, some (.iload_n 2, 1, 1, 0), some (.iconst (-1), 1, 0, 0), some (.iastore, 1, 11, 1), some (.goto 10, 3, 7, 0), none, none, some (.aload_n 0, 1, 1, 0), some (.getfield 49, 3, 9, 61), none, none, some (.iload_n 2, 1, 1, 0), some (.iload_n 1, 1, 1, 0), some (.iastore, 1, 11, 1), some (.return_, 1, 16, 0)]
def tb_M107 : hm_M := (⟨"HandshakeForge$Work", "receiveOrWait", "(II)V"⟩, 10, prog_8_method_14_code, 4, none, tb_c107, [])
set_option maxRecDepth 100000 in
theorem tb_d107_0 : hm_dec tb_M107 0 40 = true := by decide +kernel
set_option maxRecDepth 100000 in
theorem tb_d107_40 : hm_dec tb_M107 40 40 = true := by decide +kernel
set_option maxRecDepth 100000 in
theorem tb_d107_80 : hm_dec tb_M107 80 40 = true := by decide +kernel
set_option maxRecDepth 100000 in
theorem tb_d107_120 : hm_dec tb_M107 120 19 = true := by decide +kernel
set_option maxRecDepth 100000 in
theorem tb_d107 : hm_dec tb_M107 0 139 = true := hm_dec_j (n := 120) (m := 19) (hm_dec_j (n := 80) (m := 40) (hm_dec_j (n := 40) (m := 40) (tb_d107_0) tb_d107_40) tb_d107_80) tb_d107_120
set_option maxRecDepth 100000 in
theorem tb_e107 : (hm_Mi tb_M107).length = 139 := by decide +kernel
-- HandshakeForge$Queue.remove()I
set_option maxRecDepth 100000 in
def tb_c108 : List (Option hm_O) := [some (.aload_n 0, 1, 1, 0), some (.getfield 19, 3, 9, 68), none, none, some (.ifCond .gt 5, 3, 7, 0), none, none, some (.iconst 0, 1, 0, 0), some (.ireturn, 1, 16, 0), some (.aload_n 0, 1, 1, 0), some (.getfield 9, 3, 9, 66), none, none, some (.aload_n 0, 1, 1, 0), some (.getfield 15, 3, 9, 67), none, none, some (.iaload, 1, 11, 0), some (.istore_n 1, 1, 2, 0), some (.aload_n 0, 1, 1, 0), some (.aload_n 0, 1, 1, 0), some (.getfield 15, 3, 9, 67), none, none, some (.iconst 1, 1, 0, 0), some (.iadd, 1, 3, 0), some (.bipush 40, 2, 0, 0), none, some (.irem, 1, 6, 0), some (.putfield 15, 3, 9, 67), none, none, some (.aload_n 0, 1, 1, 0), some (.dup, 1, 6, 0), some (.getfield 19, 3, 9, 68), none, none, some (.iconst 1, 1, 0, 0), some (.isub, 1, 3, 0), some (.putfield 19, 3, 9, 68), none, none, some (.iload_n 1, 1, 1, 0), some (.ireturn, 1, 16, 0)]
def tb_M108 : hm_M := (⟨"HandshakeForge$Queue", "remove", "()I"⟩, 11, prog_5_method_4_code, 2, (some .int), tb_c108, [])
set_option maxRecDepth 100000 in
theorem tb_d108_0 : hm_dec tb_M108 0 40 = true := by decide +kernel
set_option maxRecDepth 100000 in
theorem tb_d108_40 : hm_dec tb_M108 40 4 = true := by decide +kernel
set_option maxRecDepth 100000 in
theorem tb_d108 : hm_dec tb_M108 0 44 = true := hm_dec_j (n := 40) (m := 4) (tb_d108_0) tb_d108_40
set_option maxRecDepth 100000 in
theorem tb_e108 : (hm_Mi tb_M108).length = 44 := by decide +kernel
-- HandshakeForge$Work.turnToFlow(II)V
set_option maxRecDepth 100000 in
def tb_c109 : List (Option hm_O) := [some (.aload_n 0, 1, 1, 0), some (.getfield 62, 3, 9, 65), none, none, some (.getfield 116, 3, 9, 83), none, none, some (.iload_n 1, 1, 1, 0), some (.iaload, 1, 11, 0), some (.istore_n 3, 1, 2, 0), some (.aload_n 0, 1, 1, 0), some (.getfield 62, 3, 9, 65), none, none, some (.getfield 119, 3, 9, 84), none, none, some (.iload_n 1, 1, 1, 0), some (.iaload, 1, 11, 0), some (.istore 4, 2, 2, 0), none, some (.aload_n 0, 1, 1, 0), some (.getfield 62, 3, 9, 65), none, none, some (.getfield 101, 3, 9, 82), none, none, some (.iload_n 1, 1, 1, 0), some (.iaload, 1, 11, 0), some (.lookupswitch 216 #[(308, 50), (310, 107), (311, 145), (312, 207), (408, 165)], 50, 8, 0), none, none, none, none, none, none, none, none, none, none, none, none, none, none, none, none, none, none, none, none, none, none, none, none, none, none, none, none, none, none, none, none, none, none, none, none, none, none, none, none, none, none, none, none, none, none, none, none, none, some (.iload_n 2, 1, 1, 0), some (.ifCond .ne 12, 3, 7, 0), none, none, some (.aload_n 0, 1, 1, 0), some (.iload_n 3, 1, 1, 0), some (.iload_n 1, 1, 1, 0), some (.invokevirtual 81, 3, 14, 100), none, none, some (.goto 162, 3, 7, 0), none, none, some (.aload_n 0, 1, 1, 0), some (.iload_n 3, 1, 1, 0), some (.invokevirtual 132, 3, 14, 111), none, none, some (.ifCond .eq 8, 3, 7, 0), none, none, some (.iload 4, 2, 1, 0), none, some (.goto 12, 3, 7, 0), none, none, some (.aload_n 0, 1, 1, 0), some (.getfield 62, 3, 9, 65), none, none, some (.getfield 122, 3, 9, 85), none, none, some (.iload_n 1, 1, 1, 0), some (.iaload, 1, 11, 0), some (.istore 5, 2, 2, 0), none, some (.aload_n 0, 1, 1, 0), some (.iload_n 2, 1, 1, 0), some (.iconst 1, 1, 0, 0), some (.if_icmp .ne 8, 3, 7, 0), none, none, some (.iload 5, 2, 1, 0), none, some (.goto 4, 3, 7, 0), none, none, some (.iconst (-1), 1, 0, 0), some (.iload_n 1, 1, 1, 0), some (.iconst 0, 1, 0, 0), some (.invokevirtual 156, 3, 14, 120), none, none, some (.goto 118, 3, 7, 0), none, none, some (.iload_n 2, 1, 1, 0), some (.iconst 2, 1, 0, 0), some (.irem, 1, 6, 0), some (.ifCond .ne 12, 3, 7, 0), none, none, some (.aload_n 0, 1, 1, 0), some (.iload_n 3, 1, 1, 0), some (.iload_n 1, 1, 1, 0), some (.invokevirtual 81, 3, 14, 100), none, none, some (.goto 103, 3, 7, 0), none, none, some (.aload_n 0, 1, 1, 0), some (.aload_n 0, 1, 1, 0), some (.iload_n 3, 1, 1, 0), some (.invokevirtual 132, 3, 14, 111), none, none, some (.ifCond .eq 8, 3, 7, 0), none, none, some (.iload 4, 2, 1, 0), none, some (.goto 4, 3, 7, 0), none, none, some (.iconst (-1), 1, 0, 0), some (.iload_n 1, 1, 1, 0), some (.iconst 0, 1, 0, 0), some (.invokevirtual 156, 3, 14, 120), none, none, some (.goto 80, 3, 7, 0), none, none, some (.aload_n 0, 1, 1, 0), some (.iload_n 2, 1, 1, 0), some (.iload_n 3, 1, 1, 0), some (.if_icmp .ge 8, 3, 7, 0), none, none, some (.iload 4, 2, 1, 0), none, some (.goto 4, 3, 7, 0), none, none, some (.iconst (-1), 1, 0, 0), some (.iload_n 1, 1, 1, 0), some (.iconst 0, 1, 0, 0), some (.invokevirtual 156, 3, 14, 120), none, none, some (.goto 60, 3, 7, 0), none, none, some (.aload_n 0, 1, 1, 0), some (.getfield 21, 3, 9, 53), none, none, some (.iload_n 1, 1, 1, 0), some (.iload_n 2, 1, 1, 0), some (.ifCond .ne 7, 3, 7, 0), none, none, some (.iload_n 3, 1, 1, 0), some (.goto 16, 3, 7, 0), none, none, some (.aload_n 0, 1, 1, 0), some (.getfield 62, 3, 9, 65), none, none, some (.aload_n 0, 1, 1, 0), some (.getfield 21, 3, 9, 53), none, none, some (.iload_n 1, 1, 1, 0), some (.iaload, 1, 11, 0), some (.invokevirtual 146, 3, 14, 117), none, none, some (.iastore, 1, 11, 1), some (.aload_n 0, 1, 1, 0), some (.aload_n 0, 1, 1, 0), some (.getfield 21, 3, 9, 53), none, none, some (.iload_n 1, 1, 1, 0), some (.iaload, 1, 11, 0), some (.iload_n 1, 1, 1, 0), some (.iconst 0, 1, 0, 0), some (.invokevirtual 156, 3, 14, 120), none, none, some (.goto 18, 3, 7, 0), none, none, some (.aload_n 0, 1, 1, 0), some (.iload_n 1, 1, 1, 0), some (.iload_n 2, 1, 1, 0), some (.invokevirtual 184, 3, 14, 128), none, none, some (.goto 9, 3, 7, 0), none, none, some (.aload_n 0, 1, 1, 0), some (.iload_n 1, 1, 1, 0), some (.iconst 0, 1, 0, 0), some (.invokevirtual 125, 3, 14, 109), none, none, some (.return_, 1, 16, 0)]
def tb_M109 : hm_M := (⟨"HandshakeForge$Work", "turnToFlow", "(II)V"⟩, 10, prog_8_method_16_code, 6, none, tb_c109, [])
set_option maxRecDepth 100000 in
theorem tb_d109_0 : hm_dec tb_M109 0 40 = true := by decide +kernel
set_option maxRecDepth 100000 in
theorem tb_d109_40 : hm_dec tb_M109 40 40 = true := by decide +kernel
set_option maxRecDepth 100000 in
theorem tb_d109_80 : hm_dec tb_M109 80 40 = true := by decide +kernel
set_option maxRecDepth 100000 in
theorem tb_d109_120 : hm_dec tb_M109 120 40 = true := by decide +kernel
set_option maxRecDepth 100000 in
theorem tb_d109_160 : hm_dec tb_M109 160 40 = true := by decide +kernel
set_option maxRecDepth 100000 in
theorem tb_d109_200 : hm_dec tb_M109 200 40 = true := by decide +kernel
set_option maxRecDepth 100000 in
theorem tb_d109_240 : hm_dec tb_M109 240 13 = true := by decide +kernel
set_option maxRecDepth 100000 in
theorem tb_d109 : hm_dec tb_M109 0 253 = true := hm_dec_j (n := 240) (m := 13) (hm_dec_j (n := 200) (m := 40) (hm_dec_j (n := 160) (m := 40) (hm_dec_j (n := 120) (m := 40) (hm_dec_j (n := 80) (m := 40) (hm_dec_j (n := 40) (m := 40) (tb_d109_0) tb_d109_40) tb_d109_80) tb_d109_120) tb_d109_160) tb_d109_200) tb_d109_240
set_option maxRecDepth 100000 in
theorem tb_e109 : (hm_Mi tb_M109).length = 253 := by decide +kernel
-- HandshakeForge$Work.turnToPar(II)V
set_option maxRecDepth 100000 in
def tb_c110 : List (Option hm_O) := [some (.aload_n 0, 1, 1, 0), some (.getfield 62, 3, 9, 65), none, none, some (.getfield 119, 3, 9, 84), none, none, some (.iload_n 1, 1, 1, 0), some (.iaload, 1, 11, 0), some (.istore_n 3, 1, 2, 0), some (.iload_n 2, 1, 1, 0), some (.ifCond .ne 50, 3, 7, 0), none, none, some (.aload_n 0, 1, 1, 0), some (.getfield 62, 3, 9, 65), none, none, some (.getfield 116, 3, 9, 83), none, none, some (.iload_n 1, 1, 1, 0), some (.iaload, 1, 11, 0), some (.istore 4, 2, 2, 0), none, some (.iconst 0, 1, 0, 0), some (.istore 5, 2, 2, 0), none, some (.iload 5, 2, 1, 0), none, some (.iload_n 3, 1, 1, 0), some (.if_icmp .ge 27, 3, 7, 0), none, none, some (.aload_n 0, 1, 1, 0), some (.iload 4, 2, 1, 0), none, some (.iload_n 1, 1, 1, 0), some (.invokevirtual 81, 3, 14, 100), none, none, some (.aload_n 0, 1, 1, 0), some (.getfield 62, 3, 9, 65), none, none, some (.iload 4, 2, 1, 0), none, some (.invokevirtual 146, 3, 14, 117), none, none, some (.istore 4, 2, 2, 0), none, some (.iinc 5 1, 3, 6, 0), none, none, some (.goto (-27), 3, 7, 0), none, none, some (.goto 14, 3, 7, 0), none, none, some (.iload_n 2, 1, 1, 0), some (.iload_n 3, 1, 1, 0), some (.if_icmp .ne 9, 3, 7, 0), none, none, some (.aload_n 0, 1, 1, 0), some (.iload_n 1, 1, 1, 0), some (.iconst 0, 1, 0, 0), some (.invokevirtual 125, 3, 14, 109), none, none, some (.return_, 1, 16, 0)]
def tb_M110 : hm_M := (⟨"HandshakeForge$Work", "turnToPar", "(II)V"⟩, 10, prog_8_method_17_code, 6, none, tb_c110, [])
set_option maxRecDepth 100000 in
theorem tb_d110_0 : hm_dec tb_M110 0 40 = true := by decide +kernel
set_option maxRecDepth 100000 in
theorem tb_d110_40 : hm_dec tb_M110 40 33 = true := by decide +kernel
set_option maxRecDepth 100000 in
theorem tb_d110 : hm_dec tb_M110 0 73 = true := hm_dec_j (n := 40) (m := 33) (tb_d110_0) tb_d110_40
set_option maxRecDepth 100000 in
theorem tb_e110 : (hm_Mi tb_M110).length = 73 := by decide +kernel
-- HandshakeForge.give(II)I
set_option maxRecDepth 100000 in
def tb_c111 : List (Option hm_O) := [some (.aload_n 0, 1, 1, 0), some (.getfield 26, 3, 9, 3), none, none, some (.ifCond .eq 31, 3, 7, 0), none, none, some (.aload_n 0, 1, 1, 0), some (.getfield 44, 3, 9, 5), none, none, some (.getfield 70, 3, 9, 80), none, none, some (.iconst 3, 1, 0, 0), some (.if_icmp .eq 20, 3, 7, 0), none, none, some (.iload_n 1, 1, 1, 0), some (.ifCond .lt 16, 3, 7, 0), none, none, some (.iload_n 1, 1, 1, 0), some (.aload_n 0, 1, 1, 0), some (.getfield 19, 3, 9, 1), none, none, some (.getfield 76, 3, 9, 88), none, none, some (.iconst 3, 1, 0, 0), some (.iaload, 1, 11, 0), some (.if_icmp .lt 6, 3, 7, 0), none, none, some (.bipush (-2), 2, 0, 0), none, some (.ireturn, 1, 16, 0), some (.aload_n 0, 1, 1, 0), some (.getfield 44, 3, 9, 5), none, none, some (.getfield 80, 3, 9, 89), none, none, some (.iload_n 1, 1, 1, 0), some (.aaload, 1, 11, 0), some (.astore_n 3, 1, 2, 0), some (.aload_n 3, 1, 1, 0), some (.iload_n 2, 1, 1, 0), some (.i2s, 1, 5, 0), some (.invokevirtual 84, 3, 14, 129), none, none, some (.ifCond .eq 10, 3, 7, 0), none, none, some (.aload_n 3, 1, 1, 0), some (.getfield 89, 3, 9, 90), none, none, some (.goto 5, 3, 7, 0), none, none, some (.bipush (-3), 2, 0, 0), none, some (.ireturn, 1, 16, 0)]
def tb_M111 : hm_M := (⟨"HandshakeForge", "give", "(II)I"⟩, 1, prog_1_method_7_code, 4, (some .int), tb_c111, [])
set_option maxRecDepth 100000 in
theorem tb_d111_0 : hm_dec tb_M111 0 40 = true := by decide +kernel
set_option maxRecDepth 100000 in
theorem tb_d111_40 : hm_dec tb_M111 40 27 = true := by decide +kernel
set_option maxRecDepth 100000 in
theorem tb_d111 : hm_dec tb_M111 0 67 = true := hm_dec_j (n := 40) (m := 27) (tb_d111_0) tb_d111_40
set_option maxRecDepth 100000 in
theorem tb_e111 : (hm_Mi tb_M111).length = 67 := by decide +kernel
-- HandshakeForge.take(I)J
set_option maxRecDepth 100000 in
def tb_c112 : List (Option hm_O) := [some (.aload_n 0, 1, 1, 0), some (.getfield 26, 3, 9, 3), none, none, some (.ifCond .eq 31, 3, 7, 0), none, none, some (.aload_n 0, 1, 1, 0), some (.getfield 44, 3, 9, 5), none, none, some (.getfield 70, 3, 9, 80), none, none, some (.iconst 3, 1, 0, 0), some (.if_icmp .eq 20, 3, 7, 0), none, none, some (.iload_n 1, 1, 1, 0), some (.ifCond .lt 16, 3, 7, 0), none, none, some (.iload_n 1, 1, 1, 0), some (.aload_n 0, 1, 1, 0), some (.getfield 19, 3, 9, 1), none, none, some (.getfield 76, 3, 9, 88), none, none, some (.iconst 4, 1, 0, 0), some (.iaload, 1, 11, 0), some (.if_icmp .lt 7, 3, 7, 0), none, none, some (.ldc2_w 90, 3, 13, 9), none, none, some (.lreturn, 1, 16, 0), some (.aload_n 0, 1, 1, 0), some (.getfield 44, 3, 9, 5), none, none, some (.getfield 92, 3, 9, 91), none, none, some (.iload_n 1, 1, 1, 0), some (.aaload, 1, 11, 0), some (.astore_n 2, 1, 2, 0), some (.aload_n 2, 1, 1, 0), some (.getfield 89, 3, 9, 90), none, none, some (.ifCond .le 11, 3, 7, 0), none, none, some (.aload_n 2, 1, 1, 0), some (.invokevirtual 95, 3, 14, 130), none, none, some (.i2l, 1, 5, 0), some (.goto 6, 3, 7, 0), none, none, some (.ldc2_w 90, 3, 13, 9), none, none, some (.lreturn, 1, 16, 0)]
def tb_M112 : hm_M := (⟨"HandshakeForge", "take", "(I)J"⟩, 1, prog_1_method_8_code, 3, (some .long), tb_c112, [])
set_option maxRecDepth 100000 in
theorem tb_d112_0 : hm_dec tb_M112 0 40 = true := by decide +kernel
set_option maxRecDepth 100000 in
theorem tb_d112_40 : hm_dec tb_M112 40 28 = true := by decide +kernel
set_option maxRecDepth 100000 in
theorem tb_d112 : hm_dec tb_M112 0 68 = true := hm_dec_j (n := 40) (m := 28) (tb_d112_0) tb_d112_40
set_option maxRecDepth 100000 in
theorem tb_e112 : (hm_Mi tb_M112).length = 68 := by decide +kernel
-- HandshakeForge.look(I)J
set_option maxRecDepth 100000 in
def tb_c113 : List (Option hm_O) := [some (.aload_n 0, 1, 1, 0), some (.getfield 12, 3, 9, 0), none, none, some (.invokevirtual 99, 3, 14, 131), none, none, some (.lstore_n 2, 1, 2, 0), some (.aload_n 0, 1, 1, 0), some (.getfield 12, 3, 9, 0), none, none, some (.iconst 0, 1, 0, 0), some (.putfield 48, 3, 9, 69), none, none, some (.aload_n 0, 1, 1, 0), some (.getfield 26, 3, 9, 3), none, none, some (.ifCond .eq 14, 3, 7, 0), none, none, some (.aload_n 0, 1, 1, 0), some (.getfield 44, 3, 9, 5), none, none, some (.getfield 70, 3, 9, 80), none, none, some (.iconst 3, 1, 0, 0), some (.if_icmp .ne 7, 3, 7, 0), none, none, some (.ldc2_w 90, 3, 13, 9), none, none, some (.lreturn, 1, 16, 0), some (.aload_n 0, 1, 1, 0), some (.getfield 19, 3, 9, 1), none, none, some (.getfield 103, 3, 9, 92), none, none, some (.astore 4, 2, 2, 0), none, some (.aload 4, 2, 1, 0), none, some (.lload_n 2, 1, 1, 0), some (.iconst 0, 1, 0, 0), some (.invokevirtual 107, 3, 14, 132), none, none, some (.istore 5, 2, 2, 0), none, some (.aload 4, 2, 1, 0), none, some (.iload 5, 2, 1, 0), none, some (.invokevirtual 113, 3, 14, 133), none, none, some (.ifCond .ne 19, 3, 7, 0), none, none, some (.aload_n 0, 1, 1, 0), some (.getfield 44, 3, 9, 5), none, none, some (.aload 4, 2, 1, 0), none, some (.iload 5, 2, 1, 0), none, some (.invokevirtual 117, 3, 14, 134), none, none, some (.invokevirtual 120, 3, 14, 135), none, none, some (.i2l, 1, 5, 0), some (.lreturn, 1, 16, 0), some (.aload 4, 2, 1, 0), none, some (.iload 5, 2, 1, 0), none, some (.invokevirtual 113, 3, 14, 133), none, none, some (.iconst 1, 1, 0, 0), some (.if_icmp .ne 22, 3, 7, 0), none, none, some (.aload_n 0, 1, 1, 0), some (.getfield 44, 3, 9, 5), none, none, some (.aload 4, 2, 1, 0), none, some (.iload 5, 2, 1, 0), none, some (.invokevirtual 117, 3, 14, 134), none, none, some (.iload_n 1, 1, 1, 0), some (.invokevirtual 123, 3, 14, 136), none, none, some (.i2l, 1, 5, 0), some (.goto 6, 3, 7, 0), none, none, some (.ldc2_w 90, 3, 13, 9), none, none, some (.lreturn, 1, 16, 0)]
def tb_M113 : hm_M := (⟨"HandshakeForge", "look", "(I)J"⟩, 1, prog_1_method_9_code, 6, (some .long), tb_c113, [])
set_option maxRecDepth 100000 in
theorem tb_d113_0 : hm_dec tb_M113 0 40 = true := by decide +kernel
set_option maxRecDepth 100000 in
theorem tb_d113_40 : hm_dec tb_M113 40 40 = true := by decide +kernel
set_option maxRecDepth 100000 in
theorem tb_d113_80 : hm_dec tb_M113 80 36 = true := by decide +kernel
set_option maxRecDepth 100000 in
theorem tb_d113 : hm_dec tb_M113 0 116 = true := hm_dec_j (n := 80) (m := 36) (hm_dec_j (n := 40) (m := 40) (tb_d113_0) tb_d113_40) tb_d113_80
set_option maxRecDepth 100000 in
theorem tb_e113 : (hm_Mi tb_M113).length = 116 := by decide +kernel
-- HandshakeForge$Tape.word()J
set_option maxRecDepth 100000 in
def tb_c114 : List (Option hm_O) := [some (.lconst 0, 1, 0, 0), some (.lstore_n 1, 1, 2, 0), some (.iconst 0, 1, 0, 0), some (.istore_n 3, 1, 2, 0), some (.iload_n 3, 1, 1, 0), some (.aload_n 0, 1, 1, 0), some (.getfield 15, 3, 9, 7), none, none, some (.if_icmp .ge 40, 3, 7, 0), none, none, some (.iload_n 3, 1, 1, 0), some (.bipush 8, 2, 0, 0), none, some (.if_icmp .eq 14, 3, 7, 0), none, none, some (.aload_n 0, 1, 1, 0), some (.iload_n 3, 1, 1, 0), some (.invokevirtual 19, 3, 14, 137), none, none, some (.invokestatic 23, 3, 14, 138), none, none, some (.ifCond .ne 5, 3, 7, 0), none, none, some (.lconst 0, 1, 0, 0), some (.lreturn, 1, 16, 0), some (.lload_n 1, 1, 1, 0), some (.bipush 8, 2, 0, 0), none, some (.lshl, 1, 6, 0), some (.aload_n 0, 1, 1, 0), some (.iload_n 3, 1, 1, 0), some (.invokevirtual 19, 3, 14, 137), none, none, some (.i2l, 1, 5, 0), some (.lor, 1, 4, 0), some (.lstore_n 1, 1, 2, 0), some (.iinc 3 1, 3, 6, 0), none, none, some (.goto (-42), 3, 7, 0), none, none, some (.lload_n 1, 1, 1, 0), some (.lreturn, 1, 16, 0)]
def tb_M114 : hm_M := (⟨"HandshakeForge$Tape", "word", "()J"⟩, 2, prog_6_method_4_code, 4, (some .long), tb_c114, [])
set_option maxRecDepth 100000 in
theorem tb_d114_0 : hm_dec tb_M114 0 40 = true := by decide +kernel
set_option maxRecDepth 100000 in
theorem tb_d114_40 : hm_dec tb_M114 40 11 = true := by decide +kernel
set_option maxRecDepth 100000 in
theorem tb_d114 : hm_dec tb_M114 0 51 = true := hm_dec_j (n := 40) (m := 11) (tb_d114_0) tb_d114_40
set_option maxRecDepth 100000 in
theorem tb_e114 : (hm_Mi tb_M114).length = 51 := by decide +kernel
-- HandshakeForge.count(I)I
set_option maxRecDepth 100000 in
def tb_c115 : List (Option hm_O) := [some (.iload_n 1, 1, 1, 0), some (.ifCond .lt 9, 3, 7, 0), none, none, some (.iload_n 1, 1, 1, 0), some (.bipush 12, 2, 0, 0), none, some (.if_icmp .le 5, 3, 7, 0), none, none, some (.iconst (-1), 1, 0, 0), some (.ireturn, 1, 16, 0), some (.aload_n 0, 1, 1, 0), some (.getfield 26, 3, 9, 3), none, none, some (.ifCond .ne 5, 3, 7, 0), none, none, some (.iconst 0, 1, 0, 0), some (.ireturn, 1, 16, 0), some (.iload_n 1, 1, 1, 0), some (.ifCond .ne 11, 3, 7, 0), none, none, some (.aload_n 0, 1, 1, 0), some (.getfield 19, 3, 9, 1), none, none, some (.getfield 127, 3, 9, 93), none, none, some (.ireturn, 1, 16, 0), some (.iload_n 1, 1, 1, 0), some (.bipush 6, 2, 0, 0), none, some (.if_icmp .gt 15, 3, 7, 0), none, none, some (.aload_n 0, 1, 1, 0), some (.getfield 19, 3, 9, 1), none, none, some (.getfield 76, 3, 9, 88), none, none, some (.iload_n 1, 1, 1, 0), some (.iconst 1, 1, 0, 0), some (.isub, 1, 3, 0), some (.iaload, 1, 11, 0), some (.ireturn, 1, 16, 0), some (.iload_n 1, 1, 1, 0), some (.bipush 7, 2, 0, 0), none, some (.if_icmp .ne 11, 3, 7, 0), none, none, some (.aload_n 0, 1, 1, 0), some (.getfield 44, 3, 9, 5), none, none, some (.getfield 130, 3, 9, 94), none, none, some (.ireturn, 1, 16, 0), some (.iload_n 1, 1, 1, 0), some (.bipush 8, 2, 0, 0), none, some (.if_icmp .ne 11, 3, 7, 0), none, none, some (.aload_n 0, 1, 1, 0), some (.getfield 44, 3, 9, 5), none, none, some (.getfield 70, 3, 9, 80), none, none, some (.ireturn, 1, 16, 0), some (.aload_n 0, 1, 1, 0), some (.getfield 44, 3, 9, 5), none, none, some (.getfield 70, 3, 9, 80), none, none, some (.iconst 3, 1, 0, 0), some (.if_icmp .ne 7, 3, 7, 0), none, none, some (.iconst 0, 1, 0, 0), some (.goto 18, 3, 7, 0), none, none, some (.aload_n 0, 1, 1, 0), some (.getfield 44, 3, 9, 5), none, none, some (.getfield 92, 3, 9, 91), none, none, some (.iload_n 1, 1, 1, 0), some (.bipush 9, 2, 0, 0), none, some (.isub, 1, 3, 0), some (.aaload, 1, 11, 0), some (.getfield 89, 3, 9, 90), none, none, some (.ireturn, 1, 16, 0)]
def tb_M115 : hm_M := (⟨"HandshakeForge", "count", "(I)I"⟩, 1, prog_1_method_10_code, 2, (some .int), tb_c115, [])
set_option maxRecDepth 100000 in
theorem tb_d115_0 : hm_dec tb_M115 0 40 = true := by decide +kernel
set_option maxRecDepth 100000 in
theorem tb_d115_40 : hm_dec tb_M115 40 40 = true := by decide +kernel
set_option maxRecDepth 100000 in
theorem tb_d115_80 : hm_dec tb_M115 80 30 = true := by decide +kernel
set_option maxRecDepth 100000 in
theorem tb_d115 : hm_dec tb_M115 0 110 = true := hm_dec_j (n := 80) (m := 30) (hm_dec_j (n := 40) (m := 40) (tb_d115_0) tb_d115_40) tb_d115_80
set_option maxRecDepth 100000 in
theorem tb_e115 : (hm_Mi tb_M115).length = 110 := by decide +kernel
-- HandshakeForgeModel.<init>()V
set_option maxRecDepth 100000 in
def tb_c116 : List (Option hm_O) := [some (.aload_n 0, 1, 1, 0), some (.invokespecial 419, 3, 15, 10), none, none, some (.aload_n 0, 1, 1, 0), some (.sipush 2000, 3, 0, 0), none, none, some (.newarray .byte, 2, 12, 0), none, some (.putfield 22, 3, 9, 95), none, none, some (.aload_n 0, 1, 1, 0), some (.bipush 100, 2, 0, 0), none, some (.newarray .int, 2, 12, 0), none, some (.putfield 80, 3, 9, 96), none, none, some (.aload_n 0, 1, 1, 0), some (.bipush 100, 2, 0, 0), none, some (.newarray .int, 2, 12, 0), none, some (.putfield 76, 3, 9, 97), none, none, some (.aload_n 0, 1, 1, 0), some (.bipush 100, 2, 0, 0), none, some (.newarray .int, 2, 12, 0), none, some (.putfield 92, 3, 9, 98), none, none, some (.aload_n 0, 1, 1, 0), some (.bipush 100, 2, 0, 0), none, some (.newarray .int, 2, 12, 0), none, some (.putfield 95, 3, 9, 99), none, none, some (.aload_n 0, 1, 1, 0), some (.bipush 100, 2, 0, 0), none, some (.newarray .int, 2, 12, 0), none, some (.putfield 86, 3, 9, 100), none, none, some (.aload_n 0, 1, 1, 0), some (.new 103, 3, 12, 9), none, none, some (.dup, 1, 6, 0), some (.invokespecial 424, 3, 14, 139), none, none, some (.putfield 425, 3, 9, 101), none, none, some (.aload_n 0, 1, 1, 0), some (.new 103, 3, 12, 9), none, none, some (.dup, 1, 6, 0), some (.invokespecial 424, 3, 14, 139), none, none, some (.putfield 116, 3, 9, 102), none, none, some (.aload_n 0, 1, 1, 0), some (.bipush 12, 2, 0, 0), none, some (.newarray .long, 2, 12, 0), none, some (.putfield 289, 3, 9, 103), none, none, some (.aload_n 0, 1, 1, 0), some (.bipush 12, 2, 0, 0), none, some (.newarray .long, 2, 12, 0), none, some (.putfield 293, 3, 9, 104), none, none, some (.aload_n 0, 1, 1, 0), some (.bipush 12, 2, 0, 0), none, some (.newarray .long, 2, 12, 0), none, some (.putfield 296, 3, 9, 105), none, none, some (.aload_n 0, 1, 1, 0), some (.bipush 12, 2, 0, 0), none, some (.newarray .long, 2, 12, 0), none, some (.putfield 299, 3, 9, 106), none, none, some (.aload_n 0, 1, 1, 0), some (.bipush 12, 2, 0, 0), none, some (.newarray .long, 2, 12, 0), none, some (.putfield 302, 3, 9, 107), none, none, some (.aload_n 0, 1, 1, 0), some (.bipush 12, 2, 0, 0), none, some (.newarray .int, 2, 12, 0), none, some (.putfield 283, 3, 9, 108), none, none, some (.aload_n 0, 1, 1, 0), some (.bipush 12, 2, 0, 0), none, some (.newarray .int, 2, 12, 0), none, some (.putfield 274, 3, 9, 109), none, none, some (.aload_n 0, 1, 1, 0), some (.bipush 12, 2, 0, 0), none, some (.newarray .int, 2, 12, 0), none, some (.putfield 271, 3, 9, 110), none, none, some (.aload_n 0, 1, 1, 0), some (.bipush 24, 2, 0, 0), none, some (.newarray .int, 2, 12, 0), none, some (.putfield 428, 3, 9, 111), none, none, some (.aload_n 0, 1, 1, 0), some (.sipush 2000, 3, 0, 0), none, none, some (.newarray .int, 2, 12, 0), none, some (.putfield 430, 3, 9, 112), none, none, some (.aload_n 0, 1, 1, 0), some (.sipush 700, 3, 0, 0), none, none, some (.newarray .int, 2, 12, 0), none, some (.putfield 433, 3, 9, 113), none, none, some (.aload_n 0, 1, 1, 0), some (.sipush 700, 3, 0, 0), none, none, some (.newarray .int, 2, 12, 0), none, some (.putfield 436, 3, 9, 114), none, none, some (.aload_n 0, 1, 1, 0), some (.sipush 700, 3, 0, 0), none, none, some (.newarray .int, 2, 12, 0), none, some (.putfield 439, 3, 9, 115), none, none, some (.aload_n 0, 1, 1, 0), some (.sipush 700, 3, 0, 0), none, none, some (.newarray .int, 2, 12, 0), none, some (.putfield 442, 3, 9, 116), none, none, some (.aload_n 0, 1, 1, 0), some (.sipush 700, 3, 0, 0), none, none, some (.newarray .int, 2, 12, 0), none, some (.putfield 445, 3, 9, 117), none, none, some (.aload_n 0, 1, 1, 0), some (.sipush 700, 3, 0, 0), none, none, some (.newarray .int, 2, 12, 0), none, some (.putfield 448, 3, 9, 118), none, none, some (.aload_n 0, 1, 1, 0), some (.sipush 700, 3, 0, 0), none, none, some (.newarray .int, 2, 12, 0), none, some (.putfield 451, 3, 9, 119), none, none, some (.aload_n 0, 1, 1, 0), some (.bipush 6, 2, 0, 0), none, some (.bipush 64, 2, 0, 0), none, some (.multianewarray 454 2, 4, 12, 0), none, none, none, some (.putfield 456, 3, 9, 120), none, none, some (.aload_n 0, 1, 1, 0), some (.sipush 700, 3, 0, 0), none, none, some (.sipush 1000, 3, 0, 0), none, none, some (.multianewarray 454 2, 4, 12, 0), none, none, none, some (.putfield 459, 3, 9, 121), none, none, some (.aload_n 0, 1, 1, 0), some (.sipush 700, 3, 0, 0), none, none, some (.bipush 16, 2, 0, 0), none, some (.multianewarray 454 2, 4, 12, 0), none, none, none, some (.putfield 462, 3, 9, 122), none, none, some (.aload_n 0, 1, 1, 0), some (.bipush 8, 2, 0, 0), none, some (.bipush 40, 2, 0, 0), none, some (.multianewarray 454 2, 4, 12, 0), none, none, none, some (.putfield 465, 3, 9, 123), none, none, some (.aload_n 0, 1, 1, 0), some (.bipush 8, 2, 0, 0), none, some (.newarray .int, 2, 12, 0), none, some (.putfield 468, 3, 9, 124), none, none, some (.return_, 1, 16, 0)]
def tb_M116 : hm_M := (⟨"HandshakeForgeModel", "<init>", "()V"⟩, 14, prog_10_method_40_code, 1, none, tb_c116, [])
set_option maxRecDepth 100000 in
theorem tb_d116_0 : hm_dec tb_M116 0 40 = true := by decide +kernel
set_option maxRecDepth 100000 in
theorem tb_d116_40 : hm_dec tb_M116 40 40 = true := by decide +kernel
set_option maxRecDepth 100000 in
theorem tb_d116_80 : hm_dec tb_M116 80 40 = true := by decide +kernel
set_option maxRecDepth 100000 in
theorem tb_d116_120 : hm_dec tb_M116 120 40 = true := by decide +kernel
set_option maxRecDepth 100000 in
theorem tb_d116_160 : hm_dec tb_M116 160 40 = true := by decide +kernel
set_option maxRecDepth 100000 in
theorem tb_d116_200 : hm_dec tb_M116 200 40 = true := by decide +kernel
set_option maxRecDepth 100000 in
theorem tb_d116_240 : hm_dec tb_M116 240 39 = true := by decide +kernel
set_option maxRecDepth 100000 in
theorem tb_d116 : hm_dec tb_M116 0 279 = true := hm_dec_j (n := 240) (m := 39) (hm_dec_j (n := 200) (m := 40) (hm_dec_j (n := 160) (m := 40) (hm_dec_j (n := 120) (m := 40) (hm_dec_j (n := 80) (m := 40) (hm_dec_j (n := 40) (m := 40) (tb_d116_0) tb_d116_40) tb_d116_80) tb_d116_120) tb_d116_160) tb_d116_200) tb_d116_240
set_option maxRecDepth 100000 in
theorem tb_e116 : (hm_Mi tb_M116).length = 279 := by decide +kernel
-- HandshakeForgeModel$Circuit.<init>()V
set_option maxRecDepth 100000 in
def tb_c117 : List (Option hm_O) := [some (.aload_n 0, 1, 1, 0), some (.invokespecial 3, 3, 15, 11), none, none, some (.aload_n 0, 1, 1, 0), some (.sipush 24000, 3, 0, 0), none, none, some (.newarray .int, 2, 12, 0), none, some (.putfield 9, 3, 9, 125), none, none, some (.aload_n 0, 1, 1, 0), some (.bipush 24, 2, 0, 0), none, some (.newarray .int, 2, 12, 0), none, some (.putfield 15, 3, 9, 126), none, none, some (.aload_n 0, 1, 1, 0), some (.bipush 6, 2, 0, 0), none, some (.newarray .int, 2, 12, 0), none, some (.putfield 18, 3, 9, 127), none, none, some (.aload_n 0, 1, 1, 0), some (.sipush 2000, 3, 0, 0), none, none, some (.newarray .byte, 2, 12, 0), none, some (.putfield 21, 3, 9, 128), none, none, some (.aload_n 0, 1, 1, 0), some (.bipush 100, 2, 0, 0), none, some (.newarray .int, 2, 12, 0), none, some (.putfield 25, 3, 9, 129), none, none, some (.aload_n 0, 1, 1, 0), some (.bipush 100, 2, 0, 0), none, some (.newarray .int, 2, 12, 0), none, some (.putfield 28, 3, 9, 130), none, none, some (.aload_n 0, 1, 1, 0), some (.bipush 100, 2, 0, 0), none, some (.newarray .int, 2, 12, 0), none, some (.putfield 31, 3, 9, 131), none, none, some (.aload_n 0, 1, 1, 0), some (.bipush 100, 2, 0, 0), none, some (.newarray .int, 2, 12, 0), none, some (.putfield 34, 3, 9, 132), none, none, some (.return_, 1, 16, 0)]
def tb_M117 : hm_M := (⟨"HandshakeForgeModel$Circuit", "<init>", "()V"⟩, 15, prog_11_method_1_code, 1, none, tb_c117, [])
set_option maxRecDepth 100000 in
theorem tb_d117_0 : hm_dec tb_M117 0 40 = true := by decide +kernel
set_option maxRecDepth 100000 in
theorem tb_d117_40 : hm_dec tb_M117 40 31 = true := by decide +kernel
set_option maxRecDepth 100000 in
theorem tb_d117 : hm_dec tb_M117 0 71 = true := hm_dec_j (n := 40) (m := 31) (tb_d117_0) tb_d117_40
set_option maxRecDepth 100000 in
theorem tb_e117 : (hm_Mi tb_M117).length = 71 := by decide +kernel
-- HandshakeForgeModel.feed(IIIII)I
set_option maxRecDepth 100000 in
def tb_c118 : List (Option hm_O) := [some (.aload_n 0, 1, 1, 0), some (.getfield 140, 3, 9, 133), none, none, some (.bipush 20, 2, 0, 0), none, some (.iadd, 1, 3, 0), some (.sipush 2000, 3, 0, 0), none, none, some (.if_icmp .le 6, 3, 7, 0), none, none, some (.bipush (-3), 2, 0, 0), none, some (.ireturn, 1, 16, 0), some (.iconst 5, 1, 0, 0), some (.newarray .int, 2, 12, 0), none, some (.dup, 1, 6, 0), some (.iconst 0, 1, 0, 0), some (.iload_n 1, 1, 1, 0), some (.iastore, 1, 11, 1), some (.dup, 1, 6, 0), some (.iconst 1, 1, 0, 0), some (.iload_n 2, 1, 1, 0), some (.iastore, 1, 11, 1), some (.dup, 1, 6, 0), some (.iconst 2, 1, 0, 0), some (.iload_n 3, 1, 1, 0), some (.iastore, 1, 11, 1), some (.dup, 1, 6, 0), some (.iconst 3, 1, 0, 0), some (.iload 4, 2, 1, 0), none, some (.iastore, 1, 11, 1), some (.dup, 1, 6, 0), some (.iconst 4, 1, 0, 0), some (.iload 5, 2, 1, 0), none, some (.iastore, 1, 11, 1), some (.astore 6, 2, 2, 0), none, some (.iconst 0, 1, 0, 0), some (.istore 7, 2, 2, 0), none, some (.iload 7, 2, 1, 0), none, some (.bipush 20, 2, 0, 0), none, some (.if_icmp .ge 40, 3, 7, 0), none, none, some (.aload_n 0, 1, 1, 0), some (.getfield 22, 3, 9, 95), none, none, some (.aload_n 0, 1, 1, 0), some (.getfield 140, 3, 9, 133), none, none, some (.iload 7, 2, 1, 0), none, some (.iadd, 1, 3, 0), some (.aload 6, 2, 1, 0), none, some (.iload 7, 2, 1, 0), none, some (.iconst 4, 1, 0, 0), some (.idiv, 1, 6, 0), some (.iaload, 1, 11, 0), some (.bipush 24, 2, 0, 0), none, some (.bipush 8, 2, 0, 0), none, some (.iload 7, 2, 1, 0), none, some (.iconst 4, 1, 0, 0), some (.irem, 1, 6, 0), some (.imul, 1, 3, 0), some (.isub, 1, 3, 0), some (.ishr, 1, 3, 0), some (.i2b, 1, 5, 0), some (.bastore, 1, 11, 1), some (.iinc 7 1, 3, 6, 0), none, none, some (.goto (-41), 3, 7, 0), none, none, some (.aload_n 0, 1, 1, 0), some (.dup, 1, 6, 0), some (.getfield 140, 3, 9, 133), none, none, some (.bipush 20, 2, 0, 0), none, some (.iadd, 1, 3, 0), some (.putfield 140, 3, 9, 133), none, none, some (.aload_n 0, 1, 1, 0), some (.getfield 140, 3, 9, 133), none, none, some (.ireturn, 1, 16, 0)]
def tb_M118 : hm_M := (⟨"HandshakeForgeModel", "feed", "(IIIII)I"⟩, 14, prog_10_method_41_code, 8, (some .int), tb_c118, [])
set_option maxRecDepth 100000 in
theorem tb_d118_0 : hm_dec tb_M118 0 40 = true := by decide +kernel
set_option maxRecDepth 100000 in
theorem tb_d118_40 : hm_dec tb_M118 40 40 = true := by decide +kernel
set_option maxRecDepth 100000 in
theorem tb_d118_80 : hm_dec tb_M118 80 26 = true := by decide +kernel
set_option maxRecDepth 100000 in
theorem tb_d118 : hm_dec tb_M118 0 106 = true := hm_dec_j (n := 80) (m := 26) (hm_dec_j (n := 40) (m := 40) (tb_d118_0) tb_d118_40) tb_d118_80
set_option maxRecDepth 100000 in
theorem tb_e118 : (hm_Mi tb_M118).length = 106 := by decide +kernel
-- HandshakeForgeModel.end(I)I
set_option maxRecDepth 100000 in
def tb_c119 : List (Option hm_O) := [some (.iload_n 1, 1, 1, 0), some (.i2l, 1, 5, 0), some (.lconst 0, 1, 0, 0), some (.aload_n 0, 1, 1, 0), some (.getfield 140, 3, 9, 133), none, none, some (.i2l, 1, 5, 0), some (.invokestatic 254, 3, 14, 140), none, none, some (.ifCond .ne 5, 3, 7, 0), none, none, some (.iconst (-1), 1, 0, 0), some (.ireturn, 1, 16, 0), some (.aload_n 0, 1, 1, 0), some (.iload_n 1, 1, 1, 0), some (.putfield 140, 3, 9, 133), none, none, some (.iload_n 1, 1, 1, 0), some (.ireturn, 1, 16, 0)]
def tb_M119 : hm_M := (⟨"HandshakeForgeModel", "end", "(I)I"⟩, 14, prog_10_method_42_code, 2, (some .int), tb_c119, [])
set_option maxRecDepth 100000 in
theorem tb_d119 : hm_dec tb_M119 0 23 = true := by decide +kernel
set_option maxRecDepth 100000 in
theorem tb_e119 : (hm_Mi tb_M119).length = 23 := by decide +kernel
-- HandshakeForgeModel.in(JJJ)Z
set_option maxRecDepth 100000 in
def tb_c120 : List (Option hm_O) := [some (.lload_n 0, 1, 1, 0), some (.lload_n 2, 1, 1, 0), some (.lcmp, 1, 6, 0), some (.ifCond .lt 14, 3, 7, 0), none, none, some (.lload_n 0, 1, 1, 0), some (.lload 4, 2, 1, 0), none, some (.lcmp, 1, 6, 0), some (.ifCond .gt 7, 3, 7, 0), none, none, some (.iconst 1, 1, 0, 0), some (.goto 4, 3, 7, 0), none, none, some (.iconst 0, 1, 0, 0), some (.ireturn, 1, 16, 0)]
def tb_M120 : hm_M := (⟨"HandshakeForgeModel", "in", "(JJJ)Z"⟩, 14, prog_10_method_1_code, 6, (some .boolean), tb_c120, [])
set_option maxRecDepth 100000 in
theorem tb_d120 : hm_dec tb_M120 0 19 = true := by decide +kernel
set_option maxRecDepth 100000 in
theorem tb_e120 : (hm_Mi tb_M120).length = 19 := by decide +kernel
-- HandshakeForgeModel.compile()I
set_option maxRecDepth 100000 in
def tb_c121 : List (Option hm_O) := [some (.aload_n 0, 1, 1, 0), some (.invokevirtual 471, 3, 14, 141), none, none, some (.ifCond .ne 8, 3, 7, 0), none, none, some (.aload_n 0, 1, 1, 0), some (.getfield 60, 3, 9, 134), none, none, some (.ireturn, 1, 16, 0), some (.aload_n 0, 1, 1, 0), some (.getfield 425, 3, 9, 101), none, none, some (.astore_n 1, 1, 2, 0), some (.aload_n 0, 1, 1, 0), some (.aload_n 0, 1, 1, 0), some (.getfield 116, 3, 9, 102), none, none, some (.putfield 425, 3, 9, 101), none, none, some (.aload_n 0, 1, 1, 0), some (.aload_n 1, 1, 1, 0), some (.putfield 116, 3, 9, 102), none, none, some (.aload_n 0, 1, 1, 0), some (.iconst 1, 1, 0, 0), some (.putfield 474, 3, 9, 135), none, none, some (.aload_n 0, 1, 1, 0), some (.invokevirtual 477, 3, 14, 142), none, none, some (.pop, 1, 6, 0), some (.bipush (-2), 2, 0, 0), none, some (.ireturn, 1, 16, 0)]
def tb_M121 : hm_M := (⟨"HandshakeForgeModel", "compile", "()I"⟩, 14, prog_10_method_43_code, 2, (some .int), tb_c121, [])
set_option maxRecDepth 100000 in
theorem tb_d121_0 : hm_dec tb_M121 0 40 = true := by decide +kernel
set_option maxRecDepth 100000 in
theorem tb_d121_40 : hm_dec tb_M121 40 3 = true := by decide +kernel
set_option maxRecDepth 100000 in
theorem tb_d121 : hm_dec tb_M121 0 43 = true := hm_dec_j (n := 40) (m := 3) (tb_d121_0) tb_d121_40
set_option maxRecDepth 100000 in
theorem tb_e121 : (hm_Mi tb_M121).length = 43 := by decide +kernel
-- HandshakeForgeModel.read()Z
set_option maxRecDepth 100000 in
def tb_c122 : List (Option hm_O) := [some (.aload_n 0, 1, 1, 0), some (.aload_n 0, 1, 1, 0), some (.getfield 116, 3, 9, 102), none, none, some (.putfield 98, 3, 9, 136), none, none, some (.aload_n 0, 1, 1, 0), some (.getfield 98, 3, 9, 136), none, none, some (.iconst 0, 1, 0, 0), some (.putfield 106, 3, 9, 137), none, none, some (.aload_n 0, 1, 1, 0), some (.getfield 98, 3, 9, 136), none, none, some (.iconst 0, 1, 0, 0), some (.putfield 113, 3, 9, 138), none, none, some (.aload_n 0, 1, 1, 0), some (.getfield 98, 3, 9, 136), none, none, some (.iconst 0, 1, 0, 0), some (.putfield 119, 3, 9, 139), none, none, some (.aload_n 0, 1, 1, 0), some (.getfield 98, 3, 9, 136), none, none, some (.iconst 0, 1, 0, 0), some (.putfield 122, 3, 9, 140), none, none, some (.aload_n 0, 1, 1, 0), some (.getfield 98, 3, 9, 136), none, none, some (.iconst 0, 1, 0, 0), some (.putfield 125, 3, 9, 141), none, none, some (.aload_n 0, 1, 1, 0), some (.getfield 98, 3, 9, 136), none, none, some (.iconst 0, 1, 0, 0), some (.putfield 128, 3, 9, 142), none, none, some (.aload_n 0, 1, 1, 0), some (.getfield 98, 3, 9, 136), none, none, some (.iconst 0, 1, 0, 0), some (.putfield 131, 3, 9, 143), none, none, some (.aload_n 0, 1, 1, 0), some (.getfield 98, 3, 9, 136), none, none, some (.iconst 0, 1, 0, 0), some (.putfield 134, 3, 9, 144), none, none, some (.aload_n 0, 1, 1, 0), some (.getfield 98, 3, 9, 136), none, none, some (.iconst 0, 1, 0, 0), some (.putfield 137, 3, 9, 145), none, none, some (.aload_n 0, 1, 1, 0), some (.aload_n 0, 1, 1, 0), some (.getfield 140, 3, 9, 133), none, none, some (.putfield 29, 3, 9, 146), none, none, some (.aload_n 0, 1, 1, 0), some (.iconst 0, 1, 0, 0), some (.putfield 140, 3, 9, 133), none, none, some (.aload_n 0, 1, 1, 0), some (.iconst 0, 1, 0, 0), some (.putfield 26, 3, 9, 147), none, none, some (.aload_n 0, 1, 1, 0), some (.iconst (-1), 1, 0, 0), some (.putfield 60, 3, 9, 134), none, none, some (.aload_n 0, 1, 1, 0), some (.iconst (-1), 1, 0, 0), some (.putfield 143, 3, 9, 148), none, none, some (.aload_n 0, 1, 1, 0), some (.iconst 0, 1, 0, 0), some (.putfield 73, 3, 9, 149), none, none, some (.aload_n 0, 1, 1, 0), some (.iconst 0, 1, 0, 0), some (.putfield 89, 3, 9, 150), none, none, some (.aload_n 0, 1, 1, 0), some (.iconst 1, 1, 0, 0), some (.putfield 146, 3, 9, 151), none, none, some (.aload_n 0, 1, 1, 0), some (.iconst (-1), 1, 0, 0), some (.putfield 149, 3, 9, 152), none, none, some (.aload_n 0, 1, 1, 0), some (.iconst 0, 1, 0, 0), some (.putfield 152, 3, 9, 153), none, none, some (.aload_n 0, 1, 1, 0), some (.iconst 0, 1, 0, 0), some (.putfield 156, 3, 9, 154), none, none, some (.aload_n 0, 1, 1, 0), some (.invokevirtual 69, 3, 14, 143), none, none, some (.aload_n 0, 1, 1, 0), some (.ldc 159, 2, 18, 1), none, some (.invokevirtual 63, 3, 14, 144), none, none, some (.ifCond .ne 66, 3, 7, 0), none, none, some (.aload_n 0, 1, 1, 0), some (.ldc 161, 2, 18, 2), none, some (.invokevirtual 63, 3, 14, 144), none, none, some (.ifCond .ne 57, 3, 7, 0), none, none, some (.aload_n 0, 1, 1, 0), some (.ldc 163, 2, 18, 3), none, some (.invokevirtual 63, 3, 14, 144), none, none, some (.ifCond .ne 48, 3, 7, 0), none, none, some (.aload_n 0, 1, 1, 0), some (.ldc 165, 2, 18, 4), none, some (.invokevirtual 63, 3, 14, 144), none, none, some (.ifCond .ne 39, 3, 7, 0), none, none, some (.aload_n 0, 1, 1, 0), some (.ldc 167, 2, 18, 5), none, some (.invokevirtual 63, 3, 14, 144), none, none, some (.ifCond .ne 30, 3, 7, 0), none, none, some (.aload_n 0, 1, 1, 0), some (.ldc 169, 2, 18, 6), none, some (.invokevirtual 63, 3, 14, 144), none, none, some (.ifCond .ne 21, 3, 7, 0), none, none, some (.aload_n 0, 1, 1, 0), some (.ldc 171, 2, 18, 7), none, some (.invokevirtual 63, 3, 14, 144), none, none, some (.ifCond .ne 12, 3, 7, 0), none, none, some (.aload_n 0, 1, 1, 0), some (.ldc 173, 2, 18, 8), none, some (.invokevirtual 63, 3, 14, 144), none, none, some (.ifCond .eq 12, 3, 7, 0), none, none, some (.aload_n 0, 1, 1, 0), some (.invokevirtual 174, 3, 14, 145), none, none, some (.ifCond .ne (-76), 3, 7, 0), none, none, some (.iconst 0, 1, 0, 0), some (.ireturn, 1, 16, 0), some (.aload_n 0, 1, 1, 0), some (.getfield 98, 3, 9, 136), none, none, some (.iconst 0, 1, 0, 0), some (.putfield 177, 3, 9, 155), none, none, some (.iconst 0, 1, 0, 0), some (.istore_n 1, 1, 2, 0), some (.iload_n 1, 1, 1, 0), some (.aload_n 0, 1, 1, 0), some (.getfield 73, 3, 9, 149), none, none, some (.if_icmp .ge 119, 3, 7, 0), none, none, some (.aload_n 0, 1, 1, 0), some (.getfield 92, 3, 9, 98), none, none, some (.iload_n 1, 1, 1, 0), some (.iaload, 1, 11, 0), some (.iconst 1, 1, 0, 0), some (.if_icmp .le 6, 3, 7, 0), none, none, some (.goto 100, 3, 7, 0), none, none, some (.aload_n 0, 1, 1, 0), some (.getfield 98, 3, 9, 136), none, none, some (.getfield 180, 3, 9, 156), none, none, some (.aload_n 0, 1, 1, 0), some (.getfield 98, 3, 9, 136), none, none, some (.getfield 177, 3, 9, 155), none, none, some (.aload_n 0, 1, 1, 0), some (.getfield 80, 3, 9, 96), none, none, some (.iload_n 1, 1, 1, 0), some (.iaload, 1, 11, 0), some (.iastore, 1, 11, 1), some (.aload_n 0, 1, 1, 0), some (.getfield 98, 3, 9, 136), none, none, some (.getfield 183, 3, 9, 157), none, none, some (.aload_n 0, 1, 1, 0), some (.getfield 98, 3, 9, 136), none, none, some (.getfield 177, 3, 9, 155), none, none, some (.aload_n 0, 1, 1, 0), some (.getfield 76, 3, 9, 97), none, none, some (.iload_n 1, 1, 1, 0), some (.iaload, 1, 11, 0), some (.iastore, 1, 11, 1), some (.aload_n 0, 1, 1, 0), some (.getfield 98, 3, 9, 136), none, none, some (.getfield 186, 3, 9, 158), none, none, some (.aload_n 0, 1, 1, 0), some (.getfield 98, 3, 9, 136), none, none, some (.getfield 177, 3, 9, 155), none, none, some (.aload_n 0, 1, 1, 0), some (.getfield 92, 3, 9, 98), none, none, some (.iload_n 1, 1, 1, 0), some (.iaload, 1, 11, 0), some (.iastore, 1, 11, 1), some (.aload_n 0, 1, 1, 0), some (.getfield 98, 3, 9, 136), none, none, some (.getfield 189, 3, 9, 159), none, none, some (.aload_n 0, 1, 1, 0), some (.getfield 98, 3, 9, 136), none, none, some (.getfield 177, 3, 9, 155), none, none, some (.aload_n 0, 1, 1, 0), some (.getfield 95, 3, 9, 99), none, none, some (.iload_n 1, 1, 1, 0), some (.iaload, 1, 11, 0), some (.iastore, 1, 11, 1), some (.aload_n 0, 1, 1, 0), some (.getfield 98, 3, 9, 136), none, none, some (.dup, 1, 6, 0), some (.getfield 177, 3, 9, 155), none, none, some (.iconst 1, 1, 0, 0), some (.iadd, 1, 3, 0), some (.putfield 177, 3, 9, 155), none, none, some (.iinc 1 1, 3, 6, 0), none, none, some (.goto (-121), 3, 7, 0), none, none, some (.aload_n 0, 1, 1, 0), some (.getfield 22, 3, 9, 95), none, none, some (.iconst 0, 1, 0, 0), some (.aload_n 0, 1, 1, 0), some (.getfield 98, 3, 9, 136), none, none, some (.getfield 192, 3, 9, 160), none, none, some (.iconst 0, 1, 0, 0), some (.aload_n 0, 1, 1, 0), some (.getfield 29, 3, 9, 146), none, none, some (.invokestatic 195, 3, 15, 12), none, none, some (.aload_n 0, 1, 1, 0), some (.getfield 98, 3, 9, 136), none, none, some (.aload_n 0, 1, 1, 0), some (.getfield 98, 3, 9, 136), none, none, some (.getfield 106, 3, 9, 137), none, none, some (.putfield 201, 3, 9, 161), none, none, some (.aload_n 0, 1, 1, 0), some (.invokevirtual 204, 3, 14, 146), none, none, some (.aload_n 0, 1, 1, 0), some (.invokevirtual 207, 3, 14, 147), none, none, some (.aload_n 0, 1, 1, 0), some (.iconst 0, 1, 0, 0), some (.invokevirtual 210, 3, 14, 148), none, none, some (.ifCond .ne 5, 3, 7, 0), none, none, some (.iconst 0, 1, 0, 0), some (.ireturn, 1, 16, 0), some (.aload_n 0, 1, 1, 0), some (.bipush 21, 2, 0, 0), none, some (.invokevirtual 109, 3, 14, 149), none, none, some (.pop, 1, 6, 0), some (.aload_n 0, 1, 1, 0), some (.getfield 32, 3, 9, 162), none, none, some (.ifCond .eq 8, 3, 7, 0), none, none, some (.aload_n 0, 1, 1, 0), some (.invokevirtual 67, 3, 14, 150), none, none, some (.ireturn, 1, 16, 0), some (.aload_n 0, 1, 1, 0), some (.getfield 143, 3, 9, 148), none, none, some (.ifCond .lt 14, 3, 7, 0), none, none, some (.aload_n 0, 1, 1, 0), some (.aload_n 0, 1, 1, 0), some (.getfield 143, 3, 9, 148), none, none, some (.invokevirtual 57, 3, 14, 151), none, none, some (.ifCond .eq 7, 3, 7, 0), none, none, some (.iconst 1, 1, 0, 0), some (.goto 4, 3, 7, 0), none, none, some (.iconst 0, 1, 0, 0), some (.ireturn, 1, 16, 0)]
def tb_M122 : hm_M := (⟨"HandshakeForgeModel", "read", "()Z"⟩, 14, prog_10_method_15_code, 2, (some .boolean), tb_c122, [])
set_option maxRecDepth 100000 in
theorem tb_d122_0 : hm_dec tb_M122 0 40 = true := by decide +kernel
set_option maxRecDepth 100000 in
theorem tb_d122_40 : hm_dec tb_M122 40 40 = true := by decide +kernel
set_option maxRecDepth 100000 in
theorem tb_d122_80 : hm_dec tb_M122 80 40 = true := by decide +kernel
set_option maxRecDepth 100000 in
theorem tb_d122_120 : hm_dec tb_M122 120 40 = true := by decide +kernel
set_option maxRecDepth 100000 in
theorem tb_d122_160 : hm_dec tb_M122 160 40 = true := by decide +kernel
set_option maxRecDepth 100000 in
theorem tb_d122_200 : hm_dec tb_M122 200 40 = true := by decide +kernel
set_option maxRecDepth 100000 in
theorem tb_d122_240 : hm_dec tb_M122 240 40 = true := by decide +kernel
set_option maxRecDepth 100000 in
theorem tb_d122_280 : hm_dec tb_M122 280 40 = true := by decide +kernel
set_option maxRecDepth 100000 in
theorem tb_d122_320 : hm_dec tb_M122 320 40 = true := by decide +kernel
set_option maxRecDepth 100000 in
theorem tb_d122_360 : hm_dec tb_M122 360 40 = true := by decide +kernel
set_option maxRecDepth 100000 in
theorem tb_d122_400 : hm_dec tb_M122 400 40 = true := by decide +kernel
set_option maxRecDepth 100000 in
theorem tb_d122_440 : hm_dec tb_M122 440 12 = true := by decide +kernel
set_option maxRecDepth 100000 in
theorem tb_d122 : hm_dec tb_M122 0 452 = true := hm_dec_j (n := 440) (m := 12) (hm_dec_j (n := 400) (m := 40) (hm_dec_j (n := 360) (m := 40) (hm_dec_j (n := 320) (m := 40) (hm_dec_j (n := 280) (m := 40) (hm_dec_j (n := 240) (m := 40) (hm_dec_j (n := 200) (m := 40) (hm_dec_j (n := 160) (m := 40) (hm_dec_j (n := 120) (m := 40) (hm_dec_j (n := 80) (m := 40) (hm_dec_j (n := 40) (m := 40) (tb_d122_0) tb_d122_40) tb_d122_80) tb_d122_120) tb_d122_160) tb_d122_200) tb_d122_240) tb_d122_280) tb_d122_320) tb_d122_360) tb_d122_400) tb_d122_440
set_option maxRecDepth 100000 in
theorem tb_e122 : (hm_Mi tb_M122).length = 452 := by decide +kernel
