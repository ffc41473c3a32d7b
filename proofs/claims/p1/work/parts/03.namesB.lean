theorem dX7_init_0 : decode cX7_init 0 = .ok (.aload_n 0, 1) := by decide +kernel
theorem dX7_init_1 : decode cX7_init 1 = .ok (.invokespecial 3, 3) := by decide +kernel
theorem dX7_init_4 : decode cX7_init 4 = .ok (.aload_n 0, 1) := by decide +kernel
theorem dX7_init_5 : decode cX7_init 5 = .ok (.bipush 30, 2) := by decide +kernel
theorem dX7_init_7 : decode cX7_init 7 = .ok (.newarray .int, 2) := by decide +kernel
theorem dX7_init_9 : decode cX7_init 9 = .ok (.putfield 9, 3) := by decide +kernel
theorem dX7_init_12 : decode cX7_init 12 = .ok (.aload_n 0, 1) := by decide +kernel
theorem dX7_init_13 : decode cX7_init 13 = .ok (.bipush 30, 2) := by decide +kernel
theorem dX7_init_15 : decode cX7_init 15 = .ok (.newarray .int, 2) := by decide +kernel
theorem dX7_init_17 : decode cX7_init 17 = .ok (.putfield 15, 3) := by decide +kernel
theorem dX7_init_20 : decode cX7_init 20 = .ok (.aload_n 0, 1) := by decide +kernel
theorem dX7_init_21 : decode cX7_init 21 = .ok (.bipush 30, 2) := by decide +kernel
theorem dX7_init_23 : decode cX7_init 23 = .ok (.newarray .int, 2) := by decide +kernel
theorem dX7_init_25 : decode cX7_init 25 = .ok (.putfield 18, 3) := by decide +kernel
theorem dX7_init_28 : decode cX7_init 28 = .ok (.aload_n 0, 1) := by decide +kernel
theorem dX7_init_29 : decode cX7_init 29 = .ok (.bipush 30, 2) := by decide +kernel
theorem dX7_init_31 : decode cX7_init 31 = .ok (.newarray .int, 2) := by decide +kernel
theorem dX7_init_33 : decode cX7_init 33 = .ok (.putfield 21, 3) := by decide +kernel
theorem dX7_init_36 : decode cX7_init 36 = .ok (.aload_n 0, 1) := by decide +kernel
theorem dX7_init_37 : decode cX7_init 37 = .ok (.bipush 30, 2) := by decide +kernel
theorem dX7_init_39 : decode cX7_init 39 = .ok (.newarray .int, 2) := by decide +kernel
theorem dX7_init_41 : decode cX7_init 41 = .ok (.putfield 24, 3) := by decide +kernel
theorem dX7_init_44 : decode cX7_init 44 = .ok (.aload_n 0, 1) := by decide +kernel
theorem dX7_init_45 : decode cX7_init 45 = .ok (.bipush 30, 2) := by decide +kernel
theorem dX7_init_47 : decode cX7_init 47 = .ok (.newarray .int, 2) := by decide +kernel
theorem dX7_init_49 : decode cX7_init 49 = .ok (.putfield 27, 3) := by decide +kernel
theorem dX7_init_52 : decode cX7_init 52 = .ok (.aload_n 0, 1) := by decide +kernel
theorem dX7_init_53 : decode cX7_init 53 = .ok (.bipush 30, 2) := by decide +kernel
theorem dX7_init_55 : decode cX7_init 55 = .ok (.newarray .int, 2) := by decide +kernel
theorem dX7_init_57 : decode cX7_init 57 = .ok (.putfield 30, 3) := by decide +kernel
theorem dX7_init_60 : decode cX7_init 60 = .ok (.aload_n 0, 1) := by decide +kernel
theorem dX7_init_61 : decode cX7_init 61 = .ok (.bipush 30, 2) := by decide +kernel
theorem dX7_init_63 : decode cX7_init 63 = .ok (.newarray .int, 2) := by decide +kernel
theorem dX7_init_65 : decode cX7_init 65 = .ok (.putfield 33, 3) := by decide +kernel
theorem dX7_init_68 : decode cX7_init 68 = .ok (.return_, 1) := by decide +kernel
set_option maxRecDepth 20000 in
theorem ggX7_read_X10_at : GoodIn wsX7_read wsX10_at := goodIn_r _ [10] (by decide +kernel) (by decide +kernel)
set_option maxRecDepth 20000 in
theorem gX7_read_X10_at_n40 : GoodIn wsX7_read (wsX10_at) := ggX7_read_X10_at
set_option maxRecDepth 20000 in
theorem ggX7_read_X7_endFrom : GoodIn wsX7_read wsX7_endFrom := goodIn_r _ [14, 15, 16, 6, 17, 8, 9, 10] (by decide +kernel) (by decide +kernel)
set_option maxRecDepth 20000 in
theorem gX7_read_X7_endFrom : GoodIn wsX7_read (va_wsS RX7 47 yX7_endFrom wsX7_endFrom) := goodIn_app (goodIn_of _ (by decide +kernel)) ggX7_read_X7_endFrom
set_option maxRecDepth 20000 in
theorem ggX7_read_X7_addEvent : GoodIn wsX7_read wsX7_addEvent := goodIn_r _ [21, 1, 22, 23, 24, 25, 3, 26, 27, 28, 8, 9, 10, 29, 30, 31, 32, 13, 33, 4, 5, 6, 7, 34, 35, 36, 37, 38, 39, 40, 41, 42, 43] (by decide +kernel) (by decide +kernel)
set_option maxRecDepth 20000 in
theorem gX7_read_X7_addEvent : GoodIn wsX7_read (wsV RX7 51 RX7 yX7_addEvent wsX7_addEvent) := goodIn_app (goodIn_of _ (by decide +kernel)) ggX7_read_X7_addEvent
set_option maxRecDepth 20000 in
theorem ggX7_read_X10_put : GoodIn wsX7_read wsX10_put := goodIn_r _ [30] (by decide +kernel) (by decide +kernel)
set_option maxRecDepth 20000 in
theorem gX7_read_X10_put_n55 : GoodIn wsX7_read (wsX10_put) := ggX7_read_X10_put
theorem dX7_read_0 : decode cX7_read 0 = .ok (.aload_n 0, 1) := by decide +kernel
theorem dX7_read_1 : decode cX7_read 1 = .ok (.iconst 0, 1) := by decide +kernel
theorem dX7_read_2 : decode cX7_read 2 = .ok (.putfield 36, 3) := by decide +kernel
theorem dX7_read_5 : decode cX7_read 5 = .ok (.aload_n 0, 1) := by decide +kernel
theorem dX7_read_6 : decode cX7_read 6 = .ok (.aload_n 3, 1) := by decide +kernel
theorem dX7_read_7 : decode cX7_read 7 = .ok (.bipush 9, 2) := by decide +kernel
theorem dX7_read_9 : decode cX7_read 9 = .ok (.invokestatic 40, 3) := by decide +kernel
theorem dX7_read_12 : decode cX7_read 12 = .ok (.putfield 44, 3) := by decide +kernel
theorem dX7_read_15 : decode cX7_read 15 = .ok (.iconst 0, 1) := by decide +kernel
theorem dX7_read_16 : decode cX7_read 16 = .ok (.istore 4, 2) := by decide +kernel
theorem dX7_read_18 : decode cX7_read 18 = .ok (.iconst 1, 1) := by decide +kernel
theorem dX7_read_19 : decode cX7_read 19 = .ok (.istore 5, 2) := by decide +kernel
theorem dX7_read_21 : decode cX7_read 21 = .ok (.iload 5, 2) := by decide +kernel
theorem dX7_read_23 : decode cX7_read 23 = .ok (.iload_n 2, 1) := by decide +kernel
theorem dX7_read_24 : decode cX7_read 24 = .ok (.if_icmp .ge 189, 3) := by decide +kernel
theorem dX7_read_27 : decode cX7_read 27 = .ok (.aload_n 0, 1) := by decide +kernel
theorem dX7_read_28 : decode cX7_read 28 = .ok (.getfield 36, 3) := by decide +kernel
theorem dX7_read_31 : decode cX7_read 31 = .ok (.bipush 30, 2) := by decide +kernel
theorem dX7_read_33 : decode cX7_read 33 = .ok (.if_icmp .ge 180, 3) := by decide +kernel
theorem dX7_read_36 : decode cX7_read 36 = .ok (.iload 4, 2) := by decide +kernel
theorem dX7_read_38 : decode cX7_read 38 = .ok (.ifCond .ne 175, 3) := by decide +kernel
theorem dX7_read_41 : decode cX7_read 41 = .ok (.aload_n 1, 1) := by decide +kernel
theorem dX7_read_42 : decode cX7_read 42 = .ok (.iload 5, 2) := by decide +kernel
theorem dX7_read_44 : decode cX7_read 44 = .ok (.invokestatic 40, 3) := by decide +kernel
theorem dX7_read_47 : decode cX7_read 47 = .ok (.aload_n 1, 1) := by decide +kernel
theorem dX7_read_48 : decode cX7_read 48 = .ok (.iload 5, 2) := by decide +kernel
theorem dX7_read_50 : decode cX7_read 50 = .ok (.iconst 1, 1) := by decide +kernel
theorem dX7_read_51 : decode cX7_read 51 = .ok (.isub, 1) := by decide +kernel
theorem dX7_read_52 : decode cX7_read 52 = .ok (.invokestatic 40, 3) := by decide +kernel
theorem dX7_read_55 : decode cX7_read 55 = .ok (.isub, 1) := by decide +kernel
theorem dX7_read_56 : decode cX7_read 56 = .ok (.istore 6, 2) := by decide +kernel
theorem dX7_read_58 : decode cX7_read 58 = .ok (.iload 6, 2) := by decide +kernel
theorem dX7_read_60 : decode cX7_read 60 = .ok (.aload_n 3, 1) := by decide +kernel
theorem dX7_read_61 : decode cX7_read 61 = .ok (.bipush 6, 2) := by decide +kernel
theorem dX7_read_63 : decode cX7_read 63 = .ok (.invokestatic 40, 3) := by decide +kernel
theorem dX7_read_66 : decode cX7_read 66 = .ok (.if_icmp .lt 7, 3) := by decide +kernel
theorem dX7_read_69 : decode cX7_read 69 = .ok (.iconst 1, 1) := by decide +kernel
theorem dX7_read_70 : decode cX7_read 70 = .ok (.goto 4, 3) := by decide +kernel
theorem dX7_read_73 : decode cX7_read 73 = .ok (.iconst 0, 1) := by decide +kernel
theorem dX7_read_74 : decode cX7_read 74 = .ok (.istore 7, 2) := by decide +kernel
theorem dX7_read_76 : decode cX7_read 76 = .ok (.iload 7, 2) := by decide +kernel
theorem dX7_read_78 : decode cX7_read 78 = .ok (.ifCond .ne 15, 3) := by decide +kernel
theorem dX7_read_81 : decode cX7_read 81 = .ok (.iload 6, 2) := by decide +kernel
theorem dX7_read_83 : decode cX7_read 83 = .ok (.ineg, 1) := by decide +kernel
theorem dX7_read_84 : decode cX7_read 84 = .ok (.aload_n 3, 1) := by decide +kernel
theorem dX7_read_85 : decode cX7_read 85 = .ok (.bipush 7, 2) := by decide +kernel
theorem dX7_read_87 : decode cX7_read 87 = .ok (.invokestatic 40, 3) := by decide +kernel
theorem dX7_read_90 : decode cX7_read 90 = .ok (.if_icmp .le 117, 3) := by decide +kernel
theorem dX7_read_93 : decode cX7_read 93 = .ok (.iload 7, 2) := by decide +kernel
theorem dX7_read_95 : decode cX7_read 95 = .ok (.ifCond .eq 16, 3) := by decide +kernel
theorem dX7_read_98 : decode cX7_read 98 = .ok (.iload 5, 2) := by decide +kernel
theorem dX7_read_100 : decode cX7_read 100 = .ok (.aload_n 3, 1) := by decide +kernel
theorem dX7_read_101 : decode cX7_read 101 = .ok (.iconst 0, 1) := by decide +kernel
theorem dX7_read_102 : decode cX7_read 102 = .ok (.invokestatic 40, 3) := by decide +kernel
theorem dX7_read_105 : decode cX7_read 105 = .ok (.iadd, 1) := by decide +kernel
theorem dX7_read_106 : decode cX7_read 106 = .ok (.iconst 1, 1) := by decide +kernel
theorem dX7_read_107 : decode cX7_read 107 = .ok (.isub, 1) := by decide +kernel
theorem dX7_read_108 : decode cX7_read 108 = .ok (.goto 5, 3) := by decide +kernel
theorem dX7_read_111 : decode cX7_read 111 = .ok (.iload 5, 2) := by decide +kernel
theorem dX7_read_113 : decode cX7_read 113 = .ok (.istore 8, 2) := by decide +kernel
theorem dX7_read_115 : decode cX7_read 115 = .ok (.aload_n 1, 1) := by decide +kernel
theorem dX7_read_116 : decode cX7_read 116 = .ok (.iload_n 2, 1) := by decide +kernel
theorem dX7_read_117 : decode cX7_read 117 = .ok (.iload 8, 2) := by decide +kernel
theorem dX7_read_119 : decode cX7_read 119 = .ok (.aload_n 3, 1) := by decide +kernel
theorem dX7_read_120 : decode cX7_read 120 = .ok (.bipush 7, 2) := by decide +kernel
theorem dX7_read_122 : decode cX7_read 122 = .ok (.invokestatic 40, 3) := by decide +kernel
theorem dX7_read_125 : decode cX7_read 125 = .ok (.invokestatic 47, 3) := by decide +kernel
theorem dX7_read_128 : decode cX7_read 128 = .ok (.istore 9, 2) := by decide +kernel
theorem dX7_read_130 : decode cX7_read 130 = .ok (.aload_n 1, 1) := by decide +kernel
theorem dX7_read_131 : decode cX7_read 131 = .ok (.iload 9, 2) := by decide +kernel
theorem dX7_read_133 : decode cX7_read 133 = .ok (.invokestatic 40, 3) := by decide +kernel
theorem dX7_read_136 : decode cX7_read 136 = .ok (.aload_n 3, 1) := by decide +kernel
theorem dX7_read_137 : decode cX7_read 137 = .ok (.bipush 8, 2) := by decide +kernel
theorem dX7_read_139 : decode cX7_read 139 = .ok (.invokestatic 40, 3) := by decide +kernel
theorem dX7_read_142 : decode cX7_read 142 = .ok (.if_icmp .ge 7, 3) := by decide +kernel
theorem dX7_read_145 : decode cX7_read 145 = .ok (.iconst 1, 1) := by decide +kernel
theorem dX7_read_146 : decode cX7_read 146 = .ok (.goto 4, 3) := by decide +kernel
theorem dX7_read_149 : decode cX7_read 149 = .ok (.iconst 0, 1) := by decide +kernel
theorem dX7_read_150 : decode cX7_read 150 = .ok (.istore 4, 2) := by decide +kernel
theorem dX7_read_152 : decode cX7_read 152 = .ok (.aload_n 0, 1) := by decide +kernel
theorem dX7_read_153 : decode cX7_read 153 = .ok (.aload_n 1, 1) := by decide +kernel
theorem dX7_read_154 : decode cX7_read 154 = .ok (.iload 5, 2) := by decide +kernel
theorem dX7_read_156 : decode cX7_read 156 = .ok (.iload 9, 2) := by decide +kernel
theorem dX7_read_158 : decode cX7_read 158 = .ok (.iload 7, 2) := by decide +kernel
theorem dX7_read_160 : decode cX7_read 160 = .ok (.invokevirtual 51, 3) := by decide +kernel
theorem dX7_read_163 : decode cX7_read 163 = .ok (.aload_n 0, 1) := by decide +kernel
theorem dX7_read_164 : decode cX7_read 164 = .ok (.getfield 24, 3) := by decide +kernel
theorem dX7_read_167 : decode cX7_read 167 = .ok (.aload_n 0, 1) := by decide +kernel
theorem dX7_read_168 : decode cX7_read 168 = .ok (.getfield 36, 3) := by decide +kernel
theorem dX7_read_171 : decode cX7_read 171 = .ok (.iconst 1, 1) := by decide +kernel
theorem dX7_read_172 : decode cX7_read 172 = .ok (.isub, 1) := by decide +kernel
theorem dX7_read_173 : decode cX7_read 173 = .ok (.iload 4, 2) := by decide +kernel
theorem dX7_read_175 : decode cX7_read 175 = .ok (.ifCond .eq 7, 3) := by decide +kernel
theorem dX7_read_178 : decode cX7_read 178 = .ok (.iconst 3, 1) := by decide +kernel
theorem dX7_read_179 : decode cX7_read 179 = .ok (.goto 16, 3) := by decide +kernel
theorem dX7_read_182 : decode cX7_read 182 = .ok (.aload_n 0, 1) := by decide +kernel
theorem dX7_read_183 : decode cX7_read 183 = .ok (.getfield 24, 3) := by decide +kernel
theorem dX7_read_186 : decode cX7_read 186 = .ok (.aload_n 0, 1) := by decide +kernel
theorem dX7_read_187 : decode cX7_read 187 = .ok (.getfield 36, 3) := by decide +kernel
theorem dX7_read_190 : decode cX7_read 190 = .ok (.iconst 1, 1) := by decide +kernel
theorem dX7_read_191 : decode cX7_read 191 = .ok (.isub, 1) := by decide +kernel
theorem dX7_read_192 : decode cX7_read 192 = .ok (.invokestatic 40, 3) := by decide +kernel
theorem dX7_read_195 : decode cX7_read 195 = .ok (.invokestatic 55, 3) := by decide +kernel
theorem dX7_read_198 : decode cX7_read 198 = .ok (.iload 5, 2) := by decide +kernel
theorem dX7_read_200 : decode cX7_read 200 = .ok (.iload 9, 2) := by decide +kernel
theorem dX7_read_202 : decode cX7_read 202 = .ok (.invokestatic 59, 3) := by decide +kernel
theorem dX7_read_205 : decode cX7_read 205 = .ok (.istore 5, 2) := by decide +kernel
theorem dX7_read_207 : decode cX7_read 207 = .ok (.iinc 5 1, 3) := by decide +kernel
theorem dX7_read_210 : decode cX7_read 210 = .ok (.goto (-189), 3) := by decide +kernel
theorem dX7_read_213 : decode cX7_read 213 = .ok (.return_, 1) := by decide +kernel
set_option maxRecDepth 20000 in
theorem ggX7_endFrom_X10_at : GoodIn wsX7_endFrom wsX10_at := goodIn_r _ [7] (by decide +kernel) (by decide +kernel)
set_option maxRecDepth 20000 in
theorem gX7_endFrom_X10_at_n40 : GoodIn wsX7_endFrom (wsX10_at) := ggX7_endFrom_X10_at
theorem dX7_endFrom_0 : decode cX7_endFrom 0 = .ok (.iload_n 2, 1) := by decide +kernel
theorem dX7_endFrom_1 : decode cX7_endFrom 1 = .ok (.istore 4, 2) := by decide +kernel
theorem dX7_endFrom_3 : decode cX7_endFrom 3 = .ok (.iload 4, 2) := by decide +kernel
theorem dX7_endFrom_5 : decode cX7_endFrom 5 = .ok (.iload_n 1, 1) := by decide +kernel
theorem dX7_endFrom_6 : decode cX7_endFrom 6 = .ok (.iconst 1, 1) := by decide +kernel
theorem dX7_endFrom_7 : decode cX7_endFrom 7 = .ok (.isub, 1) := by decide +kernel
theorem dX7_endFrom_8 : decode cX7_endFrom 8 = .ok (.if_icmp .ge 34, 3) := by decide +kernel
theorem dX7_endFrom_11 : decode cX7_endFrom 11 = .ok (.aload_n 0, 1) := by decide +kernel
theorem dX7_endFrom_12 : decode cX7_endFrom 12 = .ok (.iload 4, 2) := by decide +kernel
theorem dX7_endFrom_14 : decode cX7_endFrom 14 = .ok (.iconst 1, 1) := by decide +kernel
theorem dX7_endFrom_15 : decode cX7_endFrom 15 = .ok (.iadd, 1) := by decide +kernel
theorem dX7_endFrom_16 : decode cX7_endFrom 16 = .ok (.invokestatic 40, 3) := by decide +kernel
theorem dX7_endFrom_19 : decode cX7_endFrom 19 = .ok (.aload_n 0, 1) := by decide +kernel
theorem dX7_endFrom_20 : decode cX7_endFrom 20 = .ok (.iload 4, 2) := by decide +kernel
theorem dX7_endFrom_22 : decode cX7_endFrom 22 = .ok (.invokestatic 40, 3) := by decide +kernel
theorem dX7_endFrom_25 : decode cX7_endFrom 25 = .ok (.isub, 1) := by decide +kernel
theorem dX7_endFrom_26 : decode cX7_endFrom 26 = .ok (.invokestatic 65, 3) := by decide +kernel
theorem dX7_endFrom_29 : decode cX7_endFrom 29 = .ok (.iload_n 3, 1) := by decide +kernel
theorem dX7_endFrom_30 : decode cX7_endFrom 30 = .ok (.if_icmp .gt 6, 3) := by decide +kernel
theorem dX7_endFrom_33 : decode cX7_endFrom 33 = .ok (.iload 4, 2) := by decide +kernel
theorem dX7_endFrom_35 : decode cX7_endFrom 35 = .ok (.ireturn, 1) := by decide +kernel
theorem dX7_endFrom_36 : decode cX7_endFrom 36 = .ok (.iinc 4 1, 3) := by decide +kernel
theorem dX7_endFrom_39 : decode cX7_endFrom 39 = .ok (.goto (-36), 3) := by decide +kernel
theorem dX7_endFrom_42 : decode cX7_endFrom 42 = .ok (.iload_n 1, 1) := by decide +kernel
theorem dX7_endFrom_43 : decode cX7_endFrom 43 = .ok (.iconst 1, 1) := by decide +kernel
theorem dX7_endFrom_44 : decode cX7_endFrom 44 = .ok (.isub, 1) := by decide +kernel
theorem dX7_endFrom_45 : decode cX7_endFrom 45 = .ok (.ireturn, 1) := by decide +kernel
set_option maxRecDepth 20000 in
theorem ggX7_addEvent_X10_at : GoodIn wsX7_addEvent wsX10_at := goodIn_r _ [12] (by decide +kernel) (by decide +kernel)
set_option maxRecDepth 20000 in
theorem gX7_addEvent_X10_at_n40 : GoodIn wsX7_addEvent (wsX10_at) := ggX7_addEvent_X10_at
set_option maxRecDepth 20000 in
theorem ggX7_addEvent_X10_put : GoodIn wsX7_addEvent wsX10_put := goodIn_r _ [14] (by decide +kernel) (by decide +kernel)
set_option maxRecDepth 20000 in
theorem gX7_addEvent_X10_put_n55 : GoodIn wsX7_addEvent (wsX10_put) := ggX7_addEvent_X10_put
set_option maxRecDepth 20000 in
theorem ggX7_addEvent_X7_greatestOf : GoodIn wsX7_addEvent wsX7_greatestOf := goodIn_r _ [18, 19, 20, 21, 22, 10, 11, 12] (by decide +kernel) (by decide +kernel)
set_option maxRecDepth 20000 in
theorem gX7_addEvent_X7_greatestOf : GoodIn wsX7_addEvent (va_wsS RX7 69 yX7_greatestOf wsX7_greatestOf) := goodIn_app (goodIn_of _ (by decide +kernel)) ggX7_addEvent_X7_greatestOf
theorem dX7_addEvent_0 : decode cX7_addEvent 0 = .ok (.aload_n 1, 1) := by decide +kernel
theorem dX7_addEvent_1 : decode cX7_addEvent 1 = .ok (.iload_n 2, 1) := by decide +kernel
theorem dX7_addEvent_2 : decode cX7_addEvent 2 = .ok (.iconst 1, 1) := by decide +kernel
theorem dX7_addEvent_3 : decode cX7_addEvent 3 = .ok (.isub, 1) := by decide +kernel
theorem dX7_addEvent_4 : decode cX7_addEvent 4 = .ok (.invokestatic 40, 3) := by decide +kernel
theorem dX7_addEvent_7 : decode cX7_addEvent 7 = .ok (.istore 5, 2) := by decide +kernel
theorem dX7_addEvent_9 : decode cX7_addEvent 9 = .ok (.aload_n 0, 1) := by decide +kernel
theorem dX7_addEvent_10 : decode cX7_addEvent 10 = .ok (.getfield 36, 3) := by decide +kernel
theorem dX7_addEvent_13 : decode cX7_addEvent 13 = .ok (.ifCond .ne 7, 3) := by decide +kernel
theorem dX7_addEvent_16 : decode cX7_addEvent 16 = .ok (.iconst 0, 1) := by decide +kernel
theorem dX7_addEvent_17 : decode cX7_addEvent 17 = .ok (.goto 16, 3) := by decide +kernel
theorem dX7_addEvent_20 : decode cX7_addEvent 20 = .ok (.aload_n 0, 1) := by decide +kernel
theorem dX7_addEvent_21 : decode cX7_addEvent 21 = .ok (.getfield 15, 3) := by decide +kernel
theorem dX7_addEvent_24 : decode cX7_addEvent 24 = .ok (.aload_n 0, 1) := by decide +kernel
theorem dX7_addEvent_25 : decode cX7_addEvent 25 = .ok (.getfield 36, 3) := by decide +kernel
theorem dX7_addEvent_28 : decode cX7_addEvent 28 = .ok (.iconst 1, 1) := by decide +kernel
theorem dX7_addEvent_29 : decode cX7_addEvent 29 = .ok (.isub, 1) := by decide +kernel
theorem dX7_addEvent_30 : decode cX7_addEvent 30 = .ok (.invokestatic 40, 3) := by decide +kernel
theorem dX7_addEvent_33 : decode cX7_addEvent 33 = .ok (.istore 6, 2) := by decide +kernel
theorem dX7_addEvent_35 : decode cX7_addEvent 35 = .ok (.aload_n 0, 1) := by decide +kernel
theorem dX7_addEvent_36 : decode cX7_addEvent 36 = .ok (.getfield 9, 3) := by decide +kernel
theorem dX7_addEvent_39 : decode cX7_addEvent 39 = .ok (.aload_n 0, 1) := by decide +kernel
theorem dX7_addEvent_40 : decode cX7_addEvent 40 = .ok (.getfield 36, 3) := by decide +kernel
theorem dX7_addEvent_43 : decode cX7_addEvent 43 = .ok (.iload_n 2, 1) := by decide +kernel
theorem dX7_addEvent_44 : decode cX7_addEvent 44 = .ok (.invokestatic 55, 3) := by decide +kernel
theorem dX7_addEvent_47 : decode cX7_addEvent 47 = .ok (.aload_n 0, 1) := by decide +kernel
theorem dX7_addEvent_48 : decode cX7_addEvent 48 = .ok (.getfield 15, 3) := by decide +kernel
theorem dX7_addEvent_51 : decode cX7_addEvent 51 = .ok (.aload_n 0, 1) := by decide +kernel
theorem dX7_addEvent_52 : decode cX7_addEvent 52 = .ok (.getfield 36, 3) := by decide +kernel
theorem dX7_addEvent_55 : decode cX7_addEvent 55 = .ok (.iload_n 3, 1) := by decide +kernel
theorem dX7_addEvent_56 : decode cX7_addEvent 56 = .ok (.invokestatic 55, 3) := by decide +kernel
theorem dX7_addEvent_59 : decode cX7_addEvent 59 = .ok (.aload_n 0, 1) := by decide +kernel
theorem dX7_addEvent_60 : decode cX7_addEvent 60 = .ok (.getfield 18, 3) := by decide +kernel
theorem dX7_addEvent_63 : decode cX7_addEvent 63 = .ok (.aload_n 0, 1) := by decide +kernel
theorem dX7_addEvent_64 : decode cX7_addEvent 64 = .ok (.getfield 36, 3) := by decide +kernel
theorem dX7_addEvent_67 : decode cX7_addEvent 67 = .ok (.iload 5, 2) := by decide +kernel
theorem dX7_addEvent_69 : decode cX7_addEvent 69 = .ok (.aload_n 1, 1) := by decide +kernel
theorem dX7_addEvent_70 : decode cX7_addEvent 70 = .ok (.iload_n 3, 1) := by decide +kernel
theorem dX7_addEvent_71 : decode cX7_addEvent 71 = .ok (.invokestatic 40, 3) := by decide +kernel
theorem dX7_addEvent_74 : decode cX7_addEvent 74 = .ok (.isub, 1) := by decide +kernel
theorem dX7_addEvent_75 : decode cX7_addEvent 75 = .ok (.invokestatic 55, 3) := by decide +kernel
theorem dX7_addEvent_78 : decode cX7_addEvent 78 = .ok (.aload_n 0, 1) := by decide +kernel
theorem dX7_addEvent_79 : decode cX7_addEvent 79 = .ok (.getfield 21, 3) := by decide +kernel
theorem dX7_addEvent_82 : decode cX7_addEvent 82 = .ok (.aload_n 0, 1) := by decide +kernel
theorem dX7_addEvent_83 : decode cX7_addEvent 83 = .ok (.getfield 36, 3) := by decide +kernel
theorem dX7_addEvent_86 : decode cX7_addEvent 86 = .ok (.iload 4, 2) := by decide +kernel
theorem dX7_addEvent_88 : decode cX7_addEvent 88 = .ok (.ifCond .eq 15, 3) := by decide +kernel
theorem dX7_addEvent_91 : decode cX7_addEvent 91 = .ok (.aload_n 1, 1) := by decide +kernel
theorem dX7_addEvent_92 : decode cX7_addEvent 92 = .ok (.iload_n 2, 1) := by decide +kernel
theorem dX7_addEvent_93 : decode cX7_addEvent 93 = .ok (.iload_n 3, 1) := by decide +kernel
theorem dX7_addEvent_94 : decode cX7_addEvent 94 = .ok (.invokestatic 69, 3) := by decide +kernel
theorem dX7_addEvent_97 : decode cX7_addEvent 97 = .ok (.iload 5, 2) := by decide +kernel
theorem dX7_addEvent_99 : decode cX7_addEvent 99 = .ok (.isub, 1) := by decide +kernel
theorem dX7_addEvent_100 : decode cX7_addEvent 100 = .ok (.goto 4, 3) := by decide +kernel
theorem dX7_addEvent_103 : decode cX7_addEvent 103 = .ok (.iconst 0, 1) := by decide +kernel
theorem dX7_addEvent_104 : decode cX7_addEvent 104 = .ok (.invokestatic 55, 3) := by decide +kernel
theorem dX7_addEvent_107 : decode cX7_addEvent 107 = .ok (.aload_n 0, 1) := by decide +kernel
theorem dX7_addEvent_108 : decode cX7_addEvent 108 = .ok (.getfield 24, 3) := by decide +kernel
theorem dX7_addEvent_111 : decode cX7_addEvent 111 = .ok (.aload_n 0, 1) := by decide +kernel
theorem dX7_addEvent_112 : decode cX7_addEvent 112 = .ok (.getfield 36, 3) := by decide +kernel
theorem dX7_addEvent_115 : decode cX7_addEvent 115 = .ok (.iload 4, 2) := by decide +kernel
theorem dX7_addEvent_117 : decode cX7_addEvent 117 = .ok (.ifCond .eq 7, 3) := by decide +kernel
theorem dX7_addEvent_120 : decode cX7_addEvent 120 = .ok (.iconst 1, 1) := by decide +kernel
theorem dX7_addEvent_121 : decode cX7_addEvent 121 = .ok (.goto 4, 3) := by decide +kernel
theorem dX7_addEvent_124 : decode cX7_addEvent 124 = .ok (.iconst 0, 1) := by decide +kernel
theorem dX7_addEvent_125 : decode cX7_addEvent 125 = .ok (.invokestatic 55, 3) := by decide +kernel
theorem dX7_addEvent_128 : decode cX7_addEvent 128 = .ok (.aload_n 0, 1) := by decide +kernel
theorem dX7_addEvent_129 : decode cX7_addEvent 129 = .ok (.getfield 27, 3) := by decide +kernel
theorem dX7_addEvent_132 : decode cX7_addEvent 132 = .ok (.aload_n 0, 1) := by decide +kernel
theorem dX7_addEvent_133 : decode cX7_addEvent 133 = .ok (.getfield 36, 3) := by decide +kernel
theorem dX7_addEvent_136 : decode cX7_addEvent 136 = .ok (.aload_n 1, 1) := by decide +kernel
theorem dX7_addEvent_137 : decode cX7_addEvent 137 = .ok (.iload 6, 2) := by decide +kernel
theorem dX7_addEvent_139 : decode cX7_addEvent 139 = .ok (.invokestatic 40, 3) := by decide +kernel
theorem dX7_addEvent_142 : decode cX7_addEvent 142 = .ok (.iload 5, 2) := by decide +kernel
theorem dX7_addEvent_144 : decode cX7_addEvent 144 = .ok (.isub, 1) := by decide +kernel
theorem dX7_addEvent_145 : decode cX7_addEvent 145 = .ok (.invokestatic 55, 3) := by decide +kernel
theorem dX7_addEvent_148 : decode cX7_addEvent 148 = .ok (.aload_n 0, 1) := by decide +kernel
theorem dX7_addEvent_149 : decode cX7_addEvent 149 = .ok (.getfield 30, 3) := by decide +kernel
theorem dX7_addEvent_152 : decode cX7_addEvent 152 = .ok (.aload_n 0, 1) := by decide +kernel
theorem dX7_addEvent_153 : decode cX7_addEvent 153 = .ok (.getfield 36, 3) := by decide +kernel
theorem dX7_addEvent_156 : decode cX7_addEvent 156 = .ok (.iconst (-1), 1) := by decide +kernel
theorem dX7_addEvent_157 : decode cX7_addEvent 157 = .ok (.invokestatic 55, 3) := by decide +kernel
theorem dX7_addEvent_160 : decode cX7_addEvent 160 = .ok (.aload_n 0, 1) := by decide +kernel
theorem dX7_addEvent_161 : decode cX7_addEvent 161 = .ok (.getfield 33, 3) := by decide +kernel
theorem dX7_addEvent_164 : decode cX7_addEvent 164 = .ok (.aload_n 0, 1) := by decide +kernel
theorem dX7_addEvent_165 : decode cX7_addEvent 165 = .ok (.getfield 36, 3) := by decide +kernel
theorem dX7_addEvent_168 : decode cX7_addEvent 168 = .ok (.iconst (-1), 1) := by decide +kernel
theorem dX7_addEvent_169 : decode cX7_addEvent 169 = .ok (.invokestatic 55, 3) := by decide +kernel
theorem dX7_addEvent_172 : decode cX7_addEvent 172 = .ok (.aload_n 0, 1) := by decide +kernel
theorem dX7_addEvent_173 : decode cX7_addEvent 173 = .ok (.dup, 1) := by decide +kernel
theorem dX7_addEvent_174 : decode cX7_addEvent 174 = .ok (.getfield 36, 3) := by decide +kernel
theorem dX7_addEvent_177 : decode cX7_addEvent 177 = .ok (.iconst 1, 1) := by decide +kernel
theorem dX7_addEvent_178 : decode cX7_addEvent 178 = .ok (.iadd, 1) := by decide +kernel
theorem dX7_addEvent_179 : decode cX7_addEvent 179 = .ok (.putfield 36, 3) := by decide +kernel
theorem dX7_addEvent_182 : decode cX7_addEvent 182 = .ok (.return_, 1) := by decide +kernel
set_option maxRecDepth 20000 in
theorem ggX7_greatestOf_X10_at : GoodIn wsX7_greatestOf wsX10_at := goodIn_r _ [7] (by decide +kernel) (by decide +kernel)
set_option maxRecDepth 20000 in
theorem gX7_greatestOf_X10_at_n40 : GoodIn wsX7_greatestOf (wsX10_at) := ggX7_greatestOf_X10_at
theorem dX7_greatestOf_0 : decode cX7_greatestOf 0 = .ok (.aload_n 0, 1) := by decide +kernel
theorem dX7_greatestOf_1 : decode cX7_greatestOf 1 = .ok (.iload_n 1, 1) := by decide +kernel
theorem dX7_greatestOf_2 : decode cX7_greatestOf 2 = .ok (.invokestatic 40, 3) := by decide +kernel
theorem dX7_greatestOf_5 : decode cX7_greatestOf 5 = .ok (.istore_n 3, 1) := by decide +kernel
theorem dX7_greatestOf_6 : decode cX7_greatestOf 6 = .ok (.iload_n 1, 1) := by decide +kernel
theorem dX7_greatestOf_7 : decode cX7_greatestOf 7 = .ok (.iconst 1, 1) := by decide +kernel
theorem dX7_greatestOf_8 : decode cX7_greatestOf 8 = .ok (.iadd, 1) := by decide +kernel
theorem dX7_greatestOf_9 : decode cX7_greatestOf 9 = .ok (.istore 4, 2) := by decide +kernel
theorem dX7_greatestOf_11 : decode cX7_greatestOf 11 = .ok (.iload 4, 2) := by decide +kernel
theorem dX7_greatestOf_13 : decode cX7_greatestOf 13 = .ok (.iload_n 2, 1) := by decide +kernel
theorem dX7_greatestOf_14 : decode cX7_greatestOf 14 = .ok (.if_icmp .gt 20, 3) := by decide +kernel
theorem dX7_greatestOf_17 : decode cX7_greatestOf 17 = .ok (.iload_n 3, 1) := by decide +kernel
theorem dX7_greatestOf_18 : decode cX7_greatestOf 18 = .ok (.aload_n 0, 1) := by decide +kernel
theorem dX7_greatestOf_19 : decode cX7_greatestOf 19 = .ok (.iload 4, 2) := by decide +kernel
theorem dX7_greatestOf_21 : decode cX7_greatestOf 21 = .ok (.invokestatic 40, 3) := by decide +kernel
theorem dX7_greatestOf_24 : decode cX7_greatestOf 24 = .ok (.invokestatic 59, 3) := by decide +kernel
theorem dX7_greatestOf_27 : decode cX7_greatestOf 27 = .ok (.istore_n 3, 1) := by decide +kernel
theorem dX7_greatestOf_28 : decode cX7_greatestOf 28 = .ok (.iinc 4 1, 3) := by decide +kernel
theorem dX7_greatestOf_31 : decode cX7_greatestOf 31 = .ok (.goto (-20), 3) := by decide +kernel
theorem dX7_greatestOf_34 : decode cX7_greatestOf 34 = .ok (.iload_n 3, 1) := by decide +kernel
theorem dX7_greatestOf_35 : decode cX7_greatestOf 35 = .ok (.ireturn, 1) := by decide +kernel
set_option maxRecDepth 20000 in
theorem ggX7_findGhosts_X10_at : GoodIn wsX7_findGhosts wsX10_at := goodIn_r _ [10] (by decide +kernel) (by decide +kernel)
set_option maxRecDepth 20000 in
theorem gX7_findGhosts_X10_at_n40 : GoodIn wsX7_findGhosts (wsX10_at) := ggX7_findGhosts_X10_at
set_option maxRecDepth 20000 in
theorem ggX7_findGhosts_X7_findMakers : GoodIn wsX7_findGhosts wsX7_findMakers := goodIn_r _ [15, 2, 16, 17, 18, 19, 20, 14, 21, 22, 4, 5, 6, 7, 23, 8, 9, 10, 24, 25, 26, 27, 28, 29, 30, 31, 32, 33, 34, 35] (by decide +kernel) (by decide +kernel)
set_option maxRecDepth 20000 in
theorem gX7_findGhosts_X7_findMakers : GoodIn wsX7_findGhosts (wsV RX7 73 RX7 yX7_findMakers wsX7_findMakers) := goodIn_app (goodIn_of _ (by decide +kernel)) ggX7_findGhosts_X7_findMakers
theorem dX7_findGhosts_0 : decode cX7_findGhosts 0 = .ok (.iconst 0, 1) := by decide +kernel
theorem dX7_findGhosts_1 : decode cX7_findGhosts 1 = .ok (.istore_n 2, 1) := by decide +kernel
theorem dX7_findGhosts_2 : decode cX7_findGhosts 2 = .ok (.iload_n 2, 1) := by decide +kernel
theorem dX7_findGhosts_3 : decode cX7_findGhosts 3 = .ok (.aload_n 0, 1) := by decide +kernel
theorem dX7_findGhosts_4 : decode cX7_findGhosts 4 = .ok (.getfield 36, 3) := by decide +kernel
theorem dX7_findGhosts_7 : decode cX7_findGhosts 7 = .ok (.if_icmp .ge 41, 3) := by decide +kernel
theorem dX7_findGhosts_10 : decode cX7_findGhosts 10 = .ok (.aload_n 0, 1) := by decide +kernel
theorem dX7_findGhosts_11 : decode cX7_findGhosts 11 = .ok (.getfield 24, 3) := by decide +kernel
theorem dX7_findGhosts_14 : decode cX7_findGhosts 14 = .ok (.iload_n 2, 1) := by decide +kernel
theorem dX7_findGhosts_15 : decode cX7_findGhosts 15 = .ok (.invokestatic 40, 3) := by decide +kernel
theorem dX7_findGhosts_18 : decode cX7_findGhosts 18 = .ok (.iconst 1, 1) := by decide +kernel
theorem dX7_findGhosts_19 : decode cX7_findGhosts 19 = .ok (.if_icmp .ne 23, 3) := by decide +kernel
theorem dX7_findGhosts_22 : decode cX7_findGhosts 22 = .ok (.aload_n 0, 1) := by decide +kernel
theorem dX7_findGhosts_23 : decode cX7_findGhosts 23 = .ok (.getfield 18, 3) := by decide +kernel
theorem dX7_findGhosts_26 : decode cX7_findGhosts 26 = .ok (.iload_n 2, 1) := by decide +kernel
theorem dX7_findGhosts_27 : decode cX7_findGhosts 27 = .ok (.invokestatic 40, 3) := by decide +kernel
theorem dX7_findGhosts_30 : decode cX7_findGhosts 30 = .ok (.invokestatic 65, 3) := by decide +kernel
theorem dX7_findGhosts_33 : decode cX7_findGhosts 33 = .ok (.iload_n 1, 1) := by decide +kernel
theorem dX7_findGhosts_34 : decode cX7_findGhosts 34 = .ok (.if_icmp .gt 8, 3) := by decide +kernel
theorem dX7_findGhosts_37 : decode cX7_findGhosts 37 = .ok (.aload_n 0, 1) := by decide +kernel
theorem dX7_findGhosts_38 : decode cX7_findGhosts 38 = .ok (.iload_n 2, 1) := by decide +kernel
theorem dX7_findGhosts_39 : decode cX7_findGhosts 39 = .ok (.invokevirtual 73, 3) := by decide +kernel
theorem dX7_findGhosts_42 : decode cX7_findGhosts 42 = .ok (.iinc 2 1, 3) := by decide +kernel
theorem dX7_findGhosts_45 : decode cX7_findGhosts 45 = .ok (.goto (-43), 3) := by decide +kernel
theorem dX7_findGhosts_48 : decode cX7_findGhosts 48 = .ok (.return_, 1) := by decide +kernel
set_option maxRecDepth 20000 in
theorem ggX7_findMakers_X7_makeGhost : GoodIn wsX7_findMakers wsX7_makeGhost := goodIn_r _ [8, 9, 1, 10, 11, 12, 13, 14, 15, 16, 17, 20, 21, 22, 23, 24, 25, 26, 27, 28, 29] (by decide +kernel) (by decide +kernel)
set_option maxRecDepth 20000 in
theorem gX7_findMakers_X7_makeGhost : GoodIn wsX7_findMakers (wsV RX7 77 RX7 yX7_makeGhost wsX7_makeGhost) := goodIn_app (goodIn_of _ (by decide +kernel)) ggX7_findMakers_X7_makeGhost
set_option maxRecDepth 20000 in
theorem ggX7_findMakers_X10_put : GoodIn wsX7_findMakers wsX10_put := goodIn_r _ [19] (by decide +kernel) (by decide +kernel)
set_option maxRecDepth 20000 in
theorem gX7_findMakers_X10_put_n55 : GoodIn wsX7_findMakers (wsX10_put) := ggX7_findMakers_X10_put
theorem dX7_findMakers_0 : decode cX7_findMakers 0 = .ok (.iconst 0, 1) := by decide +kernel
theorem dX7_findMakers_1 : decode cX7_findMakers 1 = .ok (.istore_n 2, 1) := by decide +kernel
theorem dX7_findMakers_2 : decode cX7_findMakers 2 = .ok (.iload_n 2, 1) := by decide +kernel
theorem dX7_findMakers_3 : decode cX7_findMakers 3 = .ok (.iload_n 1, 1) := by decide +kernel
theorem dX7_findMakers_4 : decode cX7_findMakers 4 = .ok (.if_icmp .ge 62, 3) := by decide +kernel
theorem dX7_findMakers_7 : decode cX7_findMakers 7 = .ok (.iload_n 2, 1) := by decide +kernel
theorem dX7_findMakers_8 : decode cX7_findMakers 8 = .ok (.iconst 1, 1) := by decide +kernel
theorem dX7_findMakers_9 : decode cX7_findMakers 9 = .ok (.iadd, 1) := by decide +kernel
theorem dX7_findMakers_10 : decode cX7_findMakers 10 = .ok (.istore_n 3, 1) := by decide +kernel
theorem dX7_findMakers_11 : decode cX7_findMakers 11 = .ok (.iload_n 3, 1) := by decide +kernel
theorem dX7_findMakers_12 : decode cX7_findMakers 12 = .ok (.iload_n 1, 1) := by decide +kernel
theorem dX7_findMakers_13 : decode cX7_findMakers 13 = .ok (.if_icmp .ge 47, 3) := by decide +kernel
theorem dX7_findMakers_16 : decode cX7_findMakers 16 = .ok (.aload_n 0, 1) := by decide +kernel
theorem dX7_findMakers_17 : decode cX7_findMakers 17 = .ok (.iload_n 2, 1) := by decide +kernel
theorem dX7_findMakers_18 : decode cX7_findMakers 18 = .ok (.iload_n 3, 1) := by decide +kernel
theorem dX7_findMakers_19 : decode cX7_findMakers 19 = .ok (.iload_n 1, 1) := by decide +kernel
theorem dX7_findMakers_20 : decode cX7_findMakers 20 = .ok (.invokevirtual 77, 3) := by decide +kernel
theorem dX7_findMakers_23 : decode cX7_findMakers 23 = .ok (.ifCond .eq 31, 3) := by decide +kernel
theorem dX7_findMakers_26 : decode cX7_findMakers 26 = .ok (.aload_n 0, 1) := by decide +kernel
theorem dX7_findMakers_27 : decode cX7_findMakers 27 = .ok (.getfield 24, 3) := by decide +kernel
theorem dX7_findMakers_30 : decode cX7_findMakers 30 = .ok (.iload_n 1, 1) := by decide +kernel
theorem dX7_findMakers_31 : decode cX7_findMakers 31 = .ok (.iconst 2, 1) := by decide +kernel
theorem dX7_findMakers_32 : decode cX7_findMakers 32 = .ok (.invokestatic 55, 3) := by decide +kernel
theorem dX7_findMakers_35 : decode cX7_findMakers 35 = .ok (.aload_n 0, 1) := by decide +kernel
theorem dX7_findMakers_36 : decode cX7_findMakers 36 = .ok (.getfield 30, 3) := by decide +kernel
theorem dX7_findMakers_39 : decode cX7_findMakers 39 = .ok (.iload_n 1, 1) := by decide +kernel
theorem dX7_findMakers_40 : decode cX7_findMakers 40 = .ok (.iload_n 2, 1) := by decide +kernel
theorem dX7_findMakers_41 : decode cX7_findMakers 41 = .ok (.invokestatic 55, 3) := by decide +kernel
theorem dX7_findMakers_44 : decode cX7_findMakers 44 = .ok (.aload_n 0, 1) := by decide +kernel
theorem dX7_findMakers_45 : decode cX7_findMakers 45 = .ok (.getfield 33, 3) := by decide +kernel
theorem dX7_findMakers_48 : decode cX7_findMakers 48 = .ok (.iload_n 1, 1) := by decide +kernel
theorem dX7_findMakers_49 : decode cX7_findMakers 49 = .ok (.iload_n 3, 1) := by decide +kernel
theorem dX7_findMakers_50 : decode cX7_findMakers 50 = .ok (.invokestatic 55, 3) := by decide +kernel
theorem dX7_findMakers_53 : decode cX7_findMakers 53 = .ok (.return_, 1) := by decide +kernel
theorem dX7_findMakers_54 : decode cX7_findMakers 54 = .ok (.iinc 3 1, 3) := by decide +kernel
theorem dX7_findMakers_57 : decode cX7_findMakers 57 = .ok (.goto (-46), 3) := by decide +kernel
theorem dX7_findMakers_60 : decode cX7_findMakers 60 = .ok (.iinc 2 1, 3) := by decide +kernel
theorem dX7_findMakers_63 : decode cX7_findMakers 63 = .ok (.goto (-61), 3) := by decide +kernel
theorem dX7_findMakers_66 : decode cX7_findMakers 66 = .ok (.return_, 1) := by decide +kernel
set_option maxRecDepth 20000 in
theorem ggX7_makeGhost_X10_at : GoodIn wsX7_makeGhost wsX10_at := goodIn_r _ [10] (by decide +kernel) (by decide +kernel)
set_option maxRecDepth 20000 in
theorem gX7_makeGhost_X10_at_n40 : GoodIn wsX7_makeGhost (wsX10_at) := ggX7_makeGhost_X10_at
theorem dX7_makeGhost_0 : decode cX7_makeGhost 0 = .ok (.iconst 2, 1) := by decide +kernel
theorem dX7_makeGhost_1 : decode cX7_makeGhost 1 = .ok (.aload_n 0, 1) := by decide +kernel
theorem dX7_makeGhost_2 : decode cX7_makeGhost 2 = .ok (.getfield 9, 3) := by decide +kernel
theorem dX7_makeGhost_5 : decode cX7_makeGhost 5 = .ok (.iload_n 2, 1) := by decide +kernel
theorem dX7_makeGhost_6 : decode cX7_makeGhost 6 = .ok (.invokestatic 40, 3) := by decide +kernel
theorem dX7_makeGhost_9 : decode cX7_makeGhost 9 = .ok (.imul, 1) := by decide +kernel
theorem dX7_makeGhost_10 : decode cX7_makeGhost 10 = .ok (.aload_n 0, 1) := by decide +kernel
theorem dX7_makeGhost_11 : decode cX7_makeGhost 11 = .ok (.getfield 9, 3) := by decide +kernel
theorem dX7_makeGhost_14 : decode cX7_makeGhost 14 = .ok (.iload_n 1, 1) := by decide +kernel
theorem dX7_makeGhost_15 : decode cX7_makeGhost 15 = .ok (.invokestatic 40, 3) := by decide +kernel
theorem dX7_makeGhost_18 : decode cX7_makeGhost 18 = .ok (.isub, 1) := by decide +kernel
theorem dX7_makeGhost_19 : decode cX7_makeGhost 19 = .ok (.istore 4, 2) := by decide +kernel
theorem dX7_makeGhost_21 : decode cX7_makeGhost 21 = .ok (.aload_n 0, 1) := by decide +kernel
theorem dX7_makeGhost_22 : decode cX7_makeGhost 22 = .ok (.getfield 24, 3) := by decide +kernel
theorem dX7_makeGhost_25 : decode cX7_makeGhost 25 = .ok (.iload_n 1, 1) := by decide +kernel
theorem dX7_makeGhost_26 : decode cX7_makeGhost 26 = .ok (.invokestatic 40, 3) := by decide +kernel
theorem dX7_makeGhost_29 : decode cX7_makeGhost 29 = .ok (.iconst 1, 1) := by decide +kernel
theorem dX7_makeGhost_30 : decode cX7_makeGhost 30 = .ok (.if_icmp .ne 40, 3) := by decide +kernel
theorem dX7_makeGhost_33 : decode cX7_makeGhost 33 = .ok (.aload_n 0, 1) := by decide +kernel
theorem dX7_makeGhost_34 : decode cX7_makeGhost 34 = .ok (.getfield 24, 3) := by decide +kernel
theorem dX7_makeGhost_37 : decode cX7_makeGhost 37 = .ok (.iload_n 2, 1) := by decide +kernel
theorem dX7_makeGhost_38 : decode cX7_makeGhost 38 = .ok (.invokestatic 40, 3) := by decide +kernel
theorem dX7_makeGhost_41 : decode cX7_makeGhost 41 = .ok (.iconst 1, 1) := by decide +kernel
theorem dX7_makeGhost_42 : decode cX7_makeGhost 42 = .ok (.if_icmp .ne 28, 3) := by decide +kernel
theorem dX7_makeGhost_45 : decode cX7_makeGhost 45 = .ok (.iload 4, 2) := by decide +kernel
theorem dX7_makeGhost_47 : decode cX7_makeGhost 47 = .ok (.aload_n 0, 1) := by decide +kernel
theorem dX7_makeGhost_48 : decode cX7_makeGhost 48 = .ok (.getfield 9, 3) := by decide +kernel
theorem dX7_makeGhost_51 : decode cX7_makeGhost 51 = .ok (.iload_n 3, 1) := by decide +kernel
theorem dX7_makeGhost_52 : decode cX7_makeGhost 52 = .ok (.invokestatic 40, 3) := by decide +kernel
theorem dX7_makeGhost_55 : decode cX7_makeGhost 55 = .ok (.isub, 1) := by decide +kernel
theorem dX7_makeGhost_56 : decode cX7_makeGhost 56 = .ok (.invokestatic 65, 3) := by decide +kernel
theorem dX7_makeGhost_59 : decode cX7_makeGhost 59 = .ok (.aload_n 0, 1) := by decide +kernel
theorem dX7_makeGhost_60 : decode cX7_makeGhost 60 = .ok (.getfield 44, 3) := by decide +kernel
theorem dX7_makeGhost_63 : decode cX7_makeGhost 63 = .ok (.if_icmp .gt 7, 3) := by decide +kernel
theorem dX7_makeGhost_66 : decode cX7_makeGhost 66 = .ok (.iconst 1, 1) := by decide +kernel
theorem dX7_makeGhost_67 : decode cX7_makeGhost 67 = .ok (.goto 4, 3) := by decide +kernel
theorem dX7_makeGhost_70 : decode cX7_makeGhost 70 = .ok (.iconst 0, 1) := by decide +kernel
theorem dX7_makeGhost_71 : decode cX7_makeGhost 71 = .ok (.ireturn, 1) := by decide +kernel
theorem dX7_isNear_0 : decode cX7_isNear 0 = .ok (.iload_n 1, 1) := by decide +kernel
theorem dX7_isNear_1 : decode cX7_isNear 1 = .ok (.iload_n 2, 1) := by decide +kernel
theorem dX7_isNear_2 : decode cX7_isNear 2 = .ok (.isub, 1) := by decide +kernel
theorem dX7_isNear_3 : decode cX7_isNear 3 = .ok (.invokestatic 65, 3) := by decide +kernel
theorem dX7_isNear_6 : decode cX7_isNear 6 = .ok (.aload_n 0, 1) := by decide +kernel
theorem dX7_isNear_7 : decode cX7_isNear 7 = .ok (.getfield 44, 3) := by decide +kernel
theorem dX7_isNear_10 : decode cX7_isNear 10 = .ok (.if_icmp .gt 7, 3) := by decide +kernel
theorem dX7_isNear_13 : decode cX7_isNear 13 = .ok (.iconst 1, 1) := by decide +kernel
theorem dX7_isNear_14 : decode cX7_isNear 14 = .ok (.goto 4, 3) := by decide +kernel
theorem dX7_isNear_17 : decode cX7_isNear 17 = .ok (.iconst 0, 1) := by decide +kernel
theorem dX7_isNear_18 : decode cX7_isNear 18 = .ok (.ireturn, 1) := by decide +kernel
set_option maxRecDepth 20000 in
theorem ggX7_lossOfGhosts_X10_at : GoodIn wsX7_lossOfGhosts wsX10_at := goodIn_r _ [6] (by decide +kernel) (by decide +kernel)
set_option maxRecDepth 20000 in
theorem gX7_lossOfGhosts_X10_at_n40 : GoodIn wsX7_lossOfGhosts (wsX10_at) := ggX7_lossOfGhosts_X10_at
theorem dX7_lossOfGhosts_0 : decode cX7_lossOfGhosts 0 = .ok (.iconst 0, 1) := by decide +kernel
theorem dX7_lossOfGhosts_1 : decode cX7_lossOfGhosts 1 = .ok (.istore_n 1, 1) := by decide +kernel
theorem dX7_lossOfGhosts_2 : decode cX7_lossOfGhosts 2 = .ok (.iconst 0, 1) := by decide +kernel
theorem dX7_lossOfGhosts_3 : decode cX7_lossOfGhosts 3 = .ok (.istore_n 2, 1) := by decide +kernel
theorem dX7_lossOfGhosts_4 : decode cX7_lossOfGhosts 4 = .ok (.iload_n 2, 1) := by decide +kernel
theorem dX7_lossOfGhosts_5 : decode cX7_lossOfGhosts 5 = .ok (.aload_n 0, 1) := by decide +kernel
theorem dX7_lossOfGhosts_6 : decode cX7_lossOfGhosts 6 = .ok (.getfield 36, 3) := by decide +kernel
theorem dX7_lossOfGhosts_9 : decode cX7_lossOfGhosts 9 = .ok (.if_icmp .ge 36, 3) := by decide +kernel
theorem dX7_lossOfGhosts_12 : decode cX7_lossOfGhosts 12 = .ok (.iload_n 1, 1) := by decide +kernel
theorem dX7_lossOfGhosts_13 : decode cX7_lossOfGhosts 13 = .ok (.aload_n 0, 1) := by decide +kernel
theorem dX7_lossOfGhosts_14 : decode cX7_lossOfGhosts 14 = .ok (.getfield 24, 3) := by decide +kernel
theorem dX7_lossOfGhosts_17 : decode cX7_lossOfGhosts 17 = .ok (.iload_n 2, 1) := by decide +kernel
theorem dX7_lossOfGhosts_18 : decode cX7_lossOfGhosts 18 = .ok (.invokestatic 40, 3) := by decide +kernel
theorem dX7_lossOfGhosts_21 : decode cX7_lossOfGhosts 21 = .ok (.iconst 2, 1) := by decide +kernel
theorem dX7_lossOfGhosts_22 : decode cX7_lossOfGhosts 22 = .ok (.if_icmp .ne 14, 3) := by decide +kernel
theorem dX7_lossOfGhosts_25 : decode cX7_lossOfGhosts 25 = .ok (.aload_n 0, 1) := by decide +kernel
theorem dX7_lossOfGhosts_26 : decode cX7_lossOfGhosts 26 = .ok (.getfield 18, 3) := by decide +kernel
theorem dX7_lossOfGhosts_29 : decode cX7_lossOfGhosts 29 = .ok (.iload_n 2, 1) := by decide +kernel
theorem dX7_lossOfGhosts_30 : decode cX7_lossOfGhosts 30 = .ok (.invokestatic 40, 3) := by decide +kernel
theorem dX7_lossOfGhosts_33 : decode cX7_lossOfGhosts 33 = .ok (.goto 4, 3) := by decide +kernel
theorem dX7_lossOfGhosts_36 : decode cX7_lossOfGhosts 36 = .ok (.iconst 0, 1) := by decide +kernel
theorem dX7_lossOfGhosts_37 : decode cX7_lossOfGhosts 37 = .ok (.iadd, 1) := by decide +kernel
theorem dX7_lossOfGhosts_38 : decode cX7_lossOfGhosts 38 = .ok (.istore_n 1, 1) := by decide +kernel
theorem dX7_lossOfGhosts_39 : decode cX7_lossOfGhosts 39 = .ok (.iinc 2 1, 3) := by decide +kernel
theorem dX7_lossOfGhosts_42 : decode cX7_lossOfGhosts 42 = .ok (.goto (-38), 3) := by decide +kernel
theorem dX7_lossOfGhosts_45 : decode cX7_lossOfGhosts 45 = .ok (.iload_n 1, 1) := by decide +kernel
theorem dX7_lossOfGhosts_46 : decode cX7_lossOfGhosts 46 = .ok (.ireturn, 1) := by decide +kernel
set_option maxRecDepth 20000 in
theorem ggX7_countOf_X10_at : GoodIn wsX7_countOf wsX10_at := goodIn_r _ [5] (by decide +kernel) (by decide +kernel)
set_option maxRecDepth 20000 in
theorem gX7_countOf_X10_at_n40 : GoodIn wsX7_countOf (wsX10_at) := ggX7_countOf_X10_at
theorem dX7_countOf_0 : decode cX7_countOf 0 = .ok (.iconst 0, 1) := by decide +kernel
theorem dX7_countOf_1 : decode cX7_countOf 1 = .ok (.istore_n 2, 1) := by decide +kernel
theorem dX7_countOf_2 : decode cX7_countOf 2 = .ok (.iconst 0, 1) := by decide +kernel
theorem dX7_countOf_3 : decode cX7_countOf 3 = .ok (.istore_n 3, 1) := by decide +kernel
theorem dX7_countOf_4 : decode cX7_countOf 4 = .ok (.iload_n 3, 1) := by decide +kernel
theorem dX7_countOf_5 : decode cX7_countOf 5 = .ok (.aload_n 0, 1) := by decide +kernel
theorem dX7_countOf_6 : decode cX7_countOf 6 = .ok (.getfield 36, 3) := by decide +kernel
theorem dX7_countOf_9 : decode cX7_countOf 9 = .ok (.if_icmp .ge 29, 3) := by decide +kernel
theorem dX7_countOf_12 : decode cX7_countOf 12 = .ok (.iload_n 2, 1) := by decide +kernel
theorem dX7_countOf_13 : decode cX7_countOf 13 = .ok (.aload_n 0, 1) := by decide +kernel
theorem dX7_countOf_14 : decode cX7_countOf 14 = .ok (.getfield 24, 3) := by decide +kernel
theorem dX7_countOf_17 : decode cX7_countOf 17 = .ok (.iload_n 3, 1) := by decide +kernel
theorem dX7_countOf_18 : decode cX7_countOf 18 = .ok (.invokestatic 40, 3) := by decide +kernel
theorem dX7_countOf_21 : decode cX7_countOf 21 = .ok (.iload_n 1, 1) := by decide +kernel
theorem dX7_countOf_22 : decode cX7_countOf 22 = .ok (.if_icmp .ne 7, 3) := by decide +kernel
theorem dX7_countOf_25 : decode cX7_countOf 25 = .ok (.iconst 1, 1) := by decide +kernel
theorem dX7_countOf_26 : decode cX7_countOf 26 = .ok (.goto 4, 3) := by decide +kernel
theorem dX7_countOf_29 : decode cX7_countOf 29 = .ok (.iconst 0, 1) := by decide +kernel
theorem dX7_countOf_30 : decode cX7_countOf 30 = .ok (.iadd, 1) := by decide +kernel
theorem dX7_countOf_31 : decode cX7_countOf 31 = .ok (.istore_n 2, 1) := by decide +kernel
theorem dX7_countOf_32 : decode cX7_countOf 32 = .ok (.iinc 3 1, 3) := by decide +kernel
theorem dX7_countOf_35 : decode cX7_countOf 35 = .ok (.goto (-31), 3) := by decide +kernel
theorem dX7_countOf_38 : decode cX7_countOf 38 = .ok (.iload_n 2, 1) := by decide +kernel
theorem dX7_countOf_39 : decode cX7_countOf 39 = .ok (.ireturn, 1) := by decide +kernel
set_option maxRecDepth 20000 in
theorem ggX7_covering_X10_at : GoodIn wsX7_covering wsX10_at := goodIn_r _ [6] (by decide +kernel) (by decide +kernel)
set_option maxRecDepth 20000 in
theorem gX7_covering_X10_at_n40 : GoodIn wsX7_covering (wsX10_at) := ggX7_covering_X10_at
set_option maxRecDepth 20000 in
theorem ggX7_covering_X10_isWithin : GoodIn wsX7_covering wsX10_isWithin := goodIn_r _ [8] (by decide +kernel) (by decide +kernel)
set_option maxRecDepth 20000 in
theorem gX7_covering_X10_isWithin_n81 : GoodIn wsX7_covering (wsX10_isWithin) := ggX7_covering_X10_isWithin
theorem dX7_covering_0 : decode cX7_covering 0 = .ok (.iconst 0, 1) := by decide +kernel
theorem dX7_covering_1 : decode cX7_covering 1 = .ok (.istore_n 2, 1) := by decide +kernel
theorem dX7_covering_2 : decode cX7_covering 2 = .ok (.iload_n 2, 1) := by decide +kernel
theorem dX7_covering_3 : decode cX7_covering 3 = .ok (.aload_n 0, 1) := by decide +kernel
theorem dX7_covering_4 : decode cX7_covering 4 = .ok (.getfield 36, 3) := by decide +kernel
theorem dX7_covering_7 : decode cX7_covering 7 = .ok (.if_icmp .ge 34, 3) := by decide +kernel
theorem dX7_covering_10 : decode cX7_covering 10 = .ok (.iload_n 1, 1) := by decide +kernel
theorem dX7_covering_11 : decode cX7_covering 11 = .ok (.aload_n 0, 1) := by decide +kernel
theorem dX7_covering_12 : decode cX7_covering 12 = .ok (.getfield 9, 3) := by decide +kernel
theorem dX7_covering_15 : decode cX7_covering 15 = .ok (.iload_n 2, 1) := by decide +kernel
theorem dX7_covering_16 : decode cX7_covering 16 = .ok (.invokestatic 40, 3) := by decide +kernel
theorem dX7_covering_19 : decode cX7_covering 19 = .ok (.aload_n 0, 1) := by decide +kernel
theorem dX7_covering_20 : decode cX7_covering 20 = .ok (.getfield 15, 3) := by decide +kernel
theorem dX7_covering_23 : decode cX7_covering 23 = .ok (.iload_n 2, 1) := by decide +kernel
theorem dX7_covering_24 : decode cX7_covering 24 = .ok (.invokestatic 40, 3) := by decide +kernel
theorem dX7_covering_27 : decode cX7_covering 27 = .ok (.invokestatic 81, 3) := by decide +kernel
theorem dX7_covering_30 : decode cX7_covering 30 = .ok (.ifCond .eq 5, 3) := by decide +kernel
theorem dX7_covering_33 : decode cX7_covering 33 = .ok (.iload_n 2, 1) := by decide +kernel
theorem dX7_covering_34 : decode cX7_covering 34 = .ok (.ireturn, 1) := by decide +kernel
theorem dX7_covering_35 : decode cX7_covering 35 = .ok (.iinc 2 1, 3) := by decide +kernel
theorem dX7_covering_38 : decode cX7_covering 38 = .ok (.goto (-36), 3) := by decide +kernel
theorem dX7_covering_41 : decode cX7_covering 41 = .ok (.iconst (-1), 1) := by decide +kernel
theorem dX7_covering_42 : decode cX7_covering 42 = .ok (.ireturn, 1) := by decide +kernel
set_option maxRecDepth 20000 in
theorem ggX7_greatestLoss_X10_at : GoodIn wsX7_greatestLoss wsX10_at := goodIn_r _ [6] (by decide +kernel) (by decide +kernel)
set_option maxRecDepth 20000 in
theorem gX7_greatestLoss_X10_at_n40 : GoodIn wsX7_greatestLoss (wsX10_at) := ggX7_greatestLoss_X10_at
theorem dX7_greatestLoss_0 : decode cX7_greatestLoss 0 = .ok (.iconst (-1), 1) := by decide +kernel
theorem dX7_greatestLoss_1 : decode cX7_greatestLoss 1 = .ok (.istore_n 1, 1) := by decide +kernel
theorem dX7_greatestLoss_2 : decode cX7_greatestLoss 2 = .ok (.iconst 0, 1) := by decide +kernel
theorem dX7_greatestLoss_3 : decode cX7_greatestLoss 3 = .ok (.istore_n 2, 1) := by decide +kernel
theorem dX7_greatestLoss_4 : decode cX7_greatestLoss 4 = .ok (.iload_n 2, 1) := by decide +kernel
theorem dX7_greatestLoss_5 : decode cX7_greatestLoss 5 = .ok (.aload_n 0, 1) := by decide +kernel
theorem dX7_greatestLoss_6 : decode cX7_greatestLoss 6 = .ok (.getfield 36, 3) := by decide +kernel
theorem dX7_greatestLoss_9 : decode cX7_greatestLoss 9 = .ok (.if_icmp .ge 47, 3) := by decide +kernel
theorem dX7_greatestLoss_12 : decode cX7_greatestLoss 12 = .ok (.aload_n 0, 1) := by decide +kernel
theorem dX7_greatestLoss_13 : decode cX7_greatestLoss 13 = .ok (.getfield 24, 3) := by decide +kernel
theorem dX7_greatestLoss_16 : decode cX7_greatestLoss 16 = .ok (.iload_n 2, 1) := by decide +kernel
theorem dX7_greatestLoss_17 : decode cX7_greatestLoss 17 = .ok (.invokestatic 40, 3) := by decide +kernel
theorem dX7_greatestLoss_20 : decode cX7_greatestLoss 20 = .ok (.iconst 3, 1) := by decide +kernel
theorem dX7_greatestLoss_21 : decode cX7_greatestLoss 21 = .ok (.if_icmp .eq 29, 3) := by decide +kernel
theorem dX7_greatestLoss_24 : decode cX7_greatestLoss 24 = .ok (.iload_n 1, 1) := by decide +kernel
theorem dX7_greatestLoss_25 : decode cX7_greatestLoss 25 = .ok (.iconst (-1), 1) := by decide +kernel
theorem dX7_greatestLoss_26 : decode cX7_greatestLoss 26 = .ok (.if_icmp .eq 22, 3) := by decide +kernel
theorem dX7_greatestLoss_29 : decode cX7_greatestLoss 29 = .ok (.aload_n 0, 1) := by decide +kernel
theorem dX7_greatestLoss_30 : decode cX7_greatestLoss 30 = .ok (.getfield 18, 3) := by decide +kernel
theorem dX7_greatestLoss_33 : decode cX7_greatestLoss 33 = .ok (.iload_n 2, 1) := by decide +kernel
theorem dX7_greatestLoss_34 : decode cX7_greatestLoss 34 = .ok (.invokestatic 40, 3) := by decide +kernel
theorem dX7_greatestLoss_37 : decode cX7_greatestLoss 37 = .ok (.aload_n 0, 1) := by decide +kernel
theorem dX7_greatestLoss_38 : decode cX7_greatestLoss 38 = .ok (.getfield 18, 3) := by decide +kernel
theorem dX7_greatestLoss_41 : decode cX7_greatestLoss 41 = .ok (.iload_n 1, 1) := by decide +kernel
theorem dX7_greatestLoss_42 : decode cX7_greatestLoss 42 = .ok (.invokestatic 40, 3) := by decide +kernel
theorem dX7_greatestLoss_45 : decode cX7_greatestLoss 45 = .ok (.if_icmp .le 5, 3) := by decide +kernel
theorem dX7_greatestLoss_48 : decode cX7_greatestLoss 48 = .ok (.iload_n 2, 1) := by decide +kernel
theorem dX7_greatestLoss_49 : decode cX7_greatestLoss 49 = .ok (.istore_n 1, 1) := by decide +kernel
theorem dX7_greatestLoss_50 : decode cX7_greatestLoss 50 = .ok (.iinc 2 1, 3) := by decide +kernel
theorem dX7_greatestLoss_53 : decode cX7_greatestLoss 53 = .ok (.goto (-49), 3) := by decide +kernel
theorem dX7_greatestLoss_56 : decode cX7_greatestLoss 56 = .ok (.iload_n 1, 1) := by decide +kernel
theorem dX7_greatestLoss_57 : decode cX7_greatestLoss 57 = .ok (.ireturn, 1) := by decide +kernel
set_option maxRecDepth 20000 in
theorem ggX7_finderOf_X10_at : GoodIn wsX7_finderOf wsX10_at := goodIn_r _ [6] (by decide +kernel) (by decide +kernel)
set_option maxRecDepth 20000 in
theorem gX7_finderOf_X10_at_n40 : GoodIn wsX7_finderOf (wsX10_at) := ggX7_finderOf_X10_at
set_option maxRecDepth 20000 in
theorem ggX7_finderOf_X7_isNear : GoodIn wsX7_finderOf wsX7_isNear := goodIn_r _ [11, 12, 13, 14, 15, 16, 17, 18, 19, 20, 21, 22, 23, 24, 25, 26] (by decide +kernel) (by decide +kernel)
set_option maxRecDepth 20000 in
theorem gX7_finderOf_X7_isNear : GoodIn wsX7_finderOf (wsV RX7 84 RX7 yX7_isNear wsX7_isNear) := goodIn_app (goodIn_of _ (by decide +kernel)) ggX7_finderOf_X7_isNear
theorem dX7_finderOf_0 : decode cX7_finderOf 0 = .ok (.iconst 0, 1) := by decide +kernel
theorem dX7_finderOf_1 : decode cX7_finderOf 1 = .ok (.istore_n 2, 1) := by decide +kernel
theorem dX7_finderOf_2 : decode cX7_finderOf 2 = .ok (.iload_n 2, 1) := by decide +kernel
theorem dX7_finderOf_3 : decode cX7_finderOf 3 = .ok (.aload_n 0, 1) := by decide +kernel
theorem dX7_finderOf_4 : decode cX7_finderOf 4 = .ok (.getfield 36, 3) := by decide +kernel
theorem dX7_finderOf_7 : decode cX7_finderOf 7 = .ok (.if_icmp .ge 39, 3) := by decide +kernel
theorem dX7_finderOf_10 : decode cX7_finderOf 10 = .ok (.aload_n 0, 1) := by decide +kernel
theorem dX7_finderOf_11 : decode cX7_finderOf 11 = .ok (.getfield 24, 3) := by decide +kernel
theorem dX7_finderOf_14 : decode cX7_finderOf 14 = .ok (.iload_n 2, 1) := by decide +kernel
theorem dX7_finderOf_15 : decode cX7_finderOf 15 = .ok (.invokestatic 40, 3) := by decide +kernel
theorem dX7_finderOf_18 : decode cX7_finderOf 18 = .ok (.iconst 2, 1) := by decide +kernel
theorem dX7_finderOf_19 : decode cX7_finderOf 19 = .ok (.if_icmp .eq 21, 3) := by decide +kernel
theorem dX7_finderOf_22 : decode cX7_finderOf 22 = .ok (.aload_n 0, 1) := by decide +kernel
theorem dX7_finderOf_23 : decode cX7_finderOf 23 = .ok (.aload_n 0, 1) := by decide +kernel
theorem dX7_finderOf_24 : decode cX7_finderOf 24 = .ok (.getfield 9, 3) := by decide +kernel
theorem dX7_finderOf_27 : decode cX7_finderOf 27 = .ok (.iload_n 2, 1) := by decide +kernel
theorem dX7_finderOf_28 : decode cX7_finderOf 28 = .ok (.invokestatic 40, 3) := by decide +kernel
theorem dX7_finderOf_31 : decode cX7_finderOf 31 = .ok (.iload_n 1, 1) := by decide +kernel
theorem dX7_finderOf_32 : decode cX7_finderOf 32 = .ok (.invokevirtual 84, 3) := by decide +kernel
theorem dX7_finderOf_35 : decode cX7_finderOf 35 = .ok (.ifCond .eq 5, 3) := by decide +kernel
theorem dX7_finderOf_38 : decode cX7_finderOf 38 = .ok (.iload_n 2, 1) := by decide +kernel
theorem dX7_finderOf_39 : decode cX7_finderOf 39 = .ok (.ireturn, 1) := by decide +kernel
theorem dX7_finderOf_40 : decode cX7_finderOf 40 = .ok (.iinc 2 1, 3) := by decide +kernel
theorem dX7_finderOf_43 : decode cX7_finderOf 43 = .ok (.goto (-41), 3) := by decide +kernel
theorem dX7_finderOf_46 : decode cX7_finderOf 46 = .ok (.iconst (-1), 1) := by decide +kernel
theorem dX7_finderOf_47 : decode cX7_finderOf 47 = .ok (.ireturn, 1) := by decide +kernel
set_option maxRecDepth 20000 in
theorem ggX7_findingOf_X10_at : GoodIn wsX7_findingOf wsX10_at := goodIn_r _ [4] (by decide +kernel) (by decide +kernel)
set_option maxRecDepth 20000 in
theorem gX7_findingOf_X10_at_n40 : GoodIn wsX7_findingOf (wsX10_at) := ggX7_findingOf_X10_at
set_option maxRecDepth 20000 in
theorem ggX7_findingOf_X4_isJoint : GoodIn wsX7_findingOf wsX4_isJoint := goodIn_r _ [9, 10, 2, 3, 4, 35, 36, 37, 38, 39, 40, 41, 42] (by decide +kernel) (by decide +kernel)
set_option maxRecDepth 20000 in
theorem gX7_findingOf_X4_isJoint : GoodIn wsX7_findingOf (wsV RX7 93 RX4 yX4_isJoint wsX4_isJoint) := goodIn_app (goodIn_of _ (by decide +kernel)) ggX7_findingOf_X4_isJoint
set_option maxRecDepth 20000 in
theorem ggX7_findingOf_X7_finderOf : GoodIn wsX7_findingOf wsX7_finderOf := goodIn_r _ [15, 16, 17, 18, 2, 3, 4, 19, 20, 21, 14, 22, 23, 24, 25, 26, 27, 43, 44, 45, 46, 47, 48, 49, 50, 51, 52] (by decide +kernel) (by decide +kernel)
set_option maxRecDepth 20000 in
theorem gX7_findingOf_X7_finderOf : GoodIn wsX7_findingOf (wsV RX7 97 RX7 yX7_finderOf wsX7_finderOf) := goodIn_app (goodIn_of _ (by decide +kernel)) ggX7_findingOf_X7_finderOf
set_option maxRecDepth 20000 in
theorem ggX7_findingOf_X7_covering : GoodIn wsX7_findingOf wsX7_covering := goodIn_r _ [31, 16, 18, 32, 2, 3, 4, 33, 34, 43, 44, 45, 46, 47, 48, 49, 50, 51, 52] (by decide +kernel) (by decide +kernel)
set_option maxRecDepth 20000 in
theorem gX7_findingOf_X7_covering : GoodIn wsX7_findingOf (wsV RX7 100 RX7 yX7_covering wsX7_covering) := goodIn_app (goodIn_of _ (by decide +kernel)) ggX7_findingOf_X7_covering
theorem dX7_findingOf_0 : decode cX7_findingOf 0 = .ok (.aload_n 1, 1) := by decide +kernel
theorem dX7_findingOf_1 : decode cX7_findingOf 1 = .ok (.getfield 88, 3) := by decide +kernel
theorem dX7_findingOf_4 : decode cX7_findingOf 4 = .ok (.iload_n 2, 1) := by decide +kernel
theorem dX7_findingOf_5 : decode cX7_findingOf 5 = .ok (.invokestatic 40, 3) := by decide +kernel
theorem dX7_findingOf_8 : decode cX7_findingOf 8 = .ok (.istore_n 3, 1) := by decide +kernel
theorem dX7_findingOf_9 : decode cX7_findingOf 9 = .ok (.aload_n 1, 1) := by decide +kernel
theorem dX7_findingOf_10 : decode cX7_findingOf 10 = .ok (.iload_n 2, 1) := by decide +kernel
theorem dX7_findingOf_11 : decode cX7_findingOf 11 = .ok (.invokevirtual 93, 3) := by decide +kernel
theorem dX7_findingOf_14 : decode cX7_findingOf 14 = .ok (.ifCond .ne 5, 3) := by decide +kernel
theorem dX7_findingOf_17 : decode cX7_findingOf 17 = .ok (.iconst 2, 1) := by decide +kernel
theorem dX7_findingOf_18 : decode cX7_findingOf 18 = .ok (.ireturn, 1) := by decide +kernel
theorem dX7_findingOf_19 : decode cX7_findingOf 19 = .ok (.aload_n 0, 1) := by decide +kernel
theorem dX7_findingOf_20 : decode cX7_findingOf 20 = .ok (.iload_n 3, 1) := by decide +kernel
theorem dX7_findingOf_21 : decode cX7_findingOf 21 = .ok (.invokevirtual 97, 3) := by decide +kernel
theorem dX7_findingOf_24 : decode cX7_findingOf 24 = .ok (.iconst (-1), 1) := by decide +kernel
theorem dX7_findingOf_25 : decode cX7_findingOf 25 = .ok (.if_icmp .eq 5, 3) := by decide +kernel
theorem dX7_findingOf_28 : decode cX7_findingOf 28 = .ok (.iconst 0, 1) := by decide +kernel
theorem dX7_findingOf_29 : decode cX7_findingOf 29 = .ok (.ireturn, 1) := by decide +kernel
theorem dX7_findingOf_30 : decode cX7_findingOf 30 = .ok (.aload_n 0, 1) := by decide +kernel
theorem dX7_findingOf_31 : decode cX7_findingOf 31 = .ok (.iload_n 3, 1) := by decide +kernel
theorem dX7_findingOf_32 : decode cX7_findingOf 32 = .ok (.invokevirtual 100, 3) := by decide +kernel
theorem dX7_findingOf_35 : decode cX7_findingOf 35 = .ok (.iconst (-1), 1) := by decide +kernel
theorem dX7_findingOf_36 : decode cX7_findingOf 36 = .ok (.if_icmp .eq 7, 3) := by decide +kernel
theorem dX7_findingOf_39 : decode cX7_findingOf 39 = .ok (.iconst 1, 1) := by decide +kernel
theorem dX7_findingOf_40 : decode cX7_findingOf 40 = .ok (.goto 4, 3) := by decide +kernel
theorem dX7_findingOf_43 : decode cX7_findingOf 43 = .ok (.iconst 2, 1) := by decide +kernel
theorem dX7_findingOf_44 : decode cX7_findingOf 44 = .ok (.ireturn, 1) := by decide +kernel
set_option maxRecDepth 20000 in
theorem ggX7_witnessOf_X10_at : GoodIn wsX7_witnessOf wsX10_at := goodIn_r _ [4] (by decide +kernel) (by decide +kernel)
set_option maxRecDepth 20000 in
theorem gX7_witnessOf_X10_at_n40 : GoodIn wsX7_witnessOf (wsX10_at) := ggX7_witnessOf_X10_at
set_option maxRecDepth 20000 in
theorem ggX7_witnessOf_X7_findingOf : GoodIn wsX7_witnessOf wsX7_findingOf := goodIn_r _ [9, 1, 2, 3, 4, 10, 11, 12, 13, 14, 15, 16, 17, 18, 8, 19, 20, 21, 22, 23, 24, 25, 26, 27, 28, 29, 30, 31, 32, 33, 34, 35, 36, 37, 38, 39, 40, 41, 42, 43, 44, 45, 46, 47, 48, 49, 50, 51, 52, 53, 54, 55, 56] (by decide +kernel) (by decide +kernel)
set_option maxRecDepth 20000 in
theorem gX7_witnessOf_X7_findingOf : GoodIn wsX7_witnessOf (wsV RX7 103 RX7 yX7_findingOf wsX7_findingOf) := goodIn_app (goodIn_of _ (by decide +kernel)) ggX7_witnessOf_X7_findingOf
set_option maxRecDepth 20000 in
theorem ggX7_witnessOf_X7_finderOf : GoodIn wsX7_witnessOf wsX7_finderOf := goodIn_r _ [19, 20, 21, 22, 2, 3, 4, 23, 24, 25, 8, 26, 27, 28, 29, 30, 31, 47, 48, 49, 50, 51, 52, 53, 54, 55, 56] (by decide +kernel) (by decide +kernel)
set_option maxRecDepth 20000 in
theorem gX7_witnessOf_X7_finderOf : GoodIn wsX7_witnessOf (wsV RX7 97 RX7 yX7_finderOf wsX7_finderOf) := goodIn_app (goodIn_of _ (by decide +kernel)) ggX7_witnessOf_X7_finderOf
set_option maxRecDepth 20000 in
theorem ggX7_witnessOf_X7_covering : GoodIn wsX7_witnessOf wsX7_covering := goodIn_r _ [35, 20, 22, 36, 2, 3, 4, 37, 38, 47, 48, 49, 50, 51, 52, 53, 54, 55, 56] (by decide +kernel) (by decide +kernel)
set_option maxRecDepth 20000 in
theorem gX7_witnessOf_X7_covering : GoodIn wsX7_witnessOf (wsV RX7 100 RX7 yX7_covering wsX7_covering) := goodIn_app (goodIn_of _ (by decide +kernel)) ggX7_witnessOf_X7_covering
theorem dX7_witnessOf_0 : decode cX7_witnessOf 0 = .ok (.aload_n 1, 1) := by decide +kernel
theorem dX7_witnessOf_1 : decode cX7_witnessOf 1 = .ok (.getfield 88, 3) := by decide +kernel
theorem dX7_witnessOf_4 : decode cX7_witnessOf 4 = .ok (.iload_n 2, 1) := by decide +kernel
theorem dX7_witnessOf_5 : decode cX7_witnessOf 5 = .ok (.invokestatic 40, 3) := by decide +kernel
theorem dX7_witnessOf_8 : decode cX7_witnessOf 8 = .ok (.istore_n 3, 1) := by decide +kernel
theorem dX7_witnessOf_9 : decode cX7_witnessOf 9 = .ok (.aload_n 0, 1) := by decide +kernel
theorem dX7_witnessOf_10 : decode cX7_witnessOf 10 = .ok (.aload_n 1, 1) := by decide +kernel
theorem dX7_witnessOf_11 : decode cX7_witnessOf 11 = .ok (.iload_n 2, 1) := by decide +kernel
theorem dX7_witnessOf_12 : decode cX7_witnessOf 12 = .ok (.invokevirtual 103, 3) := by decide +kernel
theorem dX7_witnessOf_15 : decode cX7_witnessOf 15 = .ok (.lookupswitch 37 #[(0, 25), (1, 31)], 25) := by decide +kernel
theorem dX7_witnessOf_40 : decode cX7_witnessOf 40 = .ok (.aload_n 0, 1) := by decide +kernel
theorem dX7_witnessOf_41 : decode cX7_witnessOf 41 = .ok (.iload_n 3, 1) := by decide +kernel
theorem dX7_witnessOf_42 : decode cX7_witnessOf 42 = .ok (.invokevirtual 97, 3) := by decide +kernel
theorem dX7_witnessOf_45 : decode cX7_witnessOf 45 = .ok (.ireturn, 1) := by decide +kernel
theorem dX7_witnessOf_46 : decode cX7_witnessOf 46 = .ok (.aload_n 0, 1) := by decide +kernel
theorem dX7_witnessOf_47 : decode cX7_witnessOf 47 = .ok (.iload_n 3, 1) := by decide +kernel
theorem dX7_witnessOf_48 : decode cX7_witnessOf 48 = .ok (.invokevirtual 100, 3) := by decide +kernel
theorem dX7_witnessOf_51 : decode cX7_witnessOf 51 = .ok (.ireturn, 1) := by decide +kernel
theorem dX7_witnessOf_52 : decode cX7_witnessOf 52 = .ok (.iconst (-1), 1) := by decide +kernel
theorem dX7_witnessOf_53 : decode cX7_witnessOf 53 = .ok (.ireturn, 1) := by decide +kernel
set_option maxRecDepth 20000 in
theorem ggX7_countFindings_X4_isJoint : GoodIn wsX7_countFindings wsX4_isJoint := goodIn_r _ [6, 7, 8, 9, 10, 40, 41, 42, 43, 44, 45, 46, 47] (by decide +kernel) (by decide +kernel)
set_option maxRecDepth 20000 in
theorem gX7_countFindings_X4_isJoint : GoodIn wsX7_countFindings (wsV RX7 93 RX4 yX4_isJoint wsX4_isJoint) := goodIn_app (goodIn_of _ (by decide +kernel)) ggX7_countFindings_X4_isJoint
set_option maxRecDepth 20000 in
theorem ggX7_countFindings_X7_findingOf : GoodIn wsX7_countFindings wsX7_findingOf := goodIn_r _ [15, 16, 8, 9, 10, 2, 3, 4, 5, 6, 7, 17, 18, 19, 14, 20, 21, 22, 23, 24, 25, 26, 27, 28, 29, 30, 31, 32, 33, 34, 35, 36, 37, 38, 39, 40, 41, 42, 43, 44, 45, 46, 47, 48, 49, 50, 51, 52, 53, 54, 55, 56, 57] (by decide +kernel) (by decide +kernel)
set_option maxRecDepth 20000 in
theorem gX7_countFindings_X7_findingOf : GoodIn wsX7_countFindings (wsV RX7 103 RX7 yX7_findingOf wsX7_findingOf) := goodIn_app (goodIn_of _ (by decide +kernel)) ggX7_countFindings_X7_findingOf
theorem dX7_countFindings_0 : decode cX7_countFindings 0 = .ok (.iconst 0, 1) := by decide +kernel
theorem dX7_countFindings_1 : decode cX7_countFindings 1 = .ok (.istore_n 3, 1) := by decide +kernel
theorem dX7_countFindings_2 : decode cX7_countFindings 2 = .ok (.iconst 0, 1) := by decide +kernel
theorem dX7_countFindings_3 : decode cX7_countFindings 3 = .ok (.istore 4, 2) := by decide +kernel
theorem dX7_countFindings_5 : decode cX7_countFindings 5 = .ok (.iload 4, 2) := by decide +kernel
theorem dX7_countFindings_7 : decode cX7_countFindings 7 = .ok (.aload_n 1, 1) := by decide +kernel
theorem dX7_countFindings_8 : decode cX7_countFindings 8 = .ok (.getfield 107, 3) := by decide +kernel
theorem dX7_countFindings_11 : decode cX7_countFindings 11 = .ok (.if_icmp .ge 37, 3) := by decide +kernel
theorem dX7_countFindings_14 : decode cX7_countFindings 14 = .ok (.iload_n 3, 1) := by decide +kernel
theorem dX7_countFindings_15 : decode cX7_countFindings 15 = .ok (.aload_n 1, 1) := by decide +kernel
theorem dX7_countFindings_16 : decode cX7_countFindings 16 = .ok (.iload 4, 2) := by decide +kernel
theorem dX7_countFindings_18 : decode cX7_countFindings 18 = .ok (.invokevirtual 93, 3) := by decide +kernel
theorem dX7_countFindings_21 : decode cX7_countFindings 21 = .ok (.ifCond .eq 18, 3) := by decide +kernel
theorem dX7_countFindings_24 : decode cX7_countFindings 24 = .ok (.aload_n 0, 1) := by decide +kernel
theorem dX7_countFindings_25 : decode cX7_countFindings 25 = .ok (.aload_n 1, 1) := by decide +kernel
theorem dX7_countFindings_26 : decode cX7_countFindings 26 = .ok (.iload 4, 2) := by decide +kernel
theorem dX7_countFindings_28 : decode cX7_countFindings 28 = .ok (.invokevirtual 103, 3) := by decide +kernel
theorem dX7_countFindings_31 : decode cX7_countFindings 31 = .ok (.iload_n 2, 1) := by decide +kernel
theorem dX7_countFindings_32 : decode cX7_countFindings 32 = .ok (.if_icmp .ne 7, 3) := by decide +kernel
theorem dX7_countFindings_35 : decode cX7_countFindings 35 = .ok (.iconst 1, 1) := by decide +kernel
theorem dX7_countFindings_36 : decode cX7_countFindings 36 = .ok (.goto 4, 3) := by decide +kernel
theorem dX7_countFindings_39 : decode cX7_countFindings 39 = .ok (.iconst 0, 1) := by decide +kernel
theorem dX7_countFindings_40 : decode cX7_countFindings 40 = .ok (.iadd, 1) := by decide +kernel
theorem dX7_countFindings_41 : decode cX7_countFindings 41 = .ok (.istore_n 3, 1) := by decide +kernel
theorem dX7_countFindings_42 : decode cX7_countFindings 42 = .ok (.iinc 4 1, 3) := by decide +kernel
theorem dX7_countFindings_45 : decode cX7_countFindings 45 = .ok (.goto (-40), 3) := by decide +kernel
theorem dX7_countFindings_48 : decode cX7_countFindings 48 = .ok (.iload_n 3, 1) := by decide +kernel
theorem dX7_countFindings_49 : decode cX7_countFindings 49 = .ok (.ireturn, 1) := by decide +kernel
set_option maxRecDepth 20000 in
theorem ggX7_findsAll_X7_countFindings : GoodIn wsX7_findsAll wsX7_countFindings := goodIn_r _ [5, 6, 7, 8, 9, 10, 11, 12, 13, 14, 15, 16, 17, 18, 4, 19, 20, 21, 22, 23, 24, 25, 26, 27, 28, 29, 30, 31, 32, 33, 34, 35, 36, 37, 38, 39, 40, 41, 42, 43, 44, 45, 46, 47, 48, 49, 50, 51, 52, 53, 54, 55, 56, 57, 58, 59, 60, 61] (by decide +kernel) (by decide +kernel)
set_option maxRecDepth 20000 in
theorem gX7_findsAll_X7_countFindings : GoodIn wsX7_findsAll (wsV RX7 108 RX7 yX7_countFindings wsX7_countFindings) := goodIn_app (goodIn_of _ (by decide +kernel)) ggX7_findsAll_X7_countFindings
theorem dX7_findsAll_0 : decode cX7_findsAll 0 = .ok (.aload_n 0, 1) := by decide +kernel
theorem dX7_findsAll_1 : decode cX7_findsAll 1 = .ok (.aload_n 1, 1) := by decide +kernel
theorem dX7_findsAll_2 : decode cX7_findsAll 2 = .ok (.iconst 1, 1) := by decide +kernel
theorem dX7_findsAll_3 : decode cX7_findsAll 3 = .ok (.invokevirtual 108, 3) := by decide +kernel
theorem dX7_findsAll_6 : decode cX7_findsAll 6 = .ok (.ifCond .ne 16, 3) := by decide +kernel
theorem dX7_findsAll_9 : decode cX7_findsAll 9 = .ok (.aload_n 0, 1) := by decide +kernel
theorem dX7_findsAll_10 : decode cX7_findsAll 10 = .ok (.aload_n 1, 1) := by decide +kernel
theorem dX7_findsAll_11 : decode cX7_findsAll 11 = .ok (.iconst 2, 1) := by decide +kernel
theorem dX7_findsAll_12 : decode cX7_findsAll 12 = .ok (.invokevirtual 108, 3) := by decide +kernel
theorem dX7_findsAll_15 : decode cX7_findsAll 15 = .ok (.ifCond .ne 7, 3) := by decide +kernel
theorem dX7_findsAll_18 : decode cX7_findsAll 18 = .ok (.iconst 1, 1) := by decide +kernel
theorem dX7_findsAll_19 : decode cX7_findsAll 19 = .ok (.goto 4, 3) := by decide +kernel
theorem dX7_findsAll_22 : decode cX7_findsAll 22 = .ok (.iconst 0, 1) := by decide +kernel
theorem dX7_findsAll_23 : decode cX7_findsAll 23 = .ok (.ireturn, 1) := by decide +kernel
set_option maxRecDepth 20000 in
theorem ggX7_countUnexplained_X10_at : GoodIn wsX7_countUnexplained wsX10_at := goodIn_r _ [6] (by decide +kernel) (by decide +kernel)
set_option maxRecDepth 20000 in
theorem gX7_countUnexplained_X10_at_n40 : GoodIn wsX7_countUnexplained (wsX10_at) := ggX7_countUnexplained_X10_at
set_option maxRecDepth 20000 in
theorem ggX7_countUnexplained_X7_isNearJoint : GoodIn wsX7_countUnexplained wsX7_isNearJoint := goodIn_r _ [11, 12, 13, 14, 15, 16, 17, 18, 19, 4, 5, 6, 20, 21, 22, 10, 23, 24, 25, 26, 27, 28, 39, 40, 41, 42, 43, 44, 45, 46, 29, 30, 31, 32, 33, 34, 35, 36, 37, 38] (by decide +kernel) (by decide +kernel)
set_option maxRecDepth 20000 in
theorem gX7_countUnexplained_X7_isNearJoint : GoodIn wsX7_countUnexplained (wsV RX7 111 RX7 yX7_isNearJoint wsX7_isNearJoint) := goodIn_app (goodIn_of _ (by decide +kernel)) ggX7_countUnexplained_X7_isNearJoint
theorem dX7_countUnexplained_0 : decode cX7_countUnexplained 0 = .ok (.iconst 0, 1) := by decide +kernel
theorem dX7_countUnexplained_1 : decode cX7_countUnexplained 1 = .ok (.istore_n 2, 1) := by decide +kernel
theorem dX7_countUnexplained_2 : decode cX7_countUnexplained 2 = .ok (.iconst 0, 1) := by decide +kernel
theorem dX7_countUnexplained_3 : decode cX7_countUnexplained 3 = .ok (.istore_n 3, 1) := by decide +kernel
theorem dX7_countUnexplained_4 : decode cX7_countUnexplained 4 = .ok (.iload_n 3, 1) := by decide +kernel
theorem dX7_countUnexplained_5 : decode cX7_countUnexplained 5 = .ok (.aload_n 0, 1) := by decide +kernel
theorem dX7_countUnexplained_6 : decode cX7_countUnexplained 6 = .ok (.getfield 36, 3) := by decide +kernel
theorem dX7_countUnexplained_9 : decode cX7_countUnexplained 9 = .ok (.if_icmp .ge 68, 3) := by decide +kernel
theorem dX7_countUnexplained_12 : decode cX7_countUnexplained 12 = .ok (.aload_n 0, 1) := by decide +kernel
theorem dX7_countUnexplained_13 : decode cX7_countUnexplained 13 = .ok (.getfield 24, 3) := by decide +kernel
theorem dX7_countUnexplained_16 : decode cX7_countUnexplained 16 = .ok (.iload_n 3, 1) := by decide +kernel
theorem dX7_countUnexplained_17 : decode cX7_countUnexplained 17 = .ok (.invokestatic 40, 3) := by decide +kernel
theorem dX7_countUnexplained_20 : decode cX7_countUnexplained 20 = .ok (.ifCond .eq 15, 3) := by decide +kernel
theorem dX7_countUnexplained_23 : decode cX7_countUnexplained 23 = .ok (.aload_n 0, 1) := by decide +kernel
theorem dX7_countUnexplained_24 : decode cX7_countUnexplained 24 = .ok (.getfield 24, 3) := by decide +kernel
theorem dX7_countUnexplained_27 : decode cX7_countUnexplained 27 = .ok (.iload_n 3, 1) := by decide +kernel
theorem dX7_countUnexplained_28 : decode cX7_countUnexplained 28 = .ok (.invokestatic 40, 3) := by decide +kernel
theorem dX7_countUnexplained_31 : decode cX7_countUnexplained 31 = .ok (.iconst 1, 1) := by decide +kernel
theorem dX7_countUnexplained_32 : decode cX7_countUnexplained 32 = .ok (.if_icmp .ne 7, 3) := by decide +kernel
theorem dX7_countUnexplained_35 : decode cX7_countUnexplained 35 = .ok (.iconst 1, 1) := by decide +kernel
theorem dX7_countUnexplained_36 : decode cX7_countUnexplained 36 = .ok (.goto 4, 3) := by decide +kernel
theorem dX7_countUnexplained_39 : decode cX7_countUnexplained 39 = .ok (.iconst 0, 1) := by decide +kernel
theorem dX7_countUnexplained_40 : decode cX7_countUnexplained 40 = .ok (.istore 4, 2) := by decide +kernel
theorem dX7_countUnexplained_42 : decode cX7_countUnexplained 42 = .ok (.iload_n 2, 1) := by decide +kernel
theorem dX7_countUnexplained_43 : decode cX7_countUnexplained 43 = .ok (.iload 4, 2) := by decide +kernel
theorem dX7_countUnexplained_45 : decode cX7_countUnexplained 45 = .ok (.ifCond .eq 23, 3) := by decide +kernel
theorem dX7_countUnexplained_48 : decode cX7_countUnexplained 48 = .ok (.aload_n 0, 1) := by decide +kernel
theorem dX7_countUnexplained_49 : decode cX7_countUnexplained 49 = .ok (.aload_n 1, 1) := by decide +kernel
theorem dX7_countUnexplained_50 : decode cX7_countUnexplained 50 = .ok (.aload_n 0, 1) := by decide +kernel
theorem dX7_countUnexplained_51 : decode cX7_countUnexplained 51 = .ok (.getfield 9, 3) := by decide +kernel
theorem dX7_countUnexplained_54 : decode cX7_countUnexplained 54 = .ok (.iload_n 3, 1) := by decide +kernel
theorem dX7_countUnexplained_55 : decode cX7_countUnexplained 55 = .ok (.invokestatic 40, 3) := by decide +kernel
theorem dX7_countUnexplained_58 : decode cX7_countUnexplained 58 = .ok (.invokevirtual 111, 3) := by decide +kernel
theorem dX7_countUnexplained_61 : decode cX7_countUnexplained 61 = .ok (.ifCond .ne 7, 3) := by decide +kernel
theorem dX7_countUnexplained_64 : decode cX7_countUnexplained 64 = .ok (.iconst 1, 1) := by decide +kernel
theorem dX7_countUnexplained_65 : decode cX7_countUnexplained 65 = .ok (.goto 4, 3) := by decide +kernel
theorem dX7_countUnexplained_68 : decode cX7_countUnexplained 68 = .ok (.iconst 0, 1) := by decide +kernel
theorem dX7_countUnexplained_69 : decode cX7_countUnexplained 69 = .ok (.iadd, 1) := by decide +kernel
theorem dX7_countUnexplained_70 : decode cX7_countUnexplained 70 = .ok (.istore_n 2, 1) := by decide +kernel
theorem dX7_countUnexplained_71 : decode cX7_countUnexplained 71 = .ok (.iinc 3 1, 3) := by decide +kernel
theorem dX7_countUnexplained_74 : decode cX7_countUnexplained 74 = .ok (.goto (-70), 3) := by decide +kernel
theorem dX7_countUnexplained_77 : decode cX7_countUnexplained 77 = .ok (.iload_n 2, 1) := by decide +kernel
theorem dX7_countUnexplained_78 : decode cX7_countUnexplained 78 = .ok (.ireturn, 1) := by decide +kernel
set_option maxRecDepth 20000 in
theorem ggX7_isNearJoint_X4_isJoint : GoodIn wsX7_isNearJoint wsX4_isJoint := goodIn_r _ [7, 8, 9, 10, 11, 22, 23, 24, 25, 26, 27, 28, 29] (by decide +kernel) (by decide +kernel)
set_option maxRecDepth 20000 in
theorem gX7_isNearJoint_X4_isJoint : GoodIn wsX7_isNearJoint (wsV RX7 93 RX4 yX4_isJoint wsX4_isJoint) := goodIn_app (goodIn_of _ (by decide +kernel)) ggX7_isNearJoint_X4_isJoint
set_option maxRecDepth 20000 in
theorem ggX7_isNearJoint_X10_at : GoodIn wsX7_isNearJoint wsX10_at := goodIn_r _ [11] (by decide +kernel) (by decide +kernel)
set_option maxRecDepth 20000 in
theorem gX7_isNearJoint_X10_at_n40 : GoodIn wsX7_isNearJoint (wsX10_at) := ggX7_isNearJoint_X10_at
set_option maxRecDepth 20000 in
theorem ggX7_isNearJoint_X7_isNear : GoodIn wsX7_isNearJoint wsX7_isNear := goodIn_r _ [16, 17, 18, 19, 20, 21, 30, 31, 32, 33, 34, 35, 36, 37, 38, 39] (by decide +kernel) (by decide +kernel)
set_option maxRecDepth 20000 in
theorem gX7_isNearJoint_X7_isNear : GoodIn wsX7_isNearJoint (wsV RX7 84 RX7 yX7_isNear wsX7_isNear) := goodIn_app (goodIn_of _ (by decide +kernel)) ggX7_isNearJoint_X7_isNear
theorem dX7_isNearJoint_0 : decode cX7_isNearJoint 0 = .ok (.iconst 0, 1) := by decide +kernel
theorem dX7_isNearJoint_1 : decode cX7_isNearJoint 1 = .ok (.istore_n 3, 1) := by decide +kernel
theorem dX7_isNearJoint_2 : decode cX7_isNearJoint 2 = .ok (.iload_n 3, 1) := by decide +kernel
theorem dX7_isNearJoint_3 : decode cX7_isNearJoint 3 = .ok (.aload_n 1, 1) := by decide +kernel
theorem dX7_isNearJoint_4 : decode cX7_isNearJoint 4 = .ok (.getfield 107, 3) := by decide +kernel
theorem dX7_isNearJoint_7 : decode cX7_isNearJoint 7 = .ok (.if_icmp .ge 35, 3) := by decide +kernel
theorem dX7_isNearJoint_10 : decode cX7_isNearJoint 10 = .ok (.aload_n 1, 1) := by decide +kernel
theorem dX7_isNearJoint_11 : decode cX7_isNearJoint 11 = .ok (.iload_n 3, 1) := by decide +kernel
theorem dX7_isNearJoint_12 : decode cX7_isNearJoint 12 = .ok (.invokevirtual 93, 3) := by decide +kernel
theorem dX7_isNearJoint_15 : decode cX7_isNearJoint 15 = .ok (.ifCond .eq 21, 3) := by decide +kernel
theorem dX7_isNearJoint_18 : decode cX7_isNearJoint 18 = .ok (.aload_n 0, 1) := by decide +kernel
theorem dX7_isNearJoint_19 : decode cX7_isNearJoint 19 = .ok (.aload_n 1, 1) := by decide +kernel
theorem dX7_isNearJoint_20 : decode cX7_isNearJoint 20 = .ok (.getfield 88, 3) := by decide +kernel
theorem dX7_isNearJoint_23 : decode cX7_isNearJoint 23 = .ok (.iload_n 3, 1) := by decide +kernel
theorem dX7_isNearJoint_24 : decode cX7_isNearJoint 24 = .ok (.invokestatic 40, 3) := by decide +kernel
theorem dX7_isNearJoint_27 : decode cX7_isNearJoint 27 = .ok (.iload_n 2, 1) := by decide +kernel
theorem dX7_isNearJoint_28 : decode cX7_isNearJoint 28 = .ok (.invokevirtual 84, 3) := by decide +kernel
theorem dX7_isNearJoint_31 : decode cX7_isNearJoint 31 = .ok (.ifCond .eq 5, 3) := by decide +kernel
theorem dX7_isNearJoint_34 : decode cX7_isNearJoint 34 = .ok (.iconst 1, 1) := by decide +kernel
theorem dX7_isNearJoint_35 : decode cX7_isNearJoint 35 = .ok (.ireturn, 1) := by decide +kernel
theorem dX7_isNearJoint_36 : decode cX7_isNearJoint 36 = .ok (.iinc 3 1, 3) := by decide +kernel
theorem dX7_isNearJoint_39 : decode cX7_isNearJoint 39 = .ok (.goto (-37), 3) := by decide +kernel
theorem dX7_isNearJoint_42 : decode cX7_isNearJoint 42 = .ok (.iconst 0, 1) := by decide +kernel
theorem dX7_isNearJoint_43 : decode cX7_isNearJoint 43 = .ok (.ireturn, 1) := by decide +kernel
set_option maxRecDepth 20000 in
theorem ggX10_init_X8_init : GoodIn wsX10_init wsX8_init := goodIn_r _ [45, 46, 2, 3, 47, 48, 49, 50, 40, 51, 52, 53, 54, 55, 56, 57, 58, 59, 60, 61, 62, 63, 64, 65, 66, 67, 68, 69, 70, 71, 72, 188, 189, 190, 191, 192, 193, 194, 195, 128, 129, 130] (by decide +kernel) (by decide +kernel)
set_option maxRecDepth 20000 in
theorem gX10_init_X8_init : GoodIn wsX10_init (wsX8_init) := ggX10_init_X8_init
set_option maxRecDepth 20000 in
theorem ggX10_init_X2_init : GoodIn wsX10_init wsX2_init := goodIn_r _ [75, 76, 2, 3, 77, 78, 5, 6, 79, 80, 81, 44, 45, 46, 47, 48, 49, 50, 40, 51, 52, 53, 54, 55, 56, 57, 58, 59, 60, 61, 62, 63, 64, 65, 66, 67, 68, 69, 70, 71, 72, 142, 143, 144, 128, 129, 130, 188, 189, 190, 191, 192, 193, 194, 195] (by decide +kernel) (by decide +kernel)
set_option maxRecDepth 20000 in
theorem gX10_init_X2_init : GoodIn wsX10_init (wsX2_init) := ggX10_init_X2_init
set_option maxRecDepth 20000 in
theorem ggX10_init_X5_init : GoodIn wsX10_init wsX5_init := goodIn_r _ [83, 84, 2, 3, 40, 85, 86, 87, 88, 48, 49, 89, 90, 58, 59, 60, 61, 62, 63, 64, 65, 66, 67, 68, 69, 70, 71, 72, 145, 146, 147, 148, 149, 150, 151, 152, 153, 188, 189, 190, 191, 192, 193, 194, 195] (by decide +kernel) (by decide +kernel)
set_option maxRecDepth 20000 in
theorem gX10_init_X5_init_n25 : GoodIn wsX10_init (wsX5_init) := ggX10_init_X5_init
set_option maxRecDepth 20000 in
theorem ggX10_init_X3_init : GoodIn wsX10_init wsX3_init := goodIn_r _ [92, 93, 2, 3, 40, 94, 95, 154, 155] (by decide +kernel) (by decide +kernel)
set_option maxRecDepth 20000 in
theorem gX10_init_X3_init_n32 : GoodIn wsX10_init (wsX3_init) := ggX10_init_X3_init
set_option maxRecDepth 20000 in
theorem ggX10_init_X0_init : GoodIn wsX10_init wsX0_init := goodIn_r _ [97, 98, 2, 3] (by decide +kernel) (by decide +kernel)
set_option maxRecDepth 20000 in
theorem gX10_init_X0_init_n39 : GoodIn wsX10_init (wsX0_init) := ggX10_init_X0_init
set_option maxRecDepth 20000 in
theorem ggX10_init_X6_init : GoodIn wsX10_init wsX6_init := goodIn_r _ [100, 101, 2, 3] (by decide +kernel) (by decide +kernel)
set_option maxRecDepth 20000 in
theorem gX10_init_X6_init_n46 : GoodIn wsX10_init (wsX6_init) := ggX10_init_X6_init
set_option maxRecDepth 20000 in
theorem ggX10_init_X1_init : GoodIn wsX10_init wsX1_init := goodIn_r _ [103, 104, 2, 3, 40, 105, 106, 107, 108, 109, 162, 163, 164, 165, 166, 167, 168] (by decide +kernel) (by decide +kernel)
set_option maxRecDepth 20000 in
theorem gX10_init_X1_init_n53 : GoodIn wsX10_init (wsX1_init) := ggX10_init_X1_init
set_option maxRecDepth 20000 in
theorem ggX10_init_X9_init : GoodIn wsX10_init wsX9_init := goodIn_r _ [111, 112, 2, 3, 40, 113, 114, 115, 116, 169, 170, 171, 172, 173, 174, 175, 176, 177] (by decide +kernel) (by decide +kernel)
set_option maxRecDepth 20000 in
theorem gX10_init_X9_init_n60 : GoodIn wsX10_init (wsX9_init) := ggX10_init_X9_init
set_option maxRecDepth 20000 in
theorem ggX10_init_X7_init : GoodIn wsX10_init wsX7_init := goodIn_r _ [118, 119, 2, 3, 40, 120, 121, 122, 123, 124, 125, 126, 127, 178, 179, 180, 181, 182, 183, 184, 185, 186, 187] (by decide +kernel) (by decide +kernel)
set_option maxRecDepth 20000 in
theorem gX10_init_X7_init_n67 : GoodIn wsX10_init (wsX7_init) := ggX10_init_X7_init
theorem dX10_init_0 : decode cX10_init 0 = .ok (.aload_n 0, 1) := by decide +kernel
theorem dX10_init_1 : decode cX10_init 1 = .ok (.invokespecial 3, 3) := by decide +kernel
theorem dX10_init_4 : decode cX10_init 4 = .ok (.aload_n 0, 1) := by decide +kernel
theorem dX10_init_5 : decode cX10_init 5 = .ok (.new 9, 3) := by decide +kernel
theorem dX10_init_8 : decode cX10_init 8 = .ok (.dup, 1) := by decide +kernel
theorem dX10_init_9 : decode cX10_init 9 = .ok (.invokespecial 11, 3) := by decide +kernel
theorem dX10_init_12 : decode cX10_init 12 = .ok (.putfield 12, 3) := by decide +kernel
theorem dX10_init_15 : decode cX10_init 15 = .ok (.aload_n 0, 1) := by decide +kernel
theorem dX10_init_16 : decode cX10_init 16 = .ok (.new 16, 3) := by decide +kernel
theorem dX10_init_19 : decode cX10_init 19 = .ok (.dup, 1) := by decide +kernel
theorem dX10_init_20 : decode cX10_init 20 = .ok (.invokespecial 18, 3) := by decide +kernel
theorem dX10_init_23 : decode cX10_init 23 = .ok (.putfield 19, 3) := by decide +kernel
theorem dX10_init_26 : decode cX10_init 26 = .ok (.aload_n 0, 1) := by decide +kernel
theorem dX10_init_27 : decode cX10_init 27 = .ok (.new 23, 3) := by decide +kernel
theorem dX10_init_30 : decode cX10_init 30 = .ok (.dup, 1) := by decide +kernel
theorem dX10_init_31 : decode cX10_init 31 = .ok (.invokespecial 25, 3) := by decide +kernel
theorem dX10_init_34 : decode cX10_init 34 = .ok (.putfield 26, 3) := by decide +kernel
theorem dX10_init_37 : decode cX10_init 37 = .ok (.aload_n 0, 1) := by decide +kernel
theorem dX10_init_38 : decode cX10_init 38 = .ok (.new 30, 3) := by decide +kernel
theorem dX10_init_41 : decode cX10_init 41 = .ok (.dup, 1) := by decide +kernel
theorem dX10_init_42 : decode cX10_init 42 = .ok (.invokespecial 32, 3) := by decide +kernel
theorem dX10_init_45 : decode cX10_init 45 = .ok (.putfield 33, 3) := by decide +kernel
theorem dX10_init_48 : decode cX10_init 48 = .ok (.aload_n 0, 1) := by decide +kernel
theorem dX10_init_49 : decode cX10_init 49 = .ok (.new 37, 3) := by decide +kernel
theorem dX10_init_52 : decode cX10_init 52 = .ok (.dup, 1) := by decide +kernel
theorem dX10_init_53 : decode cX10_init 53 = .ok (.invokespecial 39, 3) := by decide +kernel
theorem dX10_init_56 : decode cX10_init 56 = .ok (.putfield 40, 3) := by decide +kernel
theorem dX10_init_59 : decode cX10_init 59 = .ok (.aload_n 0, 1) := by decide +kernel
theorem dX10_init_60 : decode cX10_init 60 = .ok (.new 44, 3) := by decide +kernel
theorem dX10_init_63 : decode cX10_init 63 = .ok (.dup, 1) := by decide +kernel
theorem dX10_init_64 : decode cX10_init 64 = .ok (.invokespecial 46, 3) := by decide +kernel
theorem dX10_init_67 : decode cX10_init 67 = .ok (.putfield 47, 3) := by decide +kernel
theorem dX10_init_70 : decode cX10_init 70 = .ok (.aload_n 0, 1) := by decide +kernel
theorem dX10_init_71 : decode cX10_init 71 = .ok (.new 51, 3) := by decide +kernel
theorem dX10_init_74 : decode cX10_init 74 = .ok (.dup, 1) := by decide +kernel
theorem dX10_init_75 : decode cX10_init 75 = .ok (.invokespecial 53, 3) := by decide +kernel
theorem dX10_init_78 : decode cX10_init 78 = .ok (.putfield 54, 3) := by decide +kernel
theorem dX10_init_81 : decode cX10_init 81 = .ok (.aload_n 0, 1) := by decide +kernel
theorem dX10_init_82 : decode cX10_init 82 = .ok (.new 58, 3) := by decide +kernel
theorem dX10_init_85 : decode cX10_init 85 = .ok (.dup, 1) := by decide +kernel
theorem dX10_init_86 : decode cX10_init 86 = .ok (.invokespecial 60, 3) := by decide +kernel
theorem dX10_init_89 : decode cX10_init 89 = .ok (.putfield 61, 3) := by decide +kernel
theorem dX10_init_92 : decode cX10_init 92 = .ok (.aload_n 0, 1) := by decide +kernel
theorem dX10_init_93 : decode cX10_init 93 = .ok (.new 65, 3) := by decide +kernel
theorem dX10_init_96 : decode cX10_init 96 = .ok (.dup, 1) := by decide +kernel
theorem dX10_init_97 : decode cX10_init 97 = .ok (.invokespecial 67, 3) := by decide +kernel
theorem dX10_init_100 : decode cX10_init 100 = .ok (.putfield 68, 3) := by decide +kernel
theorem dX10_init_103 : decode cX10_init 103 = .ok (.aload_n 0, 1) := by decide +kernel
theorem dX10_init_104 : decode cX10_init 104 = .ok (.bipush 11, 2) := by decide +kernel
theorem dX10_init_106 : decode cX10_init 106 = .ok (.newarray .int, 2) := by decide +kernel
theorem dX10_init_108 : decode cX10_init 108 = .ok (.putfield 72, 3) := by decide +kernel
theorem dX10_init_111 : decode cX10_init 111 = .ok (.aload_n 0, 1) := by decide +kernel
theorem dX10_init_112 : decode cX10_init 112 = .ok (.iconst 0, 1) := by decide +kernel
theorem dX10_init_113 : decode cX10_init 113 = .ok (.putfield 76, 3) := by decide +kernel
theorem dX10_init_116 : decode cX10_init 116 = .ok (.return_, 1) := by decide +kernel
set_option maxRecDepth 20000 in
theorem ggX10_type_X10_isWithin : GoodIn wsX10_type wsX10_isWithin := goodIn_r _ [8] (by decide +kernel) (by decide +kernel)
set_option maxRecDepth 20000 in
theorem gX10_type_X10_isWithin : GoodIn wsX10_type (va_wsS RX10 80 yX10_isWithin wsX10_isWithin) := goodIn_app (goodIn_of _ (by decide +kernel)) ggX10_type_X10_isWithin
set_option maxRecDepth 20000 in
theorem ggX10_type_X5_append : GoodIn wsX10_type wsX5_append := goodIn_r _ [13, 14, 15, 16, 7, 17, 29, 30, 31, 32, 33, 34, 35, 36, 37] (by decide +kernel) (by decide +kernel)
set_option maxRecDepth 20000 in
theorem gX10_type_X5_append : GoodIn wsX10_type (wsV RX10 90 RX5 yX5_append wsX5_append) := goodIn_app (goodIn_of _ (by decide +kernel)) ggX10_type_X5_append
theorem dX10_type_0 : decode cX10_type 0 = .ok (.iload_n 1, 1) := by decide +kernel
theorem dX10_type_1 : decode cX10_type 1 = .ok (.bipush 32, 2) := by decide +kernel
theorem dX10_type_3 : decode cX10_type 3 = .ok (.bipush 126, 2) := by decide +kernel
theorem dX10_type_5 : decode cX10_type 5 = .ok (.invokestatic 80, 3) := by decide +kernel
theorem dX10_type_8 : decode cX10_type 8 = .ok (.ifCond .ne 6, 3) := by decide +kernel
theorem dX10_type_11 : decode cX10_type 11 = .ok (.ldc 84, 2) := by decide +kernel
theorem dX10_type_13 : decode cX10_type 13 = .ok (.ireturn, 1) := by decide +kernel
theorem dX10_type_14 : decode cX10_type 14 = .ok (.aload_n 0, 1) := by decide +kernel
theorem dX10_type_15 : decode cX10_type 15 = .ok (.getfield 26, 3) := by decide +kernel
theorem dX10_type_18 : decode cX10_type 18 = .ok (.getfield 85, 3) := by decide +kernel
theorem dX10_type_21 : decode cX10_type 21 = .ok (.bipush 120, 2) := by decide +kernel
theorem dX10_type_23 : decode cX10_type 23 = .ok (.if_icmp .lt 6, 3) := by decide +kernel
theorem dX10_type_26 : decode cX10_type 26 = .ok (.ldc 89, 2) := by decide +kernel
theorem dX10_type_28 : decode cX10_type 28 = .ok (.ireturn, 1) := by decide +kernel
theorem dX10_type_29 : decode cX10_type 29 = .ok (.aload_n 0, 1) := by decide +kernel
theorem dX10_type_30 : decode cX10_type 30 = .ok (.getfield 26, 3) := by decide +kernel
theorem dX10_type_33 : decode cX10_type 33 = .ok (.iload_n 1, 1) := by decide +kernel
theorem dX10_type_34 : decode cX10_type 34 = .ok (.invokevirtual 90, 3) := by decide +kernel
theorem dX10_type_37 : decode cX10_type 37 = .ok (.ireturn, 1) := by decide +kernel
set_option maxRecDepth 20000 in
theorem ggX10_clearText_X5_empty : GoodIn wsX10_clearText wsX5_empty := goodIn_r _ [6, 7, 19, 20, 21, 22, 23, 24, 25, 26, 27] (by decide +kernel) (by decide +kernel)
set_option maxRecDepth 20000 in
theorem gX10_clearText_X5_empty : GoodIn wsX10_clearText (wsV RX10 94 RX5 yX5_empty wsX5_empty) := goodIn_app (goodIn_of _ (by decide +kernel)) ggX10_clearText_X5_empty
theorem dX10_clearText_0 : decode cX10_clearText 0 = .ok (.aload_n 0, 1) := by decide +kernel
theorem dX10_clearText_1 : decode cX10_clearText 1 = .ok (.getfield 26, 3) := by decide +kernel
theorem dX10_clearText_4 : decode cX10_clearText 4 = .ok (.invokevirtual 94, 3) := by decide +kernel
theorem dX10_clearText_7 : decode cX10_clearText 7 = .ok (.ireturn, 1) := by decide +kernel
set_option maxRecDepth 20000 in
theorem ggX10_fault_X10_isWithin : GoodIn wsX10_fault wsX10_isWithin := goodIn_r _ [10] (by decide +kernel) (by decide +kernel)
set_option maxRecDepth 20000 in
theorem gX10_fault_X10_isWithin : GoodIn wsX10_fault (va_wsS RX10 80 yX10_isWithin wsX10_isWithin) := goodIn_app (goodIn_of _ (by decide +kernel)) ggX10_fault_X10_isWithin
set_option maxRecDepth 20000 in
theorem ggX10_fault_X5_read : GoodIn wsX10_fault wsX5_read := goodIn_r _ [15, 16, 17, 18, 19, 20, 21, 22, 23, 24, 25, 26, 27, 28, 29, 30, 9, 31, 32, 33, 34, 14, 35, 36, 37, 38, 39, 40, 41, 42, 43, 44, 45, 46, 47, 48, 49, 50, 51, 52, 53, 54, 55, 56, 57, 58, 59, 60, 61, 62, 63, 64, 65, 66, 67, 68, 69, 70, 71, 72, 73, 74, 75, 76, 77, 78, 79, 80, 81, 82, 83, 84, 85, 86, 87, 88, 89, 90, 91, 92, 93, 94, 95, 96, 97, 98, 99, 100, 101, 102, 103, 104, 105, 8, 10, 106, 107, 108, 109, 110, 111, 112, 113, 114, 115, 116, 117, 118, 119, 120, 121, 122, 123, 124, 125, 126, 127, 128, 129, 130, 131, 132, 133, 134, 135, 136, 137, 138, 139, 140, 141, 142, 143, 144, 145, 146, 147, 148, 149, 150, 151, 152, 153, 154, 155, 156, 157, 158, 159, 160, 161, 162, 163, 164, 165, 166, 167, 168, 169, 181, 182, 183, 184, 185, 186, 187, 188, 189, 190, 191, 192, 193, 194, 195, 196, 197] (by decide +kernel) (by decide +kernel)
set_option maxRecDepth 20000 in
theorem gX10_fault_X5_read : GoodIn wsX10_fault (wsV RX10 98 RX5 yX5_read wsX5_read) := goodIn_app (goodIn_of _ (by decide +kernel)) ggX10_fault_X5_read
theorem dX10_fault_0 : decode cX10_fault 0 = .ok (.iload_n 1, 1) := by decide +kernel
theorem dX10_fault_1 : decode cX10_fault 1 = .ok (.iconst 0, 1) := by decide +kernel
theorem dX10_fault_2 : decode cX10_fault 2 = .ok (.iconst 2, 1) := by decide +kernel
theorem dX10_fault_3 : decode cX10_fault 3 = .ok (.invokestatic 80, 3) := by decide +kernel
theorem dX10_fault_6 : decode cX10_fault 6 = .ok (.ifCond .ne 6, 3) := by decide +kernel
theorem dX10_fault_9 : decode cX10_fault 9 = .ok (.ldc 84, 2) := by decide +kernel
theorem dX10_fault_11 : decode cX10_fault 11 = .ok (.ireturn, 1) := by decide +kernel
theorem dX10_fault_12 : decode cX10_fault 12 = .ok (.aload_n 0, 1) := by decide +kernel
theorem dX10_fault_13 : decode cX10_fault 13 = .ok (.getfield 26, 3) := by decide +kernel
theorem dX10_fault_16 : decode cX10_fault 16 = .ok (.invokevirtual 98, 3) := by decide +kernel
theorem dX10_fault_19 : decode cX10_fault 19 = .ok (.aload_n 0, 1) := by decide +kernel
theorem dX10_fault_20 : decode cX10_fault 20 = .ok (.getfield 26, 3) := by decide +kernel
theorem dX10_fault_23 : decode cX10_fault 23 = .ok (.getfield 101, 3) := by decide +kernel
theorem dX10_fault_26 : decode cX10_fault 26 = .ok (.ifCond .ne 6, 3) := by decide +kernel
theorem dX10_fault_29 : decode cX10_fault 29 = .ok (.ldc 104, 2) := by decide +kernel
theorem dX10_fault_31 : decode cX10_fault 31 = .ok (.ireturn, 1) := by decide +kernel
theorem dX10_fault_32 : decode cX10_fault 32 = .ok (.iload_n 1, 1) := by decide +kernel
theorem dX10_fault_33 : decode cX10_fault 33 = .ok (.lookupswitch 43 #[(0, 27), (1, 35)], 27) := by decide +kernel
theorem dX10_fault_60 : decode cX10_fault 60 = .ok (.aload_n 0, 1) := by decide +kernel
theorem dX10_fault_61 : decode cX10_fault 61 = .ok (.getfield 26, 3) := by decide +kernel
theorem dX10_fault_64 : decode cX10_fault 64 = .ok (.getfield 105, 3) := by decide +kernel
theorem dX10_fault_67 : decode cX10_fault 67 = .ok (.ireturn, 1) := by decide +kernel
theorem dX10_fault_68 : decode cX10_fault 68 = .ok (.aload_n 0, 1) := by decide +kernel
theorem dX10_fault_69 : decode cX10_fault 69 = .ok (.getfield 26, 3) := by decide +kernel
theorem dX10_fault_72 : decode cX10_fault 72 = .ok (.getfield 101, 3) := by decide +kernel
theorem dX10_fault_75 : decode cX10_fault 75 = .ok (.ireturn, 1) := by decide +kernel
theorem dX10_fault_76 : decode cX10_fault 76 = .ok (.aload_n 0, 1) := by decide +kernel
theorem dX10_fault_77 : decode cX10_fault 77 = .ok (.getfield 26, 3) := by decide +kernel
theorem dX10_fault_80 : decode cX10_fault 80 = .ok (.getfield 108, 3) := by decide +kernel
theorem dX10_fault_83 : decode cX10_fault 83 = .ok (.ireturn, 1) := by decide +kernel
set_option maxRecDepth 20000 in
theorem ggX10_lay_X5_read : GoodIn wsX10_lay wsX5_read := goodIn_r _ [12, 13, 14, 15, 16, 17, 18, 19, 20, 21, 22, 23, 24, 25, 26, 27, 28, 29, 30, 31, 32, 11, 33, 34, 35, 36, 37, 38, 39, 40, 41, 42, 43, 44, 45, 46, 47, 48, 49, 50, 51, 52, 53, 54, 55, 56, 57, 58, 59, 60, 61, 62, 63, 64, 65, 66, 67, 68, 69, 70, 71, 72, 73, 74, 75, 76, 77, 78, 79, 80, 81, 82, 83, 84, 85, 86, 87, 88, 89, 90, 91, 92, 93, 94, 95, 96, 97, 98, 99, 100, 101, 102, 103, 104, 105, 106, 107, 108, 109, 110, 111, 112, 113, 114, 115, 116, 117, 118, 119, 120, 121, 122, 123, 124, 125, 126, 127, 128, 129, 130, 131, 132, 133, 134, 135, 136, 137, 138, 139, 140, 141, 142, 143, 144, 145, 146, 147, 148, 149, 150, 151, 152, 153, 154, 155, 156, 157, 158, 159, 160, 161, 162, 163, 164, 165, 166, 167, 168, 169, 221, 222, 223, 224, 225, 226, 227, 228, 229, 233, 234, 235, 236, 237, 238, 239, 240] (by decide +kernel) (by decide +kernel)
set_option maxRecDepth 20000 in
theorem gX10_lay_X5_read : GoodIn wsX10_lay (wsV RX10 98 RX5 yX5_read wsX5_read) := goodIn_app (goodIn_of _ (by decide +kernel)) ggX10_lay_X5_read
set_option maxRecDepth 20000 in
theorem ggX10_lay_X10_beginChange : GoodIn wsX10_lay wsX10_beginChange := goodIn_r _ [173, 174, 4, 175, 176, 177, 178, 179, 180, 181, 182, 183, 184, 185, 186, 187, 188, 189, 190, 191, 192, 193, 194, 195, 196, 197, 198, 199, 200, 201, 202, 203, 204, 205, 206, 21, 207, 23, 24, 25, 26, 163, 208, 151, 164, 165, 210, 211, 212, 213, 214, 215, 216, 217, 218, 219, 220, 241, 242, 243, 230, 231, 232, 233, 234, 235, 236, 237, 238, 239, 240] (by decide +kernel) (by decide +kernel)
set_option maxRecDepth 20000 in
theorem gX10_lay_X10_beginChange : GoodIn wsX10_lay (wsV RX10 112 RX10 yX10_beginChange wsX10_beginChange) := goodIn_app (goodIn_of _ (by decide +kernel)) ggX10_lay_X10_beginChange
set_option maxRecDepth 20000 in
theorem ggX10_lay_X4_copyFrom : GoodIn wsX10_lay wsX4_copyFrom := goodIn_r _ [207, 23, 24, 25, 26, 163, 208, 200, 201, 202, 151, 164, 165, 233, 234, 235, 236, 237, 238, 239, 240] (by decide +kernel) (by decide +kernel)
set_option maxRecDepth 20000 in
theorem gX10_lay_X4_copyFrom : GoodIn wsX10_lay (wsV RX10 120 RX4 yX4_copyFrom wsX4_copyFrom) := goodIn_app (goodIn_of _ (by decide +kernel)) ggX10_lay_X4_copyFrom
theorem dX10_lay_0 : decode cX10_lay 0 = .ok (.aload_n 0, 1) := by decide +kernel
theorem dX10_lay_1 : decode cX10_lay 1 = .ok (.getfield 26, 3) := by decide +kernel
theorem dX10_lay_4 : decode cX10_lay 4 = .ok (.invokevirtual 98, 3) := by decide +kernel
theorem dX10_lay_7 : decode cX10_lay 7 = .ok (.aload_n 0, 1) := by decide +kernel
theorem dX10_lay_8 : decode cX10_lay 8 = .ok (.getfield 26, 3) := by decide +kernel
theorem dX10_lay_11 : decode cX10_lay 11 = .ok (.getfield 101, 3) := by decide +kernel
theorem dX10_lay_14 : decode cX10_lay 14 = .ok (.ifCond .eq 6, 3) := by decide +kernel
theorem dX10_lay_17 : decode cX10_lay 17 = .ok (.ldc 111, 2) := by decide +kernel
theorem dX10_lay_19 : decode cX10_lay 19 = .ok (.ireturn, 1) := by decide +kernel
theorem dX10_lay_20 : decode cX10_lay 20 = .ok (.aload_n 0, 1) := by decide +kernel
theorem dX10_lay_21 : decode cX10_lay 21 = .ok (.invokevirtual 112, 3) := by decide +kernel
theorem dX10_lay_24 : decode cX10_lay 24 = .ok (.aload_n 0, 1) := by decide +kernel
theorem dX10_lay_25 : decode cX10_lay 25 = .ok (.getfield 12, 3) := by decide +kernel
theorem dX10_lay_28 : decode cX10_lay 28 = .ok (.getfield 115, 3) := by decide +kernel
theorem dX10_lay_31 : decode cX10_lay 31 = .ok (.aload_n 0, 1) := by decide +kernel
theorem dX10_lay_32 : decode cX10_lay 32 = .ok (.getfield 26, 3) := by decide +kernel
theorem dX10_lay_35 : decode cX10_lay 35 = .ok (.getfield 119, 3) := by decide +kernel
theorem dX10_lay_38 : decode cX10_lay 38 = .ok (.invokevirtual 120, 3) := by decide +kernel
theorem dX10_lay_41 : decode cX10_lay 41 = .ok (.aload_n 0, 1) := by decide +kernel
theorem dX10_lay_42 : decode cX10_lay 42 = .ok (.getfield 12, 3) := by decide +kernel
theorem dX10_lay_45 : decode cX10_lay 45 = .ok (.getfield 115, 3) := by decide +kernel
theorem dX10_lay_48 : decode cX10_lay 48 = .ok (.getfield 126, 3) := by decide +kernel
theorem dX10_lay_51 : decode cX10_lay 51 = .ok (.ireturn, 1) := by decide +kernel
set_option maxRecDepth 20000 in
theorem ggX10_addPart_X10_isWithin : GoodIn wsX10_addPart wsX10_isWithin := goodIn_r _ [10] (by decide +kernel) (by decide +kernel)
set_option maxRecDepth 20000 in
theorem gX10_addPart_X10_isWithin : GoodIn wsX10_addPart (va_wsS RX10 80 yX10_isWithin wsX10_isWithin) := goodIn_app (goodIn_of _ (by decide +kernel)) ggX10_addPart_X10_isWithin
set_option maxRecDepth 20000 in
theorem ggX10_addPart_X4_placeFits : GoodIn wsX10_addPart wsX4_placeFits := goodIn_r _ [15, 16, 8, 9, 10, 99, 100, 101, 102, 103, 104, 105, 106] (by decide +kernel) (by decide +kernel)
set_option maxRecDepth 20000 in
theorem gX10_addPart_X4_placeFits : GoodIn wsX10_addPart (wsV RX10 127 RX4 yX4_placeFits wsX4_placeFits) := goodIn_app (goodIn_of _ (by decide +kernel)) ggX10_addPart_X4_placeFits
set_option maxRecDepth 20000 in
theorem ggX10_addPart_X4_lossFits : GoodIn wsX10_addPart wsX4_lossFits := goodIn_r _ [19, 8, 9, 10] (by decide +kernel) (by decide +kernel)
set_option maxRecDepth 20000 in
theorem gX10_addPart_X4_lossFits : GoodIn wsX10_addPart (va_wsS RX10 131 yX4_lossFits wsX4_lossFits) := goodIn_app (goodIn_of _ (by decide +kernel)) ggX10_addPart_X4_lossFits
set_option maxRecDepth 20000 in
theorem ggX10_addPart_X4_reflectionFits : GoodIn wsX10_addPart wsX4_reflectionFits := goodIn_r _ [22, 8, 9, 10] (by decide +kernel) (by decide +kernel)
set_option maxRecDepth 20000 in
theorem gX10_addPart_X4_reflectionFits : GoodIn wsX10_addPart (va_wsS RX10 135 yX4_reflectionFits wsX4_reflectionFits) := goodIn_app (goodIn_of _ (by decide +kernel)) ggX10_addPart_X4_reflectionFits
set_option maxRecDepth 20000 in
theorem ggX10_addPart_X4_hasPartAt : GoodIn wsX10_addPart wsX4_hasPartAt := goodIn_r _ [26, 27, 28, 29, 9, 30, 99, 100, 101, 102, 103, 104, 105, 106] (by decide +kernel) (by decide +kernel)
set_option maxRecDepth 20000 in
theorem gX10_addPart_X4_hasPartAt : GoodIn wsX10_addPart (wsV RX10 138 RX4 yX4_hasPartAt wsX4_hasPartAt) := goodIn_app (goodIn_of _ (by decide +kernel)) ggX10_addPart_X4_hasPartAt
set_option maxRecDepth 20000 in
theorem ggX10_addPart_X10_beginChange : GoodIn wsX10_addPart wsX10_beginChange := goodIn_r _ [34, 35, 1, 36, 37, 38, 39, 40, 41, 42, 43, 44, 45, 46, 47, 48, 49, 50, 51, 52, 53, 54, 55, 56, 57, 58, 59, 60, 61, 62, 63, 64, 65, 66, 67, 14, 68, 16, 69, 70, 27, 71, 72, 28, 73, 74, 85, 86, 87, 88, 89, 90, 91, 92, 93, 94, 95, 107, 108, 109, 96, 97, 98, 99, 100, 101, 102, 103, 104, 105, 106] (by decide +kernel) (by decide +kernel)
set_option maxRecDepth 20000 in
theorem gX10_addPart_X10_beginChange : GoodIn wsX10_addPart (wsV RX10 112 RX10 yX10_beginChange wsX10_beginChange) := goodIn_app (goodIn_of _ (by decide +kernel)) ggX10_addPart_X10_beginChange
set_option maxRecDepth 20000 in
theorem ggX10_addPart_X4_insert : GoodIn wsX10_addPart wsX4_insert := goodIn_r _ [78, 27, 28, 71, 73, 74, 29, 9, 30, 79, 80, 81, 82, 83, 84, 99, 100, 101, 102, 103, 104, 105, 106] (by decide +kernel) (by decide +kernel)
set_option maxRecDepth 20000 in
theorem gX10_addPart_X4_insert : GoodIn wsX10_addPart (wsV RX10 141 RX4 yX4_insert wsX4_insert) := goodIn_app (goodIn_of _ (by decide +kernel)) ggX10_addPart_X4_insert
theorem dX10_addPart_0 : decode cX10_addPart 0 = .ok (.aload_n 0, 1) := by decide +kernel
theorem dX10_addPart_1 : decode cX10_addPart 1 = .ok (.getfield 12, 3) := by decide +kernel
theorem dX10_addPart_4 : decode cX10_addPart 4 = .ok (.getfield 115, 3) := by decide +kernel
theorem dX10_addPart_7 : decode cX10_addPart 7 = .ok (.astore 5, 2) := by decide +kernel
theorem dX10_addPart_9 : decode cX10_addPart 9 = .ok (.iload_n 1, 1) := by decide +kernel
theorem dX10_addPart_10 : decode cX10_addPart 10 = .ok (.iconst 0, 1) := by decide +kernel
theorem dX10_addPart_11 : decode cX10_addPart 11 = .ok (.iconst 2, 1) := by decide +kernel
theorem dX10_addPart_12 : decode cX10_addPart 12 = .ok (.invokestatic 80, 3) := by decide +kernel
theorem dX10_addPart_15 : decode cX10_addPart 15 = .ok (.ifCond .eq 29, 3) := by decide +kernel
theorem dX10_addPart_18 : decode cX10_addPart 18 = .ok (.aload 5, 2) := by decide +kernel
theorem dX10_addPart_20 : decode cX10_addPart 20 = .ok (.iload_n 2, 1) := by decide +kernel
theorem dX10_addPart_21 : decode cX10_addPart 21 = .ok (.invokevirtual 127, 3) := by decide +kernel
theorem dX10_addPart_24 : decode cX10_addPart 24 = .ok (.ifCond .eq 20, 3) := by decide +kernel
theorem dX10_addPart_27 : decode cX10_addPart 27 = .ok (.iload_n 1, 1) := by decide +kernel
theorem dX10_addPart_28 : decode cX10_addPart 28 = .ok (.iload_n 3, 1) := by decide +kernel
theorem dX10_addPart_29 : decode cX10_addPart 29 = .ok (.invokestatic 131, 3) := by decide +kernel
theorem dX10_addPart_32 : decode cX10_addPart 32 = .ok (.ifCond .eq 12, 3) := by decide +kernel
theorem dX10_addPart_35 : decode cX10_addPart 35 = .ok (.iload_n 1, 1) := by decide +kernel
theorem dX10_addPart_36 : decode cX10_addPart 36 = .ok (.iload 4, 2) := by decide +kernel
theorem dX10_addPart_38 : decode cX10_addPart 38 = .ok (.invokestatic 135, 3) := by decide +kernel
theorem dX10_addPart_41 : decode cX10_addPart 41 = .ok (.ifCond .ne 6, 3) := by decide +kernel
theorem dX10_addPart_44 : decode cX10_addPart 44 = .ok (.ldc 84, 2) := by decide +kernel
theorem dX10_addPart_46 : decode cX10_addPart 46 = .ok (.ireturn, 1) := by decide +kernel
theorem dX10_addPart_47 : decode cX10_addPart 47 = .ok (.aload 5, 2) := by decide +kernel
theorem dX10_addPart_49 : decode cX10_addPart 49 = .ok (.iload_n 2, 1) := by decide +kernel
theorem dX10_addPart_50 : decode cX10_addPart 50 = .ok (.invokevirtual 138, 3) := by decide +kernel
theorem dX10_addPart_53 : decode cX10_addPart 53 = .ok (.ifCond .eq 6, 3) := by decide +kernel
theorem dX10_addPart_56 : decode cX10_addPart 56 = .ok (.ldc 111, 2) := by decide +kernel
theorem dX10_addPart_58 : decode cX10_addPart 58 = .ok (.ireturn, 1) := by decide +kernel
theorem dX10_addPart_59 : decode cX10_addPart 59 = .ok (.aload 5, 2) := by decide +kernel
theorem dX10_addPart_61 : decode cX10_addPart 61 = .ok (.getfield 126, 3) := by decide +kernel
theorem dX10_addPart_64 : decode cX10_addPart 64 = .ok (.bipush 10, 2) := by decide +kernel
theorem dX10_addPart_66 : decode cX10_addPart 66 = .ok (.if_icmp .lt 6, 3) := by decide +kernel
theorem dX10_addPart_69 : decode cX10_addPart 69 = .ok (.ldc 89, 2) := by decide +kernel
theorem dX10_addPart_71 : decode cX10_addPart 71 = .ok (.ireturn, 1) := by decide +kernel
theorem dX10_addPart_72 : decode cX10_addPart 72 = .ok (.aload_n 0, 1) := by decide +kernel
theorem dX10_addPart_73 : decode cX10_addPart 73 = .ok (.invokevirtual 112, 3) := by decide +kernel
theorem dX10_addPart_76 : decode cX10_addPart 76 = .ok (.aload 5, 2) := by decide +kernel
theorem dX10_addPart_78 : decode cX10_addPart 78 = .ok (.iload_n 1, 1) := by decide +kernel
theorem dX10_addPart_79 : decode cX10_addPart 79 = .ok (.iload_n 2, 1) := by decide +kernel
theorem dX10_addPart_80 : decode cX10_addPart 80 = .ok (.iload_n 3, 1) := by decide +kernel
theorem dX10_addPart_81 : decode cX10_addPart 81 = .ok (.iload 4, 2) := by decide +kernel
theorem dX10_addPart_83 : decode cX10_addPart 83 = .ok (.invokevirtual 141, 3) := by decide +kernel
theorem dX10_addPart_86 : decode cX10_addPart 86 = .ok (.ireturn, 1) := by decide +kernel
set_option maxRecDepth 20000 in
theorem ggX10_removePart_X10_isWithin : GoodIn wsX10_removePart wsX10_isWithin := goodIn_r _ [8] (by decide +kernel) (by decide +kernel)
set_option maxRecDepth 20000 in
theorem gX10_removePart_X10_isWithin : GoodIn wsX10_removePart (va_wsS RX10 80 yX10_isWithin wsX10_isWithin) := goodIn_app (goodIn_of _ (by decide +kernel)) ggX10_removePart_X10_isWithin
set_option maxRecDepth 20000 in
theorem ggX10_removePart_X10_beginChange : GoodIn wsX10_removePart wsX10_beginChange := goodIn_r _ [12, 13, 1, 14, 15, 16, 17, 18, 19, 20, 21, 22, 23, 24, 25, 26, 27, 28, 29, 30, 31, 32, 33, 34, 35, 36, 37, 38, 39, 40, 41, 42, 43, 44, 45, 46, 47, 48, 49, 50, 51, 52, 53, 54, 55, 56, 69, 70, 71, 72, 73, 74, 75, 76, 77, 78, 79, 91, 92, 93, 80, 81, 82, 83, 84, 85, 86, 87, 88, 89, 90] (by decide +kernel) (by decide +kernel)
set_option maxRecDepth 20000 in
theorem gX10_removePart_X10_beginChange : GoodIn wsX10_removePart (wsV RX10 112 RX10 yX10_beginChange wsX10_beginChange) := goodIn_app (goodIn_of _ (by decide +kernel)) ggX10_removePart_X10_beginChange
set_option maxRecDepth 20000 in
theorem ggX10_removePart_X4_drop : GoodIn wsX10_removePart wsX4_drop := goodIn_r _ [60, 52, 51, 54, 55, 56, 61, 7, 62, 63, 64, 65, 66, 67, 68, 83, 84, 85, 86, 87, 88, 89, 90] (by decide +kernel) (by decide +kernel)
set_option maxRecDepth 20000 in
theorem gX10_removePart_X4_drop : GoodIn wsX10_removePart (wsV RX10 145 RX4 yX4_drop wsX4_drop) := goodIn_app (goodIn_of _ (by decide +kernel)) ggX10_removePart_X4_drop
theorem dX10_removePart_0 : decode cX10_removePart 0 = .ok (.iload_n 1, 1) := by decide +kernel
theorem dX10_removePart_1 : decode cX10_removePart 1 = .ok (.iconst 0, 1) := by decide +kernel
theorem dX10_removePart_2 : decode cX10_removePart 2 = .ok (.aload_n 0, 1) := by decide +kernel
theorem dX10_removePart_3 : decode cX10_removePart 3 = .ok (.getfield 12, 3) := by decide +kernel
theorem dX10_removePart_6 : decode cX10_removePart 6 = .ok (.getfield 115, 3) := by decide +kernel
theorem dX10_removePart_9 : decode cX10_removePart 9 = .ok (.getfield 126, 3) := by decide +kernel
theorem dX10_removePart_12 : decode cX10_removePart 12 = .ok (.iconst 1, 1) := by decide +kernel
theorem dX10_removePart_13 : decode cX10_removePart 13 = .ok (.isub, 1) := by decide +kernel
theorem dX10_removePart_14 : decode cX10_removePart 14 = .ok (.invokestatic 80, 3) := by decide +kernel
theorem dX10_removePart_17 : decode cX10_removePart 17 = .ok (.ifCond .ne 6, 3) := by decide +kernel
theorem dX10_removePart_20 : decode cX10_removePart 20 = .ok (.ldc 84, 2) := by decide +kernel
theorem dX10_removePart_22 : decode cX10_removePart 22 = .ok (.ireturn, 1) := by decide +kernel
theorem dX10_removePart_23 : decode cX10_removePart 23 = .ok (.aload_n 0, 1) := by decide +kernel
theorem dX10_removePart_24 : decode cX10_removePart 24 = .ok (.invokevirtual 112, 3) := by decide +kernel
theorem dX10_removePart_27 : decode cX10_removePart 27 = .ok (.aload_n 0, 1) := by decide +kernel
theorem dX10_removePart_28 : decode cX10_removePart 28 = .ok (.getfield 12, 3) := by decide +kernel
theorem dX10_removePart_31 : decode cX10_removePart 31 = .ok (.getfield 115, 3) := by decide +kernel
theorem dX10_removePart_34 : decode cX10_removePart 34 = .ok (.iload_n 1, 1) := by decide +kernel
theorem dX10_removePart_35 : decode cX10_removePart 35 = .ok (.invokevirtual 145, 3) := by decide +kernel
theorem dX10_removePart_38 : decode cX10_removePart 38 = .ok (.ireturn, 1) := by decide +kernel
set_option maxRecDepth 20000 in
theorem ggX10_set_X10_isWithin : GoodIn wsX10_set wsX10_isWithin := goodIn_r _ [9] (by decide +kernel) (by decide +kernel)
set_option maxRecDepth 20000 in
theorem gX10_set_X10_isWithin : GoodIn wsX10_set (va_wsS RX10 80 yX10_isWithin wsX10_isWithin) := goodIn_app (goodIn_of _ (by decide +kernel)) ggX10_set_X10_isWithin
set_option maxRecDepth 20000 in
theorem ggX10_set_X10_at : GoodIn wsX10_set wsX10_at := goodIn_r _ [12] (by decide +kernel) (by decide +kernel)
set_option maxRecDepth 20000 in
theorem gX10_set_X10_at : GoodIn wsX10_set (va_wsS RX10 151 yX10_at wsX10_at) := goodIn_app (goodIn_of _ (by decide +kernel)) ggX10_set_X10_at
set_option maxRecDepth 20000 in
theorem ggX10_set_X10_beginChange : GoodIn wsX10_set wsX10_beginChange := goodIn_r _ [16, 17, 4, 18, 19, 20, 21, 22, 23, 24, 25, 26, 27, 28, 29, 30, 31, 32, 33, 34, 35, 36, 37, 38, 39, 40, 41, 42, 43, 44, 45, 46, 47, 48, 49, 50, 51, 52, 53, 54, 55, 56, 57, 58, 59, 60, 64, 65, 66, 67, 68, 69, 70, 71, 72, 73, 74, 78, 79, 80, 75, 76, 77, 81, 82, 83, 84, 85, 86, 87, 88] (by decide +kernel) (by decide +kernel)
set_option maxRecDepth 20000 in
theorem gX10_set_X10_beginChange : GoodIn wsX10_set (wsV RX10 112 RX10 yX10_beginChange wsX10_beginChange) := goodIn_app (goodIn_of _ (by decide +kernel)) ggX10_set_X10_beginChange
set_option maxRecDepth 20000 in
theorem ggX10_set_X10_put : GoodIn wsX10_set wsX10_put := goodIn_r _ [63] (by decide +kernel) (by decide +kernel)
set_option maxRecDepth 20000 in
theorem gX10_set_X10_put : GoodIn wsX10_set (va_wsS RX10 161 yX10_put wsX10_put) := goodIn_app (goodIn_of _ (by decide +kernel)) ggX10_set_X10_put
theorem dX10_set_0 : decode cX10_set 0 = .ok (.iload_n 1, 1) := by decide +kernel
theorem dX10_set_1 : decode cX10_set 1 = .ok (.iconst 0, 1) := by decide +kernel
theorem dX10_set_2 : decode cX10_set 2 = .ok (.bipush 10, 2) := by decide +kernel
theorem dX10_set_4 : decode cX10_set 4 = .ok (.invokestatic 80, 3) := by decide +kernel
theorem dX10_set_7 : decode cX10_set 7 = .ok (.ifCond .eq 24, 3) := by decide +kernel
theorem dX10_set_10 : decode cX10_set 10 = .ok (.iload_n 2, 1) := by decide +kernel
theorem dX10_set_11 : decode cX10_set 11 = .ok (.getstatic 148, 3) := by decide +kernel
theorem dX10_set_14 : decode cX10_set 14 = .ok (.iload_n 1, 1) := by decide +kernel
theorem dX10_set_15 : decode cX10_set 15 = .ok (.invokestatic 151, 3) := by decide +kernel
theorem dX10_set_18 : decode cX10_set 18 = .ok (.getstatic 155, 3) := by decide +kernel
theorem dX10_set_21 : decode cX10_set 21 = .ok (.iload_n 1, 1) := by decide +kernel
theorem dX10_set_22 : decode cX10_set 22 = .ok (.invokestatic 151, 3) := by decide +kernel
theorem dX10_set_25 : decode cX10_set 25 = .ok (.invokestatic 80, 3) := by decide +kernel
theorem dX10_set_28 : decode cX10_set 28 = .ok (.ifCond .ne 6, 3) := by decide +kernel
theorem dX10_set_31 : decode cX10_set 31 = .ok (.ldc 84, 2) := by decide +kernel
theorem dX10_set_33 : decode cX10_set 33 = .ok (.ireturn, 1) := by decide +kernel
theorem dX10_set_34 : decode cX10_set 34 = .ok (.aload_n 0, 1) := by decide +kernel
theorem dX10_set_35 : decode cX10_set 35 = .ok (.invokevirtual 112, 3) := by decide +kernel
theorem dX10_set_38 : decode cX10_set 38 = .ok (.aload_n 0, 1) := by decide +kernel
theorem dX10_set_39 : decode cX10_set 39 = .ok (.getfield 12, 3) := by decide +kernel
theorem dX10_set_42 : decode cX10_set 42 = .ok (.getfield 158, 3) := by decide +kernel
theorem dX10_set_45 : decode cX10_set 45 = .ok (.iload_n 1, 1) := by decide +kernel
theorem dX10_set_46 : decode cX10_set 46 = .ok (.invokestatic 151, 3) := by decide +kernel
theorem dX10_set_49 : decode cX10_set 49 = .ok (.istore_n 3, 1) := by decide +kernel
theorem dX10_set_50 : decode cX10_set 50 = .ok (.aload_n 0, 1) := by decide +kernel
theorem dX10_set_51 : decode cX10_set 51 = .ok (.getfield 12, 3) := by decide +kernel
theorem dX10_set_54 : decode cX10_set 54 = .ok (.getfield 158, 3) := by decide +kernel
theorem dX10_set_57 : decode cX10_set 57 = .ok (.iload_n 1, 1) := by decide +kernel
theorem dX10_set_58 : decode cX10_set 58 = .ok (.iload_n 2, 1) := by decide +kernel
theorem dX10_set_59 : decode cX10_set 59 = .ok (.invokestatic 161, 3) := by decide +kernel
theorem dX10_set_62 : decode cX10_set 62 = .ok (.iload_n 3, 1) := by decide +kernel
theorem dX10_set_63 : decode cX10_set 63 = .ok (.ireturn, 1) := by decide +kernel
set_option maxRecDepth 20000 in
theorem ggX10_undo_X2_restore : GoodIn wsX10_undo wsX2_restore := goodIn_r _ [10, 11, 12, 13, 14, 15, 9, 16, 17, 18, 19, 20, 21, 22, 23, 24, 25, 26, 27, 28, 29, 30, 31, 32, 33, 34, 35, 36, 37, 38, 39, 40, 41, 42, 43, 55, 56, 57, 58, 59, 60, 61, 62, 63, 64, 65, 66, 67, 68] (by decide +kernel) (by decide +kernel)
set_option maxRecDepth 20000 in
theorem gX10_undo_X2_restore : GoodIn wsX10_undo (wsV RX10 166 RX2 yX2_restore wsX2_restore) := goodIn_app (goodIn_of _ (by decide +kernel)) ggX10_undo_X2_restore
theorem dX10_undo_0 : decode cX10_undo 0 = .ok (.aload_n 0, 1) := by decide +kernel
theorem dX10_undo_1 : decode cX10_undo 1 = .ok (.getfield 19, 3) := by decide +kernel
theorem dX10_undo_4 : decode cX10_undo 4 = .ok (.getfield 165, 3) := by decide +kernel
theorem dX10_undo_7 : decode cX10_undo 7 = .ok (.ifCond .ne 6, 3) := by decide +kernel
theorem dX10_undo_10 : decode cX10_undo 10 = .ok (.ldc 111, 2) := by decide +kernel
theorem dX10_undo_12 : decode cX10_undo 12 = .ok (.ireturn, 1) := by decide +kernel
theorem dX10_undo_13 : decode cX10_undo 13 = .ok (.aload_n 0, 1) := by decide +kernel
theorem dX10_undo_14 : decode cX10_undo 14 = .ok (.iconst 0, 1) := by decide +kernel
theorem dX10_undo_15 : decode cX10_undo 15 = .ok (.putfield 76, 3) := by decide +kernel
theorem dX10_undo_18 : decode cX10_undo 18 = .ok (.aload_n 0, 1) := by decide +kernel
theorem dX10_undo_19 : decode cX10_undo 19 = .ok (.getfield 19, 3) := by decide +kernel
theorem dX10_undo_22 : decode cX10_undo 22 = .ok (.aload_n 0, 1) := by decide +kernel
theorem dX10_undo_23 : decode cX10_undo 23 = .ok (.getfield 12, 3) := by decide +kernel
theorem dX10_undo_26 : decode cX10_undo 26 = .ok (.invokevirtual 166, 3) := by decide +kernel
theorem dX10_undo_29 : decode cX10_undo 29 = .ok (.ireturn, 1) := by decide +kernel
set_option maxRecDepth 20000 in
theorem ggX10_count_X10_isWithin : GoodIn wsX10_count wsX10_isWithin := goodIn_r _ [16] (by decide +kernel) (by decide +kernel)
set_option maxRecDepth 20000 in
theorem gX10_count_X10_isWithin : GoodIn wsX10_count (va_wsS RX10 80 yX10_isWithin wsX10_isWithin) := goodIn_app (goodIn_of _ (by decide +kernel)) ggX10_count_X10_isWithin
set_option maxRecDepth 20000 in
theorem ggX10_count_X10_at : GoodIn wsX10_count wsX10_at := goodIn_r _ [19] (by decide +kernel) (by decide +kernel)
set_option maxRecDepth 20000 in
theorem gX10_count_X10_at : GoodIn wsX10_count (va_wsS RX10 151 yX10_at wsX10_at) := goodIn_app (goodIn_of _ (by decide +kernel)) ggX10_count_X10_at
set_option maxRecDepth 20000 in
theorem ggX10_count_X8_keptCount : GoodIn wsX10_count wsX8_keptCount := goodIn_r _ [24, 25, 26, 27, 28, 29, 41, 42, 43] (by decide +kernel) (by decide +kernel)
set_option maxRecDepth 20000 in
theorem gX10_count_X8_keptCount : GoodIn wsX10_count (wsV RX10 179 RX8 yX8_keptCount wsX8_keptCount) := goodIn_app (goodIn_of _ (by decide +kernel)) ggX10_count_X8_keptCount
theorem dX10_count_0 : decode cX10_count 0 = .ok (.iload_n 1, 1) := by decide +kernel
theorem dX10_count_1 : decode cX10_count 1 = .ok (.iconst 0, 1) := by decide +kernel
theorem dX10_count_2 : decode cX10_count 2 = .ok (.bipush 10, 2) := by decide +kernel
theorem dX10_count_4 : decode cX10_count 4 = .ok (.invokestatic 80, 3) := by decide +kernel
theorem dX10_count_7 : decode cX10_count 7 = .ok (.ifCond .eq 15, 3) := by decide +kernel
theorem dX10_count_10 : decode cX10_count 10 = .ok (.aload_n 0, 1) := by decide +kernel
theorem dX10_count_11 : decode cX10_count 11 = .ok (.getfield 12, 3) := by decide +kernel
theorem dX10_count_14 : decode cX10_count 14 = .ok (.getfield 158, 3) := by decide +kernel
theorem dX10_count_17 : decode cX10_count 17 = .ok (.iload_n 1, 1) := by decide +kernel
theorem dX10_count_18 : decode cX10_count 18 = .ok (.invokestatic 151, 3) := by decide +kernel
theorem dX10_count_21 : decode cX10_count 21 = .ok (.ireturn, 1) := by decide +kernel
theorem dX10_count_22 : decode cX10_count 22 = .ok (.iload_n 1, 1) := by decide +kernel
theorem dX10_count_23 : decode cX10_count 23 = .ok (.tableswitch 127 11 18 #[45, 56, 67, 78, 89, 103, 111, 119], 45) := by decide +kernel
theorem dX10_count_68 : decode cX10_count 68 = .ok (.aload_n 0, 1) := by decide +kernel
theorem dX10_count_69 : decode cX10_count 69 = .ok (.getfield 12, 3) := by decide +kernel
theorem dX10_count_72 : decode cX10_count 72 = .ok (.getfield 115, 3) := by decide +kernel
theorem dX10_count_75 : decode cX10_count 75 = .ok (.getfield 170, 3) := by decide +kernel
theorem dX10_count_78 : decode cX10_count 78 = .ok (.ireturn, 1) := by decide +kernel
theorem dX10_count_79 : decode cX10_count 79 = .ok (.aload_n 0, 1) := by decide +kernel
theorem dX10_count_80 : decode cX10_count 80 = .ok (.getfield 12, 3) := by decide +kernel
theorem dX10_count_83 : decode cX10_count 83 = .ok (.getfield 115, 3) := by decide +kernel
theorem dX10_count_86 : decode cX10_count 86 = .ok (.getfield 173, 3) := by decide +kernel
theorem dX10_count_89 : decode cX10_count 89 = .ok (.ireturn, 1) := by decide +kernel
theorem dX10_count_90 : decode cX10_count 90 = .ok (.aload_n 0, 1) := by decide +kernel
theorem dX10_count_91 : decode cX10_count 91 = .ok (.getfield 12, 3) := by decide +kernel
theorem dX10_count_94 : decode cX10_count 94 = .ok (.getfield 115, 3) := by decide +kernel
theorem dX10_count_97 : decode cX10_count 97 = .ok (.getfield 176, 3) := by decide +kernel
theorem dX10_count_100 : decode cX10_count 100 = .ok (.ireturn, 1) := by decide +kernel
theorem dX10_count_101 : decode cX10_count 101 = .ok (.aload_n 0, 1) := by decide +kernel
theorem dX10_count_102 : decode cX10_count 102 = .ok (.getfield 12, 3) := by decide +kernel
theorem dX10_count_105 : decode cX10_count 105 = .ok (.getfield 115, 3) := by decide +kernel
theorem dX10_count_108 : decode cX10_count 108 = .ok (.getfield 126, 3) := by decide +kernel
theorem dX10_count_111 : decode cX10_count 111 = .ok (.ireturn, 1) := by decide +kernel
theorem dX10_count_112 : decode cX10_count 112 = .ok (.aload_n 0, 1) := by decide +kernel
theorem dX10_count_113 : decode cX10_count 113 = .ok (.getfield 12, 3) := by decide +kernel
theorem dX10_count_116 : decode cX10_count 116 = .ok (.getfield 115, 3) := by decide +kernel
theorem dX10_count_119 : decode cX10_count 119 = .ok (.getfield 170, 3) := by decide +kernel
theorem dX10_count_122 : decode cX10_count 122 = .ok (.bipush 60, 2) := by decide +kernel
theorem dX10_count_124 : decode cX10_count 124 = .ok (.iadd, 1) := by decide +kernel
theorem dX10_count_125 : decode cX10_count 125 = .ok (.ireturn, 1) := by decide +kernel
theorem dX10_count_126 : decode cX10_count 126 = .ok (.aload_n 0, 1) := by decide +kernel
theorem dX10_count_127 : decode cX10_count 127 = .ok (.getfield 12, 3) := by decide +kernel
theorem dX10_count_130 : decode cX10_count 130 = .ok (.invokevirtual 179, 3) := by decide +kernel
theorem dX10_count_133 : decode cX10_count 133 = .ok (.ireturn, 1) := by decide +kernel
theorem dX10_count_134 : decode cX10_count 134 = .ok (.aload_n 0, 1) := by decide +kernel
theorem dX10_count_135 : decode cX10_count 135 = .ok (.getfield 19, 3) := by decide +kernel
theorem dX10_count_138 : decode cX10_count 138 = .ok (.getfield 165, 3) := by decide +kernel
theorem dX10_count_141 : decode cX10_count 141 = .ok (.ireturn, 1) := by decide +kernel
theorem dX10_count_142 : decode cX10_count 142 = .ok (.aload_n 0, 1) := by decide +kernel
theorem dX10_count_143 : decode cX10_count 143 = .ok (.getfield 26, 3) := by decide +kernel
theorem dX10_count_146 : decode cX10_count 146 = .ok (.getfield 85, 3) := by decide +kernel
theorem dX10_count_149 : decode cX10_count 149 = .ok (.ireturn, 1) := by decide +kernel
theorem dX10_count_150 : decode cX10_count 150 = .ok (.ldc 84, 2) := by decide +kernel
theorem dX10_count_152 : decode cX10_count 152 = .ok (.ireturn, 1) := by decide +kernel
set_option maxRecDepth 20000 in
theorem ggX10_part_X10_isWithin : GoodIn wsX10_part wsX10_isWithin := goodIn_r _ [13] (by decide +kernel) (by decide +kernel)
set_option maxRecDepth 20000 in
theorem gX10_part_X10_isWithin : GoodIn wsX10_part (va_wsS RX10 80 yX10_isWithin wsX10_isWithin) := goodIn_app (goodIn_of _ (by decide +kernel)) ggX10_part_X10_isWithin
set_option maxRecDepth 20000 in
theorem ggX10_part_X10_at : GoodIn wsX10_part wsX10_at := goodIn_r _ [16] (by decide +kernel) (by decide +kernel)
set_option maxRecDepth 20000 in
theorem gX10_part_X10_at : GoodIn wsX10_part (va_wsS RX10 151 yX10_at wsX10_at) := goodIn_app (goodIn_of _ (by decide +kernel)) ggX10_part_X10_at
set_option maxRecDepth 20000 in
theorem ggX10_part_X10_measure : GoodIn wsX10_part wsX10_measure := goodIn_r _ [20, 21, 1, 22, 23, 24, 25, 12, 26, 27, 2, 28, 29, 9, 30, 31, 14, 15, 16, 32, 33, 34, 35, 36, 37, 38, 39, 40, 41, 42, 43, 44, 45, 46, 47, 48, 49, 50, 51, 52, 53, 54, 55, 56, 57, 58, 59, 60, 61, 62, 63, 64, 65, 66, 67, 68, 69, 70, 71, 72, 73, 74, 75, 76, 77, 78, 79, 80, 81, 82, 83, 84, 85, 86, 87, 88, 89, 90, 91, 92, 93, 94, 95, 96, 97, 98, 99, 100, 101, 102, 103, 104, 105, 106, 107, 108, 109, 110, 111, 112, 113, 114, 115, 116, 117, 118, 119, 120, 121, 122, 123, 124, 125, 126, 127, 128, 129, 130, 131, 132, 133, 134, 135, 136, 137, 138, 139, 140, 141, 142, 143, 144, 145, 146, 147, 148, 149, 150, 151, 152, 153, 154, 155, 156, 157, 158, 159, 160, 161, 162, 163, 164, 165, 166, 167, 168, 169, 170, 171, 172, 173, 174, 175, 176, 177, 178, 179, 180, 181, 182, 183, 184, 185, 216, 217, 218, 219, 220, 221, 222, 223, 224, 225, 226, 227, 228, 229, 238, 239, 240, 241, 242, 243, 244, 245, 246, 247, 248, 249, 250, 251, 252, 253, 230, 231, 232, 233, 234, 235, 236, 237, 254, 255, 256, 257, 258, 259, 260, 261, 262, 263, 264, 265] (by decide +kernel) (by decide +kernel)
set_option maxRecDepth 20000 in
theorem gX10_part_X10_measure : GoodIn wsX10_part (wsV RX10 194 RX10 yX10_measure wsX10_measure) := goodIn_app (goodIn_of _ (by decide +kernel)) ggX10_part_X10_measure
set_option maxRecDepth 20000 in
theorem ggX10_part_X7_findingOf : GoodIn wsX10_part wsX7_findingOf := goodIn_r _ [189, 190, 15, 12, 16, 191, 192, 193, 90, 194, 95, 195, 196, 197, 148, 198, 150, 152, 165, 199, 200, 201, 202, 157, 158, 118, 159, 151, 203, 204, 205, 206, 164, 11, 13, 230, 231, 232, 233, 234, 235, 236, 237, 256, 257, 258, 259, 260, 261, 262, 263, 264, 265] (by decide +kernel) (by decide +kernel)
set_option maxRecDepth 20000 in
theorem gX10_part_X7_findingOf : GoodIn wsX10_part (wsV RX10 197 RX7 yX7_findingOf wsX7_findingOf) := goodIn_app (goodIn_of _ (by decide +kernel)) ggX10_part_X7_findingOf
set_option maxRecDepth 20000 in
theorem ggX10_part_X7_witnessOf : GoodIn wsX10_part wsX7_witnessOf := goodIn_r _ [210, 190, 15, 12, 16, 211, 187, 188, 148, 189, 191, 192, 193, 90, 194, 95, 195, 196, 197, 198, 150, 152, 165, 199, 200, 201, 202, 157, 158, 118, 159, 151, 203, 204, 205, 206, 164, 11, 13, 230, 231, 232, 233, 234, 235, 236, 237, 256, 257, 258, 259, 260, 261, 262, 263, 264, 265] (by decide +kernel) (by decide +kernel)
set_option maxRecDepth 20000 in
theorem gX10_part_X7_witnessOf : GoodIn wsX10_part (wsV RX10 201 RX7 yX7_witnessOf wsX7_witnessOf) := goodIn_app (goodIn_of _ (by decide +kernel)) ggX10_part_X7_witnessOf
set_option maxRecDepth 20000 in
theorem ggX10_part_X10_orNotFound : GoodIn wsX10_part wsX10_orNotFound := goodIn_r _ [214, 215] (by decide +kernel) (by decide +kernel)
set_option maxRecDepth 20000 in
theorem gX10_part_X10_orNotFound : GoodIn wsX10_part (va_wsS RX10 204 yX10_orNotFound wsX10_orNotFound) := goodIn_app (goodIn_of _ (by decide +kernel)) ggX10_part_X10_orNotFound
theorem dX10_part_0 : decode cX10_part 0 = .ok (.aload_n 0, 1) := by decide +kernel
theorem dX10_part_1 : decode cX10_part 1 = .ok (.getfield 12, 3) := by decide +kernel
theorem dX10_part_4 : decode cX10_part 4 = .ok (.getfield 115, 3) := by decide +kernel
theorem dX10_part_7 : decode cX10_part 7 = .ok (.astore_n 3, 1) := by decide +kernel
theorem dX10_part_8 : decode cX10_part 8 = .ok (.iload_n 1, 1) := by decide +kernel
theorem dX10_part_9 : decode cX10_part 9 = .ok (.iconst 0, 1) := by decide +kernel
theorem dX10_part_10 : decode cX10_part 10 = .ok (.aload_n 3, 1) := by decide +kernel
theorem dX10_part_11 : decode cX10_part 11 = .ok (.getfield 126, 3) := by decide +kernel
theorem dX10_part_14 : decode cX10_part 14 = .ok (.iconst 1, 1) := by decide +kernel
theorem dX10_part_15 : decode cX10_part 15 = .ok (.isub, 1) := by decide +kernel
theorem dX10_part_16 : decode cX10_part 16 = .ok (.invokestatic 80, 3) := by decide +kernel
theorem dX10_part_19 : decode cX10_part 19 = .ok (.ifCond .eq 12, 3) := by decide +kernel
theorem dX10_part_22 : decode cX10_part 22 = .ok (.iload_n 2, 1) := by decide +kernel
theorem dX10_part_23 : decode cX10_part 23 = .ok (.iconst 0, 1) := by decide +kernel
theorem dX10_part_24 : decode cX10_part 24 = .ok (.iconst 5, 1) := by decide +kernel
theorem dX10_part_25 : decode cX10_part 25 = .ok (.invokestatic 80, 3) := by decide +kernel
theorem dX10_part_28 : decode cX10_part 28 = .ok (.ifCond .ne 6, 3) := by decide +kernel
theorem dX10_part_31 : decode cX10_part 31 = .ok (.ldc 84, 2) := by decide +kernel
theorem dX10_part_33 : decode cX10_part 33 = .ok (.ireturn, 1) := by decide +kernel
theorem dX10_part_34 : decode cX10_part 34 = .ok (.iload_n 2, 1) := by decide +kernel
theorem dX10_part_35 : decode cX10_part 35 = .ok (.tableswitch 65 0 3 #[29, 38, 47, 56], 29) := by decide +kernel
theorem dX10_part_64 : decode cX10_part 64 = .ok (.aload_n 3, 1) := by decide +kernel
theorem dX10_part_65 : decode cX10_part 65 = .ok (.getfield 182, 3) := by decide +kernel
theorem dX10_part_68 : decode cX10_part 68 = .ok (.iload_n 1, 1) := by decide +kernel
theorem dX10_part_69 : decode cX10_part 69 = .ok (.invokestatic 151, 3) := by decide +kernel
theorem dX10_part_72 : decode cX10_part 72 = .ok (.ireturn, 1) := by decide +kernel
theorem dX10_part_73 : decode cX10_part 73 = .ok (.aload_n 3, 1) := by decide +kernel
theorem dX10_part_74 : decode cX10_part 74 = .ok (.getfield 185, 3) := by decide +kernel
theorem dX10_part_77 : decode cX10_part 77 = .ok (.iload_n 1, 1) := by decide +kernel
theorem dX10_part_78 : decode cX10_part 78 = .ok (.invokestatic 151, 3) := by decide +kernel
theorem dX10_part_81 : decode cX10_part 81 = .ok (.ireturn, 1) := by decide +kernel
theorem dX10_part_82 : decode cX10_part 82 = .ok (.aload_n 3, 1) := by decide +kernel
theorem dX10_part_83 : decode cX10_part 83 = .ok (.getfield 188, 3) := by decide +kernel
theorem dX10_part_86 : decode cX10_part 86 = .ok (.iload_n 1, 1) := by decide +kernel
theorem dX10_part_87 : decode cX10_part 87 = .ok (.invokestatic 151, 3) := by decide +kernel
theorem dX10_part_90 : decode cX10_part 90 = .ok (.ireturn, 1) := by decide +kernel
theorem dX10_part_91 : decode cX10_part 91 = .ok (.aload_n 3, 1) := by decide +kernel
theorem dX10_part_92 : decode cX10_part 92 = .ok (.getfield 191, 3) := by decide +kernel
theorem dX10_part_95 : decode cX10_part 95 = .ok (.iload_n 1, 1) := by decide +kernel
theorem dX10_part_96 : decode cX10_part 96 = .ok (.invokestatic 151, 3) := by decide +kernel
theorem dX10_part_99 : decode cX10_part 99 = .ok (.ireturn, 1) := by decide +kernel
theorem dX10_part_100 : decode cX10_part 100 = .ok (.aload_n 0, 1) := by decide +kernel
theorem dX10_part_101 : decode cX10_part 101 = .ok (.invokevirtual 194, 3) := by decide +kernel
theorem dX10_part_104 : decode cX10_part 104 = .ok (.iload_n 2, 1) := by decide +kernel
theorem dX10_part_105 : decode cX10_part 105 = .ok (.iconst 4, 1) := by decide +kernel
theorem dX10_part_106 : decode cX10_part 106 = .ok (.if_icmp .ne 13, 3) := by decide +kernel
theorem dX10_part_109 : decode cX10_part 109 = .ok (.aload_n 0, 1) := by decide +kernel
theorem dX10_part_110 : decode cX10_part 110 = .ok (.getfield 68, 3) := by decide +kernel
theorem dX10_part_113 : decode cX10_part 113 = .ok (.aload_n 3, 1) := by decide +kernel
theorem dX10_part_114 : decode cX10_part 114 = .ok (.iload_n 1, 1) := by decide +kernel
theorem dX10_part_115 : decode cX10_part 115 = .ok (.invokevirtual 197, 3) := by decide +kernel
theorem dX10_part_118 : decode cX10_part 118 = .ok (.ireturn, 1) := by decide +kernel
theorem dX10_part_119 : decode cX10_part 119 = .ok (.aload_n 0, 1) := by decide +kernel
theorem dX10_part_120 : decode cX10_part 120 = .ok (.getfield 68, 3) := by decide +kernel
theorem dX10_part_123 : decode cX10_part 123 = .ok (.aload_n 3, 1) := by decide +kernel
theorem dX10_part_124 : decode cX10_part 124 = .ok (.iload_n 1, 1) := by decide +kernel
theorem dX10_part_125 : decode cX10_part 125 = .ok (.invokevirtual 201, 3) := by decide +kernel
theorem dX10_part_128 : decode cX10_part 128 = .ok (.invokestatic 204, 3) := by decide +kernel
theorem dX10_part_131 : decode cX10_part 131 = .ok (.ireturn, 1) := by decide +kernel
set_option maxRecDepth 20000 in
theorem ggX10_lineLoss_X10_isWithin : GoodIn wsX10_lineLoss wsX10_isWithin := goodIn_r _ [8] (by decide +kernel) (by decide +kernel)
set_option maxRecDepth 20000 in
theorem gX10_lineLoss_X10_isWithin : GoodIn wsX10_lineLoss (va_wsS RX10 80 yX10_isWithin wsX10_isWithin) := goodIn_app (goodIn_of _ (by decide +kernel)) ggX10_lineLoss_X10_isWithin
set_option maxRecDepth 20000 in
theorem ggX10_lineLoss_X4_lossUpTo : GoodIn wsX10_lineLoss wsX4_lossUpTo := goodIn_r _ [13, 14, 15, 16, 17, 18, 19, 12, 20, 21, 22, 23, 7, 24, 25, 26, 27, 28, 43, 44, 45, 46, 47, 48, 49, 50] (by decide +kernel) (by decide +kernel)
set_option maxRecDepth 20000 in
theorem gX10_lineLoss_X4_lossUpTo : GoodIn wsX10_lineLoss (wsV RX10 207 RX4 yX4_lossUpTo wsX4_lossUpTo) := goodIn_app (goodIn_of _ (by decide +kernel)) ggX10_lineLoss_X4_lossUpTo
theorem dX10_lineLoss_0 : decode cX10_lineLoss 0 = .ok (.iload_n 1, 1) := by decide +kernel
theorem dX10_lineLoss_1 : decode cX10_lineLoss 1 = .ok (.iconst 0, 1) := by decide +kernel
theorem dX10_lineLoss_2 : decode cX10_lineLoss 2 = .ok (.aload_n 0, 1) := by decide +kernel
theorem dX10_lineLoss_3 : decode cX10_lineLoss 3 = .ok (.getfield 12, 3) := by decide +kernel
theorem dX10_lineLoss_6 : decode cX10_lineLoss 6 = .ok (.getfield 115, 3) := by decide +kernel
theorem dX10_lineLoss_9 : decode cX10_lineLoss 9 = .ok (.getfield 170, 3) := by decide +kernel
theorem dX10_lineLoss_12 : decode cX10_lineLoss 12 = .ok (.invokestatic 80, 3) := by decide +kernel
theorem dX10_lineLoss_15 : decode cX10_lineLoss 15 = .ok (.ifCond .ne 6, 3) := by decide +kernel
theorem dX10_lineLoss_18 : decode cX10_lineLoss 18 = .ok (.ldc 84, 2) := by decide +kernel
theorem dX10_lineLoss_20 : decode cX10_lineLoss 20 = .ok (.ireturn, 1) := by decide +kernel
theorem dX10_lineLoss_21 : decode cX10_lineLoss 21 = .ok (.aload_n 0, 1) := by decide +kernel
theorem dX10_lineLoss_22 : decode cX10_lineLoss 22 = .ok (.getfield 12, 3) := by decide +kernel
theorem dX10_lineLoss_25 : decode cX10_lineLoss 25 = .ok (.getfield 115, 3) := by decide +kernel
theorem dX10_lineLoss_28 : decode cX10_lineLoss 28 = .ok (.iload_n 1, 1) := by decide +kernel
theorem dX10_lineLoss_29 : decode cX10_lineLoss 29 = .ok (.invokevirtual 207, 3) := by decide +kernel
theorem dX10_lineLoss_32 : decode cX10_lineLoss 32 = .ok (.ireturn, 1) := by decide +kernel
set_option maxRecDepth 20000 in
theorem ggX10_sample_X10_isTracePlace : GoodIn wsX10_sample wsX10_isTracePlace := goodIn_r _ [11, 12, 13, 14, 15, 16, 10, 17, 189, 190, 191, 192, 193, 194, 195, 196, 197, 198, 199, 209, 210, 211, 212, 213, 214, 215, 216, 217, 218, 219] (by decide +kernel) (by decide +kernel)
set_option maxRecDepth 20000 in
theorem gX10_sample_X10_isTracePlace : GoodIn wsX10_sample (wsV RX10 210 RX10 yX10_isTracePlace wsX10_isTracePlace) := goodIn_app (goodIn_of _ (by decide +kernel)) ggX10_sample_X10_isTracePlace
set_option maxRecDepth 20000 in
theorem ggX10_sample_X10_isWithin : GoodIn wsX10_sample wsX10_isWithin := goodIn_r _ [17] (by decide +kernel) (by decide +kernel)
set_option maxRecDepth 20000 in
theorem gX10_sample_X10_isWithin : GoodIn wsX10_sample (va_wsS RX10 80 yX10_isWithin wsX10_isWithin) := goodIn_app (goodIn_of _ (by decide +kernel)) ggX10_sample_X10_isWithin
set_option maxRecDepth 20000 in
theorem ggX10_sample_X10_measure : GoodIn wsX10_sample wsX10_measure := goodIn_r _ [21, 22, 12, 23, 24, 25, 26, 10, 27, 28, 13, 2, 29, 30, 3, 31, 32, 33, 34, 35, 36, 37, 38, 39, 40, 41, 42, 43, 44, 45, 46, 47, 48, 49, 50, 51, 52, 53, 54, 55, 56, 57, 58, 59, 60, 61, 62, 63, 64, 65, 66, 67, 68, 69, 70, 71, 72, 73, 74, 75, 76, 77, 78, 79, 80, 81, 82, 83, 84, 85, 86, 87, 88, 89, 90, 91, 92, 93, 94, 95, 96, 97, 98, 99, 100, 101, 102, 103, 104, 105, 106, 107, 108, 109, 110, 111, 112, 113, 114, 115, 116, 117, 118, 119, 120, 121, 122, 123, 124, 125, 126, 127, 128, 129, 130, 131, 132, 133, 134, 135, 136, 137, 138, 139, 140, 141, 142, 143, 144, 145, 146, 147, 148, 149, 150, 151, 152, 153, 154, 155, 156, 157, 158, 159, 160, 161, 162, 163, 164, 165, 166, 167, 168, 169, 170, 171, 172, 173, 174, 175, 176, 177, 178, 179, 180, 181, 182, 183, 184, 185, 186, 187, 188, 189, 190, 191, 192, 193, 194, 195, 196, 197, 198, 199, 209, 210, 211, 200, 201, 202, 203, 204, 205, 206, 207, 208, 220, 221, 222, 223, 224, 225, 226, 212, 213, 214, 215, 216, 217, 218, 219, 227, 228, 229, 230, 231, 232, 233, 234, 235, 236, 237, 238] (by decide +kernel) (by decide +kernel)
set_option maxRecDepth 20000 in
theorem gX10_sample_X10_measure : GoodIn wsX10_sample (wsV RX10 194 RX10 yX10_measure wsX10_measure) := goodIn_app (goodIn_of _ (by decide +kernel)) ggX10_sample_X10_measure
set_option maxRecDepth 20000 in
theorem ggX10_sample_X10_at : GoodIn wsX10_sample wsX10_at := goodIn_r _ [34] (by decide +kernel) (by decide +kernel)
set_option maxRecDepth 20000 in
theorem gX10_sample_X10_at : GoodIn wsX10_sample (va_wsS RX10 151 yX10_at wsX10_at) := goodIn_app (goodIn_of _ (by decide +kernel)) ggX10_sample_X10_at
theorem dX10_sample_0 : decode cX10_sample 0 = .ok (.aload_n 0, 1) := by decide +kernel
theorem dX10_sample_1 : decode cX10_sample 1 = .ok (.iload_n 1, 1) := by decide +kernel
theorem dX10_sample_2 : decode cX10_sample 2 = .ok (.invokevirtual 210, 3) := by decide +kernel
theorem dX10_sample_5 : decode cX10_sample 5 = .ok (.ifCond .eq 12, 3) := by decide +kernel
theorem dX10_sample_8 : decode cX10_sample 8 = .ok (.iload_n 2, 1) := by decide +kernel
theorem dX10_sample_9 : decode cX10_sample 9 = .ok (.iconst 0, 1) := by decide +kernel
theorem dX10_sample_10 : decode cX10_sample 10 = .ok (.iconst 3, 1) := by decide +kernel
theorem dX10_sample_11 : decode cX10_sample 11 = .ok (.invokestatic 80, 3) := by decide +kernel
theorem dX10_sample_14 : decode cX10_sample 14 = .ok (.ifCond .ne 6, 3) := by decide +kernel
theorem dX10_sample_17 : decode cX10_sample 17 = .ok (.ldc 84, 2) := by decide +kernel
theorem dX10_sample_19 : decode cX10_sample 19 = .ok (.ireturn, 1) := by decide +kernel
theorem dX10_sample_20 : decode cX10_sample 20 = .ok (.aload_n 0, 1) := by decide +kernel
theorem dX10_sample_21 : decode cX10_sample 21 = .ok (.invokevirtual 194, 3) := by decide +kernel
theorem dX10_sample_24 : decode cX10_sample 24 = .ok (.iload_n 2, 1) := by decide +kernel
theorem dX10_sample_25 : decode cX10_sample 25 = .ok (.tableswitch 63 0 2 #[27, 39, 51], 27) := by decide +kernel
theorem dX10_sample_52 : decode cX10_sample 52 = .ok (.aload_n 0, 1) := by decide +kernel
theorem dX10_sample_53 : decode cX10_sample 53 = .ok (.getfield 61, 3) := by decide +kernel
theorem dX10_sample_56 : decode cX10_sample 56 = .ok (.getfield 213, 3) := by decide +kernel
theorem dX10_sample_59 : decode cX10_sample 59 = .ok (.iload_n 1, 1) := by decide +kernel
theorem dX10_sample_60 : decode cX10_sample 60 = .ok (.invokestatic 151, 3) := by decide +kernel
theorem dX10_sample_63 : decode cX10_sample 63 = .ok (.ireturn, 1) := by decide +kernel
theorem dX10_sample_64 : decode cX10_sample 64 = .ok (.aload_n 0, 1) := by decide +kernel
theorem dX10_sample_65 : decode cX10_sample 65 = .ok (.getfield 61, 3) := by decide +kernel
theorem dX10_sample_68 : decode cX10_sample 68 = .ok (.getfield 216, 3) := by decide +kernel
theorem dX10_sample_71 : decode cX10_sample 71 = .ok (.iload_n 1, 1) := by decide +kernel
theorem dX10_sample_72 : decode cX10_sample 72 = .ok (.invokestatic 151, 3) := by decide +kernel
theorem dX10_sample_75 : decode cX10_sample 75 = .ok (.ireturn, 1) := by decide +kernel
theorem dX10_sample_76 : decode cX10_sample 76 = .ok (.aload_n 0, 1) := by decide +kernel
theorem dX10_sample_77 : decode cX10_sample 77 = .ok (.getfield 61, 3) := by decide +kernel
theorem dX10_sample_80 : decode cX10_sample 80 = .ok (.getfield 219, 3) := by decide +kernel
theorem dX10_sample_83 : decode cX10_sample 83 = .ok (.iload_n 1, 1) := by decide +kernel
theorem dX10_sample_84 : decode cX10_sample 84 = .ok (.invokestatic 151, 3) := by decide +kernel
theorem dX10_sample_87 : decode cX10_sample 87 = .ok (.ireturn, 1) := by decide +kernel
theorem dX10_sample_88 : decode cX10_sample 88 = .ok (.aload_n 0, 1) := by decide +kernel
theorem dX10_sample_89 : decode cX10_sample 89 = .ok (.getfield 61, 3) := by decide +kernel
theorem dX10_sample_92 : decode cX10_sample 92 = .ok (.getfield 222, 3) := by decide +kernel
theorem dX10_sample_95 : decode cX10_sample 95 = .ok (.iload_n 1, 1) := by decide +kernel
theorem dX10_sample_96 : decode cX10_sample 96 = .ok (.invokestatic 151, 3) := by decide +kernel
theorem dX10_sample_99 : decode cX10_sample 99 = .ok (.ireturn, 1) := by decide +kernel
set_option maxRecDepth 20000 in
theorem ggX10_echo_X10_isWithin : GoodIn wsX10_echo wsX10_isWithin := goodIn_r _ [11] (by decide +kernel) (by decide +kernel)
set_option maxRecDepth 20000 in
theorem gX10_echo_X10_isWithin : GoodIn wsX10_echo (va_wsS RX10 80 yX10_isWithin wsX10_isWithin) := goodIn_app (goodIn_of _ (by decide +kernel)) ggX10_echo_X10_isWithin
set_option maxRecDepth 20000 in
theorem ggX10_echo_X10_measure : GoodIn wsX10_echo wsX10_measure := goodIn_r _ [15, 16, 17, 18, 19, 20, 21, 10, 22, 2, 23, 24, 25, 26, 27, 28, 29, 30, 31, 32, 33, 34, 35, 36, 37, 38, 39, 40, 41, 42, 43, 44, 45, 46, 47, 48, 49, 50, 51, 52, 53, 54, 55, 56, 57, 58, 59, 60, 61, 62, 63, 64, 65, 66, 67, 68, 69, 70, 71, 72, 73, 74, 75, 76, 77, 78, 79, 80, 81, 82, 83, 84, 85, 86, 87, 88, 89, 90, 91, 92, 93, 94, 95, 96, 97, 98, 99, 100, 101, 102, 103, 104, 105, 106, 107, 108, 109, 110, 111, 112, 113, 114, 115, 116, 117, 118, 119, 120, 121, 122, 123, 124, 125, 126, 127, 128, 129, 130, 131, 132, 133, 134, 135, 136, 137, 138, 139, 140, 141, 142, 143, 144, 145, 146, 147, 148, 149, 150, 151, 152, 153, 154, 155, 156, 157, 158, 159, 160, 161, 162, 163, 164, 165, 166, 167, 168, 169, 170, 171, 172, 173, 174, 175, 176, 177, 178, 179, 180, 181, 182, 183, 184, 185, 187, 188, 189, 190, 191, 192, 193, 194, 195, 196, 197, 205, 206, 207, 208, 209, 210, 211, 212, 213, 214, 215, 216, 198, 199, 200, 201, 202, 203, 204, 217, 218, 219, 220, 221, 222, 223, 224, 225, 226, 227, 228, 229, 230, 231, 232, 233, 234, 235, 236] (by decide +kernel) (by decide +kernel)
set_option maxRecDepth 20000 in
theorem gX10_echo_X10_measure : GoodIn wsX10_echo (wsV RX10 194 RX10 yX10_measure wsX10_measure) := goodIn_app (goodIn_of _ (by decide +kernel)) ggX10_echo_X10_measure
set_option maxRecDepth 20000 in
theorem ggX10_echo_X1_ghostPlace : GoodIn wsX10_echo wsX1_ghostPlace := goodIn_r _ [67, 62, 61, 30, 10, 31, 198, 199, 200, 201, 202, 203, 204] (by decide +kernel) (by decide +kernel)
set_option maxRecDepth 20000 in
theorem gX10_echo_X1_ghostPlace : GoodIn wsX10_echo (wsV RX10 227 RX1 yX1_ghostPlace wsX1_ghostPlace) := goodIn_app (goodIn_of _ (by decide +kernel)) ggX10_echo_X1_ghostPlace
set_option maxRecDepth 20000 in
theorem ggX10_echo_X10_at : GoodIn wsX10_echo wsX10_at := goodIn_r _ [31] (by decide +kernel) (by decide +kernel)
set_option maxRecDepth 20000 in
theorem gX10_echo_X10_at : GoodIn wsX10_echo (va_wsS RX10 151 yX10_at wsX10_at) := goodIn_app (goodIn_of _ (by decide +kernel)) ggX10_echo_X10_at
theorem dX10_echo_0 : decode cX10_echo 0 = .ok (.iload_n 1, 1) := by decide +kernel
theorem dX10_echo_1 : decode cX10_echo 1 = .ok (.ifCond .lt 12, 3) := by decide +kernel
theorem dX10_echo_4 : decode cX10_echo 4 = .ok (.iload_n 2, 1) := by decide +kernel
theorem dX10_echo_5 : decode cX10_echo 5 = .ok (.iconst 0, 1) := by decide +kernel
theorem dX10_echo_6 : decode cX10_echo 6 = .ok (.iconst 3, 1) := by decide +kernel
theorem dX10_echo_7 : decode cX10_echo 7 = .ok (.invokestatic 80, 3) := by decide +kernel
theorem dX10_echo_10 : decode cX10_echo 10 = .ok (.ifCond .ne 6, 3) := by decide +kernel
theorem dX10_echo_13 : decode cX10_echo 13 = .ok (.ldc 84, 2) := by decide +kernel
theorem dX10_echo_15 : decode cX10_echo 15 = .ok (.ireturn, 1) := by decide +kernel
theorem dX10_echo_16 : decode cX10_echo 16 = .ok (.aload_n 0, 1) := by decide +kernel
theorem dX10_echo_17 : decode cX10_echo 17 = .ok (.invokevirtual 194, 3) := by decide +kernel
theorem dX10_echo_20 : decode cX10_echo 20 = .ok (.iload_n 1, 1) := by decide +kernel
theorem dX10_echo_21 : decode cX10_echo 21 = .ok (.aload_n 0, 1) := by decide +kernel
theorem dX10_echo_22 : decode cX10_echo 22 = .ok (.getfield 54, 3) := by decide +kernel
theorem dX10_echo_25 : decode cX10_echo 25 = .ok (.getfield 224, 3) := by decide +kernel
theorem dX10_echo_28 : decode cX10_echo 28 = .ok (.if_icmp .lt 6, 3) := by decide +kernel
theorem dX10_echo_31 : decode cX10_echo 31 = .ok (.ldc 104, 2) := by decide +kernel
theorem dX10_echo_33 : decode cX10_echo 33 = .ok (.ireturn, 1) := by decide +kernel
theorem dX10_echo_34 : decode cX10_echo 34 = .ok (.iload_n 2, 1) := by decide +kernel
theorem dX10_echo_35 : decode cX10_echo 35 = .ok (.tableswitch 58 0 2 #[25, 34, 46], 25) := by decide +kernel
theorem dX10_echo_60 : decode cX10_echo 60 = .ok (.aload_n 0, 1) := by decide +kernel
theorem dX10_echo_61 : decode cX10_echo 61 = .ok (.getfield 54, 3) := by decide +kernel
theorem dX10_echo_64 : decode cX10_echo 64 = .ok (.iload_n 1, 1) := by decide +kernel
theorem dX10_echo_65 : decode cX10_echo 65 = .ok (.invokevirtual 227, 3) := by decide +kernel
theorem dX10_echo_68 : decode cX10_echo 68 = .ok (.ireturn, 1) := by decide +kernel
theorem dX10_echo_69 : decode cX10_echo 69 = .ok (.aload_n 0, 1) := by decide +kernel
theorem dX10_echo_70 : decode cX10_echo 70 = .ok (.getfield 54, 3) := by decide +kernel
theorem dX10_echo_73 : decode cX10_echo 73 = .ok (.getfield 230, 3) := by decide +kernel
theorem dX10_echo_76 : decode cX10_echo 76 = .ok (.iload_n 1, 1) := by decide +kernel
theorem dX10_echo_77 : decode cX10_echo 77 = .ok (.invokestatic 151, 3) := by decide +kernel
theorem dX10_echo_80 : decode cX10_echo 80 = .ok (.ireturn, 1) := by decide +kernel
theorem dX10_echo_81 : decode cX10_echo 81 = .ok (.aload_n 0, 1) := by decide +kernel
theorem dX10_echo_82 : decode cX10_echo 82 = .ok (.getfield 54, 3) := by decide +kernel
theorem dX10_echo_85 : decode cX10_echo 85 = .ok (.getfield 233, 3) := by decide +kernel
theorem dX10_echo_88 : decode cX10_echo 88 = .ok (.iload_n 1, 1) := by decide +kernel
theorem dX10_echo_89 : decode cX10_echo 89 = .ok (.invokestatic 151, 3) := by decide +kernel
theorem dX10_echo_92 : decode cX10_echo 92 = .ok (.ireturn, 1) := by decide +kernel
theorem dX10_echo_93 : decode cX10_echo 93 = .ok (.aload_n 0, 1) := by decide +kernel
theorem dX10_echo_94 : decode cX10_echo 94 = .ok (.getfield 54, 3) := by decide +kernel
theorem dX10_echo_97 : decode cX10_echo 97 = .ok (.getfield 236, 3) := by decide +kernel
theorem dX10_echo_100 : decode cX10_echo 100 = .ok (.iload_n 1, 1) := by decide +kernel
theorem dX10_echo_101 : decode cX10_echo 101 = .ok (.invokestatic 151, 3) := by decide +kernel
theorem dX10_echo_104 : decode cX10_echo 104 = .ok (.ireturn, 1) := by decide +kernel
set_option maxRecDepth 20000 in
theorem ggX10_pulsesFor_X10_isWithin : GoodIn wsX10_pulsesFor wsX10_isWithin := goodIn_r _ [6] (by decide +kernel) (by decide +kernel)
set_option maxRecDepth 20000 in
theorem gX10_pulsesFor_X10_isWithin : GoodIn wsX10_pulsesFor (va_wsS RX10 80 yX10_isWithin wsX10_isWithin) := goodIn_app (goodIn_of _ (by decide +kernel)) ggX10_pulsesFor_X10_isWithin
set_option maxRecDepth 20000 in
theorem ggX10_pulsesFor_X10_isQuiet : GoodIn wsX10_pulsesFor wsX10_isQuiet := goodIn_r _ [10, 11, 12, 13, 14, 15, 16, 17, 18, 19, 20, 21, 22, 23, 24, 25, 26, 27, 5, 28, 29, 30, 31, 32, 33, 34, 35, 36, 37, 38, 39, 40, 41, 42, 43, 44, 45, 46, 47, 48, 49, 50, 51, 52, 53, 54, 55, 56, 57, 58, 59] (by decide +kernel) (by decide +kernel)
set_option maxRecDepth 20000 in
theorem gX10_pulsesFor_X10_isQuiet : GoodIn wsX10_pulsesFor (wsV RX10 239 RX10 yX10_isQuiet wsX10_isQuiet) := goodIn_app (goodIn_of _ (by decide +kernel)) ggX10_pulsesFor_X10_isQuiet
theorem dX10_pulsesFor_0 : decode cX10_pulsesFor 0 = .ok (.iload_n 1, 1) := by decide +kernel
theorem dX10_pulsesFor_1 : decode cX10_pulsesFor 1 = .ok (.iconst 0, 1) := by decide +kernel
theorem dX10_pulsesFor_2 : decode cX10_pulsesFor 2 = .ok (.sipush 400, 3) := by decide +kernel
theorem dX10_pulsesFor_5 : decode cX10_pulsesFor 5 = .ok (.invokestatic 80, 3) := by decide +kernel
theorem dX10_pulsesFor_8 : decode cX10_pulsesFor 8 = .ok (.ifCond .ne 6, 3) := by decide +kernel
theorem dX10_pulsesFor_11 : decode cX10_pulsesFor 11 = .ok (.ldc 84, 2) := by decide +kernel
theorem dX10_pulsesFor_13 : decode cX10_pulsesFor 13 = .ok (.ireturn, 1) := by decide +kernel
theorem dX10_pulsesFor_14 : decode cX10_pulsesFor 14 = .ok (.iconst 1, 1) := by decide +kernel
theorem dX10_pulsesFor_15 : decode cX10_pulsesFor 15 = .ok (.istore_n 2, 1) := by decide +kernel
theorem dX10_pulsesFor_16 : decode cX10_pulsesFor 16 = .ok (.iload_n 2, 1) := by decide +kernel
theorem dX10_pulsesFor_17 : decode cX10_pulsesFor 17 = .ok (.bipush 32, 2) := by decide +kernel
theorem dX10_pulsesFor_19 : decode cX10_pulsesFor 19 = .ok (.if_icmp .gt 20, 3) := by decide +kernel
theorem dX10_pulsesFor_22 : decode cX10_pulsesFor 22 = .ok (.aload_n 0, 1) := by decide +kernel
theorem dX10_pulsesFor_23 : decode cX10_pulsesFor 23 = .ok (.iload_n 2, 1) := by decide +kernel
theorem dX10_pulsesFor_24 : decode cX10_pulsesFor 24 = .ok (.iload_n 1, 1) := by decide +kernel
theorem dX10_pulsesFor_25 : decode cX10_pulsesFor 25 = .ok (.invokevirtual 239, 3) := by decide +kernel
theorem dX10_pulsesFor_28 : decode cX10_pulsesFor 28 = .ok (.ifCond .eq 5, 3) := by decide +kernel
theorem dX10_pulsesFor_31 : decode cX10_pulsesFor 31 = .ok (.iload_n 2, 1) := by decide +kernel
theorem dX10_pulsesFor_32 : decode cX10_pulsesFor 32 = .ok (.ireturn, 1) := by decide +kernel
theorem dX10_pulsesFor_33 : decode cX10_pulsesFor 33 = .ok (.iinc 2 1, 3) := by decide +kernel
theorem dX10_pulsesFor_36 : decode cX10_pulsesFor 36 = .ok (.goto (-20), 3) := by decide +kernel
theorem dX10_pulsesFor_39 : decode cX10_pulsesFor 39 = .ok (.ldc 104, 2) := by decide +kernel
theorem dX10_pulsesFor_41 : decode cX10_pulsesFor 41 = .ok (.ireturn, 1) := by decide +kernel
set_option maxRecDepth 20000 in
theorem ggX10_events_X10_measure : GoodIn wsX10_events wsX10_measure := goodIn_r _ [7, 8, 9, 10, 11, 12, 13, 6, 14, 15, 16, 17, 18, 1, 19, 20, 21, 22, 23, 24, 25, 26, 27, 28, 29, 30, 31, 32, 33, 34, 35, 36, 37, 38, 39, 40, 41, 42, 43, 44, 45, 46, 47, 48, 49, 50, 51, 52, 53, 54, 55, 56, 57, 58, 59, 60, 61, 62, 63, 64, 65, 66, 67, 68, 69, 70, 71, 72, 73, 74, 75, 76, 77, 78, 79, 80, 81, 82, 83, 84, 85, 86, 87, 88, 89, 90, 91, 92, 93, 94, 95, 96, 97, 98, 99, 100, 101, 102, 103, 104, 105, 106, 107, 108, 109, 110, 111, 112, 113, 114, 115, 116, 117, 118, 119, 120, 121, 122, 123, 124, 125, 126, 127, 128, 129, 130, 131, 132, 133, 134, 135, 136, 137, 138, 139, 140, 141, 142, 143, 144, 145, 146, 147, 148, 149, 150, 151, 152, 153, 154, 155, 156, 157, 158, 159, 160, 161, 162, 163, 164, 165, 166, 167, 168, 169, 170, 171, 172, 173, 174, 175, 176, 177, 178, 179, 180, 181, 182, 183, 184, 185, 186, 187, 188, 199, 200, 201, 202, 203, 204, 205, 206, 207, 208, 209, 210, 211, 212, 213, 214, 215, 216, 217, 218, 219, 220, 221, 222, 223, 224, 225, 226, 227, 189, 190, 191, 192, 193, 194, 195, 196, 197, 198] (by decide +kernel) (by decide +kernel)
set_option maxRecDepth 20000 in
theorem gX10_events_X10_measure : GoodIn wsX10_events (wsV RX10 194 RX10 yX10_measure wsX10_measure) := goodIn_app (goodIn_of _ (by decide +kernel)) ggX10_events_X10_measure
theorem dX10_events_0 : decode cX10_events 0 = .ok (.aload_n 0, 1) := by decide +kernel
theorem dX10_events_1 : decode cX10_events 1 = .ok (.invokevirtual 194, 3) := by decide +kernel
theorem dX10_events_4 : decode cX10_events 4 = .ok (.aload_n 0, 1) := by decide +kernel
theorem dX10_events_5 : decode cX10_events 5 = .ok (.getfield 68, 3) := by decide +kernel
theorem dX10_events_8 : decode cX10_events 8 = .ok (.getfield 242, 3) := by decide +kernel
theorem dX10_events_11 : decode cX10_events 11 = .ok (.ireturn, 1) := by decide +kernel
set_option maxRecDepth 20000 in
theorem ggX10_event_X10_measure : GoodIn wsX10_event wsX10_measure := goodIn_r _ [16, 17, 18, 19, 20, 21, 22, 15, 23, 24, 25, 26, 27, 1, 28, 29, 30, 31, 32, 33, 34, 35, 36, 37, 38, 39, 40, 41, 42, 43, 44, 45, 46, 47, 48, 49, 50, 51, 52, 53, 54, 55, 56, 57, 58, 59, 60, 61, 62, 63, 64, 65, 66, 67, 68, 69, 70, 71, 72, 73, 74, 75, 76, 77, 78, 79, 80, 81, 82, 83, 84, 85, 86, 87, 88, 89, 90, 91, 92, 93, 94, 95, 96, 97, 98, 99, 100, 101, 102, 103, 104, 105, 106, 107, 108, 109, 110, 111, 112, 113, 114, 115, 116, 117, 118, 119, 120, 121, 122, 123, 124, 125, 126, 127, 128, 129, 130, 131, 132, 133, 134, 135, 136, 137, 138, 139, 140, 141, 142, 143, 144, 145, 146, 147, 148, 149, 150, 151, 152, 153, 154, 155, 156, 157, 158, 159, 160, 161, 162, 163, 164, 165, 166, 167, 168, 169, 170, 171, 172, 173, 174, 175, 176, 177, 178, 179, 180, 181, 182, 183, 184, 185, 186, 194, 195, 196, 197, 198, 199, 200, 201, 202, 203, 204, 215, 216, 217, 218, 219, 220, 221, 222, 223, 224, 225, 226, 227, 228, 229, 230, 231, 232, 233, 234, 235, 236, 237, 238, 239, 240, 241, 242, 243, 205, 206, 207, 208, 209, 210, 211, 212, 213, 214] (by decide +kernel) (by decide +kernel)
set_option maxRecDepth 20000 in
theorem gX10_event_X10_measure : GoodIn wsX10_event (wsV RX10 194 RX10 yX10_measure wsX10_measure) := goodIn_app (goodIn_of _ (by decide +kernel)) ggX10_event_X10_measure
set_option maxRecDepth 20000 in
theorem ggX10_event_X10_isWithin : GoodIn wsX10_event wsX10_isWithin := goodIn_r _ [189] (by decide +kernel) (by decide +kernel)
set_option maxRecDepth 20000 in
theorem gX10_event_X10_isWithin : GoodIn wsX10_event (va_wsS RX10 80 yX10_isWithin wsX10_isWithin) := goodIn_app (goodIn_of _ (by decide +kernel)) ggX10_event_X10_isWithin
set_option maxRecDepth 20000 in
theorem ggX10_event_X10_at : GoodIn wsX10_event wsX10_at := goodIn_r _ [32] (by decide +kernel) (by decide +kernel)
set_option maxRecDepth 20000 in
theorem gX10_event_X10_at : GoodIn wsX10_event (va_wsS RX10 151 yX10_at wsX10_at) := goodIn_app (goodIn_of _ (by decide +kernel)) ggX10_event_X10_at
set_option maxRecDepth 20000 in
theorem ggX10_event_X10_orNotFound : GoodIn wsX10_event wsX10_orNotFound := goodIn_r _ [192, 193] (by decide +kernel) (by decide +kernel)
set_option maxRecDepth 20000 in
theorem gX10_event_X10_orNotFound : GoodIn wsX10_event (va_wsS RX10 204 yX10_orNotFound wsX10_orNotFound) := goodIn_app (goodIn_of _ (by decide +kernel)) ggX10_event_X10_orNotFound
theorem dX10_event_0 : decode cX10_event 0 = .ok (.aload_n 0, 1) := by decide +kernel
theorem dX10_event_1 : decode cX10_event 1 = .ok (.invokevirtual 194, 3) := by decide +kernel
theorem dX10_event_4 : decode cX10_event 4 = .ok (.iload_n 1, 1) := by decide +kernel
theorem dX10_event_5 : decode cX10_event 5 = .ok (.iconst 0, 1) := by decide +kernel
theorem dX10_event_6 : decode cX10_event 6 = .ok (.aload_n 0, 1) := by decide +kernel
theorem dX10_event_7 : decode cX10_event 7 = .ok (.getfield 68, 3) := by decide +kernel
theorem dX10_event_10 : decode cX10_event 10 = .ok (.getfield 242, 3) := by decide +kernel
theorem dX10_event_13 : decode cX10_event 13 = .ok (.iconst 1, 1) := by decide +kernel
theorem dX10_event_14 : decode cX10_event 14 = .ok (.isub, 1) := by decide +kernel
theorem dX10_event_15 : decode cX10_event 15 = .ok (.invokestatic 80, 3) := by decide +kernel
theorem dX10_event_18 : decode cX10_event 18 = .ok (.ifCond .eq 13, 3) := by decide +kernel
theorem dX10_event_21 : decode cX10_event 21 = .ok (.iload_n 2, 1) := by decide +kernel
theorem dX10_event_22 : decode cX10_event 22 = .ok (.iconst 0, 1) := by decide +kernel
theorem dX10_event_23 : decode cX10_event 23 = .ok (.bipush 7, 2) := by decide +kernel
theorem dX10_event_25 : decode cX10_event 25 = .ok (.invokestatic 80, 3) := by decide +kernel
theorem dX10_event_28 : decode cX10_event 28 = .ok (.ifCond .ne 6, 3) := by decide +kernel
theorem dX10_event_31 : decode cX10_event 31 = .ok (.ldc 84, 2) := by decide +kernel
theorem dX10_event_33 : decode cX10_event 33 = .ok (.ireturn, 1) := by decide +kernel
theorem dX10_event_34 : decode cX10_event 34 = .ok (.iload_n 2, 1) := by decide +kernel
theorem dX10_event_35 : decode cX10_event 35 = .ok (.tableswitch 128 0 6 #[41, 53, 65, 77, 89, 101, 113], 41) := by decide +kernel
theorem dX10_event_76 : decode cX10_event 76 = .ok (.aload_n 0, 1) := by decide +kernel
theorem dX10_event_77 : decode cX10_event 77 = .ok (.getfield 68, 3) := by decide +kernel
theorem dX10_event_80 : decode cX10_event 80 = .ok (.getfield 243, 3) := by decide +kernel
theorem dX10_event_83 : decode cX10_event 83 = .ok (.iload_n 1, 1) := by decide +kernel
theorem dX10_event_84 : decode cX10_event 84 = .ok (.invokestatic 151, 3) := by decide +kernel
theorem dX10_event_87 : decode cX10_event 87 = .ok (.ireturn, 1) := by decide +kernel
theorem dX10_event_88 : decode cX10_event 88 = .ok (.aload_n 0, 1) := by decide +kernel
theorem dX10_event_89 : decode cX10_event 89 = .ok (.getfield 68, 3) := by decide +kernel
theorem dX10_event_92 : decode cX10_event 92 = .ok (.getfield 246, 3) := by decide +kernel
theorem dX10_event_95 : decode cX10_event 95 = .ok (.iload_n 1, 1) := by decide +kernel
theorem dX10_event_96 : decode cX10_event 96 = .ok (.invokestatic 151, 3) := by decide +kernel
theorem dX10_event_99 : decode cX10_event 99 = .ok (.ireturn, 1) := by decide +kernel
theorem dX10_event_100 : decode cX10_event 100 = .ok (.aload_n 0, 1) := by decide +kernel
theorem dX10_event_101 : decode cX10_event 101 = .ok (.getfield 68, 3) := by decide +kernel
theorem dX10_event_104 : decode cX10_event 104 = .ok (.getfield 249, 3) := by decide +kernel
theorem dX10_event_107 : decode cX10_event 107 = .ok (.iload_n 1, 1) := by decide +kernel
theorem dX10_event_108 : decode cX10_event 108 = .ok (.invokestatic 151, 3) := by decide +kernel
theorem dX10_event_111 : decode cX10_event 111 = .ok (.ireturn, 1) := by decide +kernel
theorem dX10_event_112 : decode cX10_event 112 = .ok (.aload_n 0, 1) := by decide +kernel
theorem dX10_event_113 : decode cX10_event 113 = .ok (.getfield 68, 3) := by decide +kernel
theorem dX10_event_116 : decode cX10_event 116 = .ok (.getfield 250, 3) := by decide +kernel
theorem dX10_event_119 : decode cX10_event 119 = .ok (.iload_n 1, 1) := by decide +kernel
theorem dX10_event_120 : decode cX10_event 120 = .ok (.invokestatic 151, 3) := by decide +kernel
theorem dX10_event_123 : decode cX10_event 123 = .ok (.ireturn, 1) := by decide +kernel
theorem dX10_event_124 : decode cX10_event 124 = .ok (.aload_n 0, 1) := by decide +kernel
theorem dX10_event_125 : decode cX10_event 125 = .ok (.getfield 68, 3) := by decide +kernel
theorem dX10_event_128 : decode cX10_event 128 = .ok (.getfield 253, 3) := by decide +kernel
theorem dX10_event_131 : decode cX10_event 131 = .ok (.iload_n 1, 1) := by decide +kernel
theorem dX10_event_132 : decode cX10_event 132 = .ok (.invokestatic 151, 3) := by decide +kernel
theorem dX10_event_135 : decode cX10_event 135 = .ok (.ireturn, 1) := by decide +kernel
theorem dX10_event_136 : decode cX10_event 136 = .ok (.aload_n 0, 1) := by decide +kernel
theorem dX10_event_137 : decode cX10_event 137 = .ok (.getfield 68, 3) := by decide +kernel
theorem dX10_event_140 : decode cX10_event 140 = .ok (.getfield 254, 3) := by decide +kernel
theorem dX10_event_143 : decode cX10_event 143 = .ok (.iload_n 1, 1) := by decide +kernel
theorem dX10_event_144 : decode cX10_event 144 = .ok (.invokestatic 151, 3) := by decide +kernel
theorem dX10_event_147 : decode cX10_event 147 = .ok (.ireturn, 1) := by decide +kernel
theorem dX10_event_148 : decode cX10_event 148 = .ok (.aload_n 0, 1) := by decide +kernel
theorem dX10_event_149 : decode cX10_event 149 = .ok (.getfield 68, 3) := by decide +kernel
theorem dX10_event_152 : decode cX10_event 152 = .ok (.getfield 257, 3) := by decide +kernel
theorem dX10_event_155 : decode cX10_event 155 = .ok (.iload_n 1, 1) := by decide +kernel
theorem dX10_event_156 : decode cX10_event 156 = .ok (.invokestatic 151, 3) := by decide +kernel
theorem dX10_event_159 : decode cX10_event 159 = .ok (.invokestatic 204, 3) := by decide +kernel
theorem dX10_event_162 : decode cX10_event 162 = .ok (.ireturn, 1) := by decide +kernel
theorem dX10_event_163 : decode cX10_event 163 = .ok (.aload_n 0, 1) := by decide +kernel
theorem dX10_event_164 : decode cX10_event 164 = .ok (.getfield 68, 3) := by decide +kernel
theorem dX10_event_167 : decode cX10_event 167 = .ok (.getfield 260, 3) := by decide +kernel
theorem dX10_event_170 : decode cX10_event 170 = .ok (.iload_n 1, 1) := by decide +kernel
theorem dX10_event_171 : decode cX10_event 171 = .ok (.invokestatic 151, 3) := by decide +kernel
theorem dX10_event_174 : decode cX10_event 174 = .ok (.invokestatic 204, 3) := by decide +kernel
theorem dX10_event_177 : decode cX10_event 177 = .ok (.ireturn, 1) := by decide +kernel
set_option maxRecDepth 20000 in
theorem ggX10_total_X10_isWithin : GoodIn wsX10_total wsX10_isWithin := goodIn_r _ [9] (by decide +kernel) (by decide +kernel)
set_option maxRecDepth 20000 in
theorem gX10_total_X10_isWithin : GoodIn wsX10_total (va_wsS RX10 80 yX10_isWithin wsX10_isWithin) := goodIn_app (goodIn_of _ (by decide +kernel)) ggX10_total_X10_isWithin
set_option maxRecDepth 20000 in
theorem ggX10_total_X10_measure : GoodIn wsX10_total wsX10_measure := goodIn_r _ [13, 14, 15, 16, 17, 18, 19, 8, 20, 21, 22, 23, 24, 2, 25, 26, 27, 28, 29, 30, 31, 32, 33, 34, 35, 36, 37, 38, 39, 40, 41, 42, 43, 44, 45, 46, 47, 48, 49, 50, 51, 52, 53, 54, 55, 56, 57, 58, 59, 60, 61, 62, 63, 64, 65, 66, 67, 68, 69, 70, 71, 72, 73, 74, 75, 76, 77, 78, 79, 80, 81, 82, 83, 84, 85, 86, 87, 88, 89, 90, 91, 92, 93, 94, 95, 96, 97, 98, 99, 100, 101, 102, 103, 104, 105, 106, 107, 108, 109, 110, 111, 112, 113, 114, 115, 116, 117, 118, 119, 120, 121, 122, 123, 124, 125, 126, 127, 128, 129, 130, 131, 132, 133, 134, 135, 136, 137, 138, 139, 140, 141, 142, 143, 144, 145, 146, 147, 148, 149, 150, 151, 152, 153, 154, 155, 156, 157, 158, 159, 160, 161, 162, 163, 164, 165, 166, 167, 168, 169, 170, 171, 172, 173, 174, 175, 176, 177, 178, 179, 180, 181, 182, 183, 200, 201, 202, 203, 204, 205, 206, 207, 208, 209, 210, 221, 222, 223, 224, 225, 226, 227, 228, 229, 230, 231, 232, 233, 234, 235, 236, 237, 238, 239, 240, 241, 242, 243, 244, 245, 246, 247, 248, 249, 211, 212, 213, 214, 215, 216, 217, 218, 219, 220] (by decide +kernel) (by decide +kernel)
set_option maxRecDepth 20000 in
theorem gX10_total_X10_measure : GoodIn wsX10_total (wsV RX10 194 RX10 yX10_measure wsX10_measure) := goodIn_app (goodIn_of _ (by decide +kernel)) ggX10_total_X10_measure
set_option maxRecDepth 20000 in
theorem ggX10_total_X10_sum : GoodIn wsX10_total wsX10_sum := goodIn_r _ [186, 27, 28, 8, 29] (by decide +kernel) (by decide +kernel)
set_option maxRecDepth 20000 in
theorem gX10_total_X10_sum : GoodIn wsX10_total (va_wsS RX10 263 yX10_sum wsX10_sum) := goodIn_app (goodIn_of _ (by decide +kernel)) ggX10_total_X10_sum
set_option maxRecDepth 20000 in
theorem ggX10_total_X7_lossOfGhosts : GoodIn wsX10_total wsX7_lossOfGhosts := goodIn_r _ [190, 148, 150, 164, 28, 8, 29, 211, 212, 213, 214, 215, 216, 217, 218, 219, 220] (by decide +kernel) (by decide +kernel)
set_option maxRecDepth 20000 in
theorem gX10_total_X7_lossOfGhosts : GoodIn wsX10_total (wsV RX10 266 RX7 yX7_lossOfGhosts wsX7_lossOfGhosts) := goodIn_app (goodIn_of _ (by decide +kernel)) ggX10_total_X7_lossOfGhosts
set_option maxRecDepth 20000 in
theorem ggX10_total_X7_countOf : GoodIn wsX10_total wsX7_countOf := goodIn_r _ [194, 148, 150, 28, 8, 29, 211, 212, 213, 214, 215, 216, 217, 218, 219, 220] (by decide +kernel) (by decide +kernel)
set_option maxRecDepth 20000 in
theorem gX10_total_X7_countOf : GoodIn wsX10_total (wsV RX10 269 RX7 yX7_countOf wsX7_countOf) := goodIn_app (goodIn_of _ (by decide +kernel)) ggX10_total_X7_countOf
set_option maxRecDepth 20000 in
theorem ggX10_total_X10_readLoss : GoodIn wsX10_total wsX10_readLoss := goodIn_r _ [198, 2, 4, 23, 25, 199, 27, 28, 8, 29, 200, 201, 202, 203, 204, 205, 206, 207, 208, 209, 210, 211, 212, 213, 214, 215, 216, 217, 218, 219, 220, 224, 225, 226, 227, 228, 229, 230, 231, 232] (by decide +kernel) (by decide +kernel)
set_option maxRecDepth 20000 in
theorem gX10_total_X10_readLoss : GoodIn wsX10_total (wsV RX10 272 RX10 yX10_readLoss wsX10_readLoss) := goodIn_app (goodIn_of _ (by decide +kernel)) ggX10_total_X10_readLoss
theorem dX10_total_0 : decode cX10_total 0 = .ok (.iload_n 1, 1) := by decide +kernel
theorem dX10_total_1 : decode cX10_total 1 = .ok (.iconst 0, 1) := by decide +kernel
theorem dX10_total_2 : decode cX10_total 2 = .ok (.bipush 7, 2) := by decide +kernel
theorem dX10_total_4 : decode cX10_total 4 = .ok (.invokestatic 80, 3) := by decide +kernel
theorem dX10_total_7 : decode cX10_total 7 = .ok (.ifCond .ne 6, 3) := by decide +kernel
theorem dX10_total_10 : decode cX10_total 10 = .ok (.ldc 84, 2) := by decide +kernel
theorem dX10_total_12 : decode cX10_total 12 = .ok (.ireturn, 1) := by decide +kernel
theorem dX10_total_13 : decode cX10_total 13 = .ok (.aload_n 0, 1) := by decide +kernel
theorem dX10_total_14 : decode cX10_total 14 = .ok (.invokevirtual 194, 3) := by decide +kernel
theorem dX10_total_17 : decode cX10_total 17 = .ok (.iload_n 1, 1) := by decide +kernel
theorem dX10_total_18 : decode cX10_total 18 = .ok (.tableswitch 118 0 6 #[42, 60, 78, 86, 95, 104, 113], 42) := by decide +kernel
theorem dX10_total_60 : decode cX10_total 60 = .ok (.aload_n 0, 1) := by decide +kernel
theorem dX10_total_61 : decode cX10_total 61 = .ok (.getfield 68, 3) := by decide +kernel
theorem dX10_total_64 : decode cX10_total 64 = .ok (.getfield 249, 3) := by decide +kernel
theorem dX10_total_67 : decode cX10_total 67 = .ok (.aload_n 0, 1) := by decide +kernel
theorem dX10_total_68 : decode cX10_total 68 = .ok (.getfield 68, 3) := by decide +kernel
theorem dX10_total_71 : decode cX10_total 71 = .ok (.getfield 242, 3) := by decide +kernel
theorem dX10_total_74 : decode cX10_total 74 = .ok (.invokestatic 263, 3) := by decide +kernel
theorem dX10_total_77 : decode cX10_total 77 = .ok (.ireturn, 1) := by decide +kernel
theorem dX10_total_78 : decode cX10_total 78 = .ok (.aload_n 0, 1) := by decide +kernel
theorem dX10_total_79 : decode cX10_total 79 = .ok (.getfield 68, 3) := by decide +kernel
theorem dX10_total_82 : decode cX10_total 82 = .ok (.getfield 254, 3) := by decide +kernel
theorem dX10_total_85 : decode cX10_total 85 = .ok (.aload_n 0, 1) := by decide +kernel
theorem dX10_total_86 : decode cX10_total 86 = .ok (.getfield 68, 3) := by decide +kernel
theorem dX10_total_89 : decode cX10_total 89 = .ok (.getfield 242, 3) := by decide +kernel
theorem dX10_total_92 : decode cX10_total 92 = .ok (.invokestatic 263, 3) := by decide +kernel
theorem dX10_total_95 : decode cX10_total 95 = .ok (.ireturn, 1) := by decide +kernel
theorem dX10_total_96 : decode cX10_total 96 = .ok (.aload_n 0, 1) := by decide +kernel
theorem dX10_total_97 : decode cX10_total 97 = .ok (.getfield 68, 3) := by decide +kernel
theorem dX10_total_100 : decode cX10_total 100 = .ok (.invokevirtual 266, 3) := by decide +kernel
theorem dX10_total_103 : decode cX10_total 103 = .ok (.ireturn, 1) := by decide +kernel
theorem dX10_total_104 : decode cX10_total 104 = .ok (.aload_n 0, 1) := by decide +kernel
theorem dX10_total_105 : decode cX10_total 105 = .ok (.getfield 68, 3) := by decide +kernel
theorem dX10_total_108 : decode cX10_total 108 = .ok (.iconst 0, 1) := by decide +kernel
theorem dX10_total_109 : decode cX10_total 109 = .ok (.invokevirtual 269, 3) := by decide +kernel
theorem dX10_total_112 : decode cX10_total 112 = .ok (.ireturn, 1) := by decide +kernel
theorem dX10_total_113 : decode cX10_total 113 = .ok (.aload_n 0, 1) := by decide +kernel
theorem dX10_total_114 : decode cX10_total 114 = .ok (.getfield 68, 3) := by decide +kernel
theorem dX10_total_117 : decode cX10_total 117 = .ok (.iconst 1, 1) := by decide +kernel
theorem dX10_total_118 : decode cX10_total 118 = .ok (.invokevirtual 269, 3) := by decide +kernel
theorem dX10_total_121 : decode cX10_total 121 = .ok (.ireturn, 1) := by decide +kernel
theorem dX10_total_122 : decode cX10_total 122 = .ok (.aload_n 0, 1) := by decide +kernel
theorem dX10_total_123 : decode cX10_total 123 = .ok (.getfield 68, 3) := by decide +kernel
theorem dX10_total_126 : decode cX10_total 126 = .ok (.iconst 2, 1) := by decide +kernel
theorem dX10_total_127 : decode cX10_total 127 = .ok (.invokevirtual 269, 3) := by decide +kernel
theorem dX10_total_130 : decode cX10_total 130 = .ok (.ireturn, 1) := by decide +kernel
theorem dX10_total_131 : decode cX10_total 131 = .ok (.aload_n 0, 1) := by decide +kernel
theorem dX10_total_132 : decode cX10_total 132 = .ok (.invokevirtual 272, 3) := by decide +kernel
theorem dX10_total_135 : decode cX10_total 135 = .ok (.ireturn, 1) := by decide +kernel
theorem dX10_total_136 : decode cX10_total 136 = .ok (.aload_n 0, 1) := by decide +kernel
theorem dX10_total_137 : decode cX10_total 137 = .ok (.getfield 68, 3) := by decide +kernel
theorem dX10_total_140 : decode cX10_total 140 = .ok (.iconst 3, 1) := by decide +kernel
theorem dX10_total_141 : decode cX10_total 141 = .ok (.invokevirtual 269, 3) := by decide +kernel
theorem dX10_total_144 : decode cX10_total 144 = .ok (.ireturn, 1) := by decide +kernel
set_option maxRecDepth 20000 in
theorem ggX10_eventAt_X10_isTracePlace : GoodIn wsX10_eventAt wsX10_isTracePlace := goodIn_r _ [7, 8, 9, 10, 11, 12, 6, 13, 194, 195, 196, 197, 198, 199, 200, 201, 202, 203, 204, 205, 206, 207, 208, 209, 210, 211, 212, 213, 214, 215] (by decide +kernel) (by decide +kernel)
set_option maxRecDepth 20000 in
theorem gX10_eventAt_X10_isTracePlace : GoodIn wsX10_eventAt (wsV RX10 210 RX10 yX10_isTracePlace wsX10_isTracePlace) := goodIn_app (goodIn_of _ (by decide +kernel)) ggX10_eventAt_X10_isTracePlace
set_option maxRecDepth 20000 in
theorem ggX10_eventAt_X10_measure : GoodIn wsX10_eventAt wsX10_measure := goodIn_r _ [17, 18, 8, 19, 20, 21, 22, 6, 23, 24, 9, 25, 26, 2, 27, 28, 29, 30, 31, 32, 33, 34, 35, 36, 37, 38, 39, 40, 41, 42, 43, 44, 45, 46, 47, 48, 49, 50, 51, 52, 53, 54, 55, 56, 57, 58, 59, 60, 61, 62, 63, 64, 65, 66, 67, 68, 69, 70, 71, 72, 73, 74, 75, 76, 77, 78, 79, 80, 81, 82, 83, 84, 85, 86, 87, 88, 89, 90, 91, 92, 93, 94, 95, 96, 97, 98, 99, 100, 101, 102, 103, 104, 105, 106, 107, 108, 109, 110, 111, 112, 113, 114, 115, 116, 117, 118, 119, 120, 121, 122, 123, 124, 125, 126, 127, 128, 129, 130, 131, 132, 133, 134, 135, 136, 137, 138, 139, 140, 141, 142, 143, 144, 145, 146, 147, 148, 149, 150, 151, 152, 153, 154, 155, 156, 157, 158, 159, 160, 161, 162, 163, 164, 165, 166, 167, 168, 169, 170, 171, 172, 173, 174, 175, 176, 177, 178, 179, 180, 181, 182, 183, 184, 185, 194, 195, 196, 197, 198, 199, 200, 201, 202, 203, 204, 205, 206, 207, 216, 217, 218, 219, 220, 221, 222, 223, 224, 225, 226, 227, 228, 229, 230, 231, 208, 209, 210, 211, 212, 213, 214, 215, 232, 233, 234, 235, 236, 237, 238, 239, 240, 241, 242, 243] (by decide +kernel) (by decide +kernel)
set_option maxRecDepth 20000 in
theorem gX10_eventAt_X10_measure : GoodIn wsX10_eventAt (wsV RX10 194 RX10 yX10_measure wsX10_measure) := goodIn_app (goodIn_of _ (by decide +kernel)) ggX10_eventAt_X10_measure
set_option maxRecDepth 20000 in
theorem ggX10_eventAt_X7_covering : GoodIn wsX10_eventAt wsX7_covering := goodIn_r _ [189, 150, 165, 164, 30, 6, 31, 12, 13, 234, 235, 236, 237, 238, 239, 240, 241, 242, 243] (by decide +kernel) (by decide +kernel)
set_option maxRecDepth 20000 in
theorem gX10_eventAt_X7_covering : GoodIn wsX10_eventAt (wsV RX10 275 RX7 yX7_covering wsX7_covering) := goodIn_app (goodIn_of _ (by decide +kernel)) ggX10_eventAt_X7_covering
set_option maxRecDepth 20000 in
theorem ggX10_eventAt_X10_orNotFound : GoodIn wsX10_eventAt wsX10_orNotFound := goodIn_r _ [192, 193] (by decide +kernel) (by decide +kernel)
set_option maxRecDepth 20000 in
theorem gX10_eventAt_X10_orNotFound : GoodIn wsX10_eventAt (va_wsS RX10 204 yX10_orNotFound wsX10_orNotFound) := goodIn_app (goodIn_of _ (by decide +kernel)) ggX10_eventAt_X10_orNotFound
theorem dX10_eventAt_0 : decode cX10_eventAt 0 = .ok (.aload_n 0, 1) := by decide +kernel
theorem dX10_eventAt_1 : decode cX10_eventAt 1 = .ok (.iload_n 1, 1) := by decide +kernel
theorem dX10_eventAt_2 : decode cX10_eventAt 2 = .ok (.invokevirtual 210, 3) := by decide +kernel
theorem dX10_eventAt_5 : decode cX10_eventAt 5 = .ok (.ifCond .ne 6, 3) := by decide +kernel
theorem dX10_eventAt_8 : decode cX10_eventAt 8 = .ok (.ldc 84, 2) := by decide +kernel
theorem dX10_eventAt_10 : decode cX10_eventAt 10 = .ok (.ireturn, 1) := by decide +kernel
theorem dX10_eventAt_11 : decode cX10_eventAt 11 = .ok (.aload_n 0, 1) := by decide +kernel
theorem dX10_eventAt_12 : decode cX10_eventAt 12 = .ok (.invokevirtual 194, 3) := by decide +kernel
theorem dX10_eventAt_15 : decode cX10_eventAt 15 = .ok (.aload_n 0, 1) := by decide +kernel
theorem dX10_eventAt_16 : decode cX10_eventAt 16 = .ok (.getfield 68, 3) := by decide +kernel
theorem dX10_eventAt_19 : decode cX10_eventAt 19 = .ok (.iload_n 1, 1) := by decide +kernel
theorem dX10_eventAt_20 : decode cX10_eventAt 20 = .ok (.invokevirtual 275, 3) := by decide +kernel
theorem dX10_eventAt_23 : decode cX10_eventAt 23 = .ok (.invokestatic 204, 3) := by decide +kernel
theorem dX10_eventAt_26 : decode cX10_eventAt 26 = .ok (.ireturn, 1) := by decide +kernel
set_option maxRecDepth 20000 in
theorem ggX10_worst_X10_measure : GoodIn wsX10_worst wsX10_measure := goodIn_r _ [6, 7, 8, 9, 10, 11, 12, 5, 13, 14, 15, 16, 17, 1, 18, 19, 20, 21, 22, 23, 24, 25, 26, 27, 28, 29, 30, 31, 32, 33, 34, 35, 36, 37, 38, 39, 40, 41, 42, 43, 44, 45, 46, 47, 48, 49, 50, 51, 52, 53, 54, 55, 56, 57, 58, 59, 60, 61, 62, 63, 64, 65, 66, 67, 68, 69, 70, 71, 72, 73, 74, 75, 76, 77, 78, 79, 80, 81, 82, 83, 84, 85, 86, 87, 88, 89, 90, 91, 92, 93, 94, 95, 96, 97, 98, 99, 100, 101, 102, 103, 104, 105, 106, 107, 108, 109, 110, 111, 112, 113, 114, 115, 116, 117, 118, 119, 120, 121, 122, 123, 124, 125, 126, 127, 128, 129, 130, 131, 132, 133, 134, 135, 136, 137, 138, 139, 140, 141, 142, 143, 144, 145, 146, 147, 148, 149, 150, 151, 152, 153, 154, 155, 156, 157, 158, 159, 160, 161, 162, 163, 164, 165, 166, 167, 168, 169, 170, 171, 172, 173, 174, 175, 176, 185, 186, 187, 188, 189, 190, 191, 192, 193, 194, 195, 196, 197, 198, 199, 200, 201, 202, 203, 204, 205, 206, 207, 208, 209, 210, 211, 212, 213, 214, 215, 216, 217, 218, 219, 220, 221, 222, 223, 224, 225, 226, 227, 228, 229, 230, 231, 232, 233, 234] (by decide +kernel) (by decide +kernel)
set_option maxRecDepth 20000 in
theorem gX10_worst_X10_measure : GoodIn wsX10_worst (wsV RX10 194 RX10 yX10_measure wsX10_measure) := goodIn_app (goodIn_of _ (by decide +kernel)) ggX10_worst_X10_measure
set_option maxRecDepth 20000 in
theorem ggX10_worst_X7_greatestLoss : GoodIn wsX10_worst wsX7_greatestLoss := goodIn_r _ [180, 141, 143, 157, 21, 5, 22, 225, 226, 227, 228, 229, 230, 231, 232, 233, 234] (by decide +kernel) (by decide +kernel)
set_option maxRecDepth 20000 in
theorem gX10_worst_X7_greatestLoss : GoodIn wsX10_worst (wsV RX10 278 RX7 yX7_greatestLoss wsX7_greatestLoss) := goodIn_app (goodIn_of _ (by decide +kernel)) ggX10_worst_X7_greatestLoss
set_option maxRecDepth 20000 in
theorem ggX10_worst_X10_orNotFound : GoodIn wsX10_worst wsX10_orNotFound := goodIn_r _ [183, 184] (by decide +kernel) (by decide +kernel)
set_option maxRecDepth 20000 in
theorem gX10_worst_X10_orNotFound : GoodIn wsX10_worst (va_wsS RX10 204 yX10_orNotFound wsX10_orNotFound) := goodIn_app (goodIn_of _ (by decide +kernel)) ggX10_worst_X10_orNotFound
theorem dX10_worst_0 : decode cX10_worst 0 = .ok (.aload_n 0, 1) := by decide +kernel
theorem dX10_worst_1 : decode cX10_worst 1 = .ok (.invokevirtual 194, 3) := by decide +kernel
theorem dX10_worst_4 : decode cX10_worst 4 = .ok (.aload_n 0, 1) := by decide +kernel
theorem dX10_worst_5 : decode cX10_worst 5 = .ok (.getfield 68, 3) := by decide +kernel
theorem dX10_worst_8 : decode cX10_worst 8 = .ok (.invokevirtual 278, 3) := by decide +kernel
theorem dX10_worst_11 : decode cX10_worst 11 = .ok (.invokestatic 204, 3) := by decide +kernel
theorem dX10_worst_14 : decode cX10_worst 14 = .ok (.ireturn, 1) := by decide +kernel
set_option maxRecDepth 20000 in
theorem ggX10_findings_X10_isWithin : GoodIn wsX10_findings wsX10_isWithin := goodIn_r _ [8] (by decide +kernel) (by decide +kernel)
set_option maxRecDepth 20000 in
theorem gX10_findings_X10_isWithin : GoodIn wsX10_findings (va_wsS RX10 80 yX10_isWithin wsX10_isWithin) := goodIn_app (goodIn_of _ (by decide +kernel)) ggX10_findings_X10_isWithin
set_option maxRecDepth 20000 in
theorem ggX10_findings_X10_measure : GoodIn wsX10_findings wsX10_measure := goodIn_r _ [12, 13, 3, 14, 15, 16, 17, 7, 18, 19, 4, 20, 21, 2, 22, 23, 24, 25, 26, 27, 28, 29, 30, 31, 32, 33, 34, 35, 36, 37, 38, 39, 40, 41, 42, 43, 44, 45, 46, 47, 48, 49, 50, 51, 52, 53, 54, 55, 56, 57, 58, 59, 60, 61, 62, 63, 64, 65, 66, 67, 68, 69, 70, 71, 72, 73, 74, 75, 76, 77, 78, 79, 80, 81, 82, 83, 84, 85, 86, 87, 88, 89, 90, 91, 92, 93, 94, 95, 96, 97, 98, 99, 100, 101, 102, 103, 104, 105, 106, 107, 108, 109, 110, 111, 112, 113, 114, 115, 116, 117, 118, 119, 120, 121, 122, 123, 124, 125, 126, 127, 128, 129, 130, 131, 132, 133, 134, 135, 136, 137, 138, 139, 140, 141, 142, 143, 144, 145, 146, 147, 148, 149, 150, 151, 152, 153, 154, 155, 156, 157, 158, 159, 160, 161, 162, 163, 164, 165, 166, 167, 168, 169, 170, 171, 172, 173, 174, 175, 176, 177, 178, 179, 180, 215, 216, 217, 218, 219, 220, 221, 222, 223, 224, 225, 226, 227, 228, 229, 230, 231, 232, 233, 234, 235, 236, 237, 238, 239, 240, 241, 242, 243, 244, 245, 246, 247, 248, 249, 250, 251, 252, 253, 254, 255, 256, 257, 258, 259, 260, 261, 262, 263, 264] (by decide +kernel) (by decide +kernel)
set_option maxRecDepth 20000 in
theorem gX10_findings_X10_measure : GoodIn wsX10_findings (wsV RX10 194 RX10 yX10_measure wsX10_measure) := goodIn_app (goodIn_of _ (by decide +kernel)) ggX10_findings_X10_measure
set_option maxRecDepth 20000 in
theorem ggX10_findings_X7_countUnexplained : GoodIn wsX10_findings wsX7_countUnexplained := goodIn_r _ [184, 145, 147, 160, 25, 7, 26, 185, 186, 187, 143, 188, 189, 190, 191, 192, 193, 85, 194, 90, 195, 196, 197, 198, 152, 153, 113, 154, 146, 255, 256, 257, 258, 259, 260, 261, 262, 263, 264, 245, 246, 247, 248, 249, 250, 251, 252] (by decide +kernel) (by decide +kernel)
set_option maxRecDepth 20000 in
theorem gX10_findings_X7_countUnexplained : GoodIn wsX10_findings (wsV RX10 281 RX7 yX7_countUnexplained wsX7_countUnexplained) := goodIn_app (goodIn_of _ (by decide +kernel)) ggX10_findings_X7_countUnexplained
set_option maxRecDepth 20000 in
theorem ggX10_findings_X7_countFindings : GoodIn wsX10_findings wsX7_countFindings := goodIn_r _ [202, 189, 191, 192, 193, 85, 194, 90, 25, 7, 26, 203, 204, 205, 143, 206, 190, 207, 208, 209, 210, 145, 147, 160, 195, 196, 197, 198, 152, 153, 113, 154, 146, 211, 212, 213, 214, 159, 6, 8, 245, 246, 247, 248, 249, 250, 251, 252, 255, 256, 257, 258, 259, 260, 261, 262, 263, 264] (by decide +kernel) (by decide +kernel)
set_option maxRecDepth 20000 in
theorem gX10_findings_X7_countFindings : GoodIn wsX10_findings (wsV RX10 285 RX7 yX7_countFindings wsX7_countFindings) := goodIn_app (goodIn_of _ (by decide +kernel)) ggX10_findings_X7_countFindings
theorem dX10_findings_0 : decode cX10_findings 0 = .ok (.iload_n 1, 1) := by decide +kernel
theorem dX10_findings_1 : decode cX10_findings 1 = .ok (.iconst 0, 1) := by decide +kernel
theorem dX10_findings_2 : decode cX10_findings 2 = .ok (.iconst 3, 1) := by decide +kernel
theorem dX10_findings_3 : decode cX10_findings 3 = .ok (.invokestatic 80, 3) := by decide +kernel
theorem dX10_findings_6 : decode cX10_findings 6 = .ok (.ifCond .ne 6, 3) := by decide +kernel
theorem dX10_findings_9 : decode cX10_findings 9 = .ok (.ldc 84, 2) := by decide +kernel
theorem dX10_findings_11 : decode cX10_findings 11 = .ok (.ireturn, 1) := by decide +kernel
theorem dX10_findings_12 : decode cX10_findings 12 = .ok (.aload_n 0, 1) := by decide +kernel
theorem dX10_findings_13 : decode cX10_findings 13 = .ok (.invokevirtual 194, 3) := by decide +kernel
theorem dX10_findings_16 : decode cX10_findings 16 = .ok (.iload_n 1, 1) := by decide +kernel
theorem dX10_findings_17 : decode cX10_findings 17 = .ok (.iconst 3, 1) := by decide +kernel
theorem dX10_findings_18 : decode cX10_findings 18 = .ok (.if_icmp .ne 18, 3) := by decide +kernel
theorem dX10_findings_21 : decode cX10_findings 21 = .ok (.aload_n 0, 1) := by decide +kernel
theorem dX10_findings_22 : decode cX10_findings 22 = .ok (.getfield 68, 3) := by decide +kernel
theorem dX10_findings_25 : decode cX10_findings 25 = .ok (.aload_n 0, 1) := by decide +kernel
theorem dX10_findings_26 : decode cX10_findings 26 = .ok (.getfield 12, 3) := by decide +kernel
theorem dX10_findings_29 : decode cX10_findings 29 = .ok (.getfield 115, 3) := by decide +kernel
theorem dX10_findings_32 : decode cX10_findings 32 = .ok (.invokevirtual 281, 3) := by decide +kernel
theorem dX10_findings_35 : decode cX10_findings 35 = .ok (.ireturn, 1) := by decide +kernel
theorem dX10_findings_36 : decode cX10_findings 36 = .ok (.aload_n 0, 1) := by decide +kernel
theorem dX10_findings_37 : decode cX10_findings 37 = .ok (.getfield 68, 3) := by decide +kernel
theorem dX10_findings_40 : decode cX10_findings 40 = .ok (.aload_n 0, 1) := by decide +kernel
theorem dX10_findings_41 : decode cX10_findings 41 = .ok (.getfield 12, 3) := by decide +kernel
theorem dX10_findings_44 : decode cX10_findings 44 = .ok (.getfield 115, 3) := by decide +kernel
theorem dX10_findings_47 : decode cX10_findings 47 = .ok (.iload_n 1, 1) := by decide +kernel
theorem dX10_findings_48 : decode cX10_findings 48 = .ok (.invokevirtual 285, 3) := by decide +kernel
theorem dX10_findings_51 : decode cX10_findings 51 = .ok (.ireturn, 1) := by decide +kernel
set_option maxRecDepth 20000 in
theorem ggX10_widthFor_X10_put : GoodIn wsX10_widthFor wsX10_put := goodIn_r _ [15] (by decide +kernel) (by decide +kernel)
set_option maxRecDepth 20000 in
theorem gX10_widthFor_X10_put : GoodIn wsX10_widthFor (va_wsS RX10 161 yX10_put wsX10_put) := goodIn_app (goodIn_of _ (by decide +kernel)) ggX10_widthFor_X10_put
set_option maxRecDepth 20000 in
theorem ggX10_widthFor_X10_measureWith : GoodIn wsX10_widthFor wsX10_measureWith := goodIn_r _ [19, 20, 1, 10, 21, 22, 9, 23, 24, 25, 26, 14, 27, 28, 29, 30, 31, 32, 33, 34, 35, 36, 37, 38, 39, 40, 41, 42, 43, 44, 45, 46, 47, 48, 49, 50, 13, 15, 51, 52, 53, 54, 55, 56, 57, 58, 59, 60, 61, 62, 63, 12, 64, 65, 66, 67, 68, 69, 70, 71, 72, 73, 74, 75, 76, 77, 78, 79, 80, 81, 82, 83, 84, 85, 86, 87, 88, 89, 90, 91, 92, 93, 94, 95, 96, 97, 98, 99, 100, 101, 102, 103, 104, 105, 106, 107, 108, 109, 110, 111, 112, 113, 114, 115, 116, 117, 118, 119, 120, 121, 122, 123, 124, 125, 126, 127, 128, 129, 130, 131, 132, 133, 134, 135, 136, 137, 138, 139, 140, 141, 142, 143, 144, 145, 146, 147, 148, 149, 150, 151, 152, 153, 154, 155, 156, 157, 158, 159, 160, 161, 162, 163, 164, 165, 166, 167, 168, 169, 170, 171, 172, 173, 174, 175, 176, 177, 178, 211, 212, 213, 214, 215, 216, 217, 218, 219, 220, 221, 222, 223, 224, 225, 226, 227, 228, 229, 230, 231, 232, 233, 234, 235, 236, 237, 238, 239, 240, 241, 242, 243, 244, 245, 246, 247, 248, 249, 250, 251, 252, 253, 254, 255, 256, 257, 258, 259, 260] (by decide +kernel) (by decide +kernel)
set_option maxRecDepth 20000 in
theorem gX10_widthFor_X10_measureWith : GoodIn wsX10_widthFor (wsV RX10 294 RX10 yX10_measureWith wsX10_measureWith) := goodIn_app (goodIn_of _ (by decide +kernel)) ggX10_widthFor_X10_measureWith
set_option maxRecDepth 20000 in
theorem ggX10_widthFor_X7_findsAll : GoodIn wsX10_widthFor wsX7_findsAll := goodIn_r _ [182, 183, 184, 185, 141, 186, 187, 188, 189, 190, 83, 191, 88, 26, 14, 27, 192, 193, 194, 195, 196, 197, 198, 199, 200, 143, 145, 158, 201, 202, 203, 204, 150, 151, 111, 152, 144, 205, 206, 207, 208, 157, 209, 210, 241, 242, 243, 244, 245, 246, 247, 248, 251, 252, 253, 254, 255, 256, 257, 258, 259, 260] (by decide +kernel) (by decide +kernel)
set_option maxRecDepth 20000 in
theorem gX10_widthFor_X7_findsAll : GoodIn wsX10_widthFor (wsV RX10 298 RX7 yX7_findsAll wsX7_findsAll) := goodIn_app (goodIn_of _ (by decide +kernel)) ggX10_widthFor_X7_findsAll
theorem dX10_widthFor_0 : decode cX10_widthFor 0 = .ok (.aload_n 0, 1) := by decide +kernel
theorem dX10_widthFor_1 : decode cX10_widthFor 1 = .ok (.getfield 12, 3) := by decide +kernel
theorem dX10_widthFor_4 : decode cX10_widthFor 4 = .ok (.getfield 158, 3) := by decide +kernel
theorem dX10_widthFor_7 : decode cX10_widthFor 7 = .ok (.iconst 0, 1) := by decide +kernel
theorem dX10_widthFor_8 : decode cX10_widthFor 8 = .ok (.aload_n 0, 1) := by decide +kernel
theorem dX10_widthFor_9 : decode cX10_widthFor 9 = .ok (.getfield 72, 3) := by decide +kernel
theorem dX10_widthFor_12 : decode cX10_widthFor 12 = .ok (.iconst 0, 1) := by decide +kernel
theorem dX10_widthFor_13 : decode cX10_widthFor 13 = .ok (.bipush 11, 2) := by decide +kernel
theorem dX10_widthFor_15 : decode cX10_widthFor 15 = .ok (.invokestatic 288, 3) := by decide +kernel
theorem dX10_widthFor_18 : decode cX10_widthFor 18 = .ok (.aload_n 0, 1) := by decide +kernel
theorem dX10_widthFor_19 : decode cX10_widthFor 19 = .ok (.iconst 0, 1) := by decide +kernel
theorem dX10_widthFor_20 : decode cX10_widthFor 20 = .ok (.putfield 76, 3) := by decide +kernel
theorem dX10_widthFor_23 : decode cX10_widthFor 23 = .ok (.iconst 1, 1) := by decide +kernel
theorem dX10_widthFor_24 : decode cX10_widthFor 24 = .ok (.istore_n 1, 1) := by decide +kernel
theorem dX10_widthFor_25 : decode cX10_widthFor 25 = .ok (.iload_n 1, 1) := by decide +kernel
theorem dX10_widthFor_26 : decode cX10_widthFor 26 = .ok (.bipush 20, 2) := by decide +kernel
theorem dX10_widthFor_28 : decode cX10_widthFor 28 = .ok (.if_icmp .gt 45, 3) := by decide +kernel
theorem dX10_widthFor_31 : decode cX10_widthFor 31 = .ok (.aload_n 0, 1) := by decide +kernel
theorem dX10_widthFor_32 : decode cX10_widthFor 32 = .ok (.getfield 72, 3) := by decide +kernel
theorem dX10_widthFor_35 : decode cX10_widthFor 35 = .ok (.iconst 0, 1) := by decide +kernel
theorem dX10_widthFor_36 : decode cX10_widthFor 36 = .ok (.iload_n 1, 1) := by decide +kernel
theorem dX10_widthFor_37 : decode cX10_widthFor 37 = .ok (.invokestatic 161, 3) := by decide +kernel
theorem dX10_widthFor_40 : decode cX10_widthFor 40 = .ok (.aload_n 0, 1) := by decide +kernel
theorem dX10_widthFor_41 : decode cX10_widthFor 41 = .ok (.aload_n 0, 1) := by decide +kernel
theorem dX10_widthFor_42 : decode cX10_widthFor 42 = .ok (.getfield 72, 3) := by decide +kernel
theorem dX10_widthFor_45 : decode cX10_widthFor 45 = .ok (.invokevirtual 294, 3) := by decide +kernel
theorem dX10_widthFor_48 : decode cX10_widthFor 48 = .ok (.aload_n 0, 1) := by decide +kernel
theorem dX10_widthFor_49 : decode cX10_widthFor 49 = .ok (.getfield 68, 3) := by decide +kernel
theorem dX10_widthFor_52 : decode cX10_widthFor 52 = .ok (.aload_n 0, 1) := by decide +kernel
theorem dX10_widthFor_53 : decode cX10_widthFor 53 = .ok (.getfield 12, 3) := by decide +kernel
theorem dX10_widthFor_56 : decode cX10_widthFor 56 = .ok (.getfield 115, 3) := by decide +kernel
theorem dX10_widthFor_59 : decode cX10_widthFor 59 = .ok (.invokevirtual 298, 3) := by decide +kernel
theorem dX10_widthFor_62 : decode cX10_widthFor 62 = .ok (.ifCond .eq 5, 3) := by decide +kernel
theorem dX10_widthFor_65 : decode cX10_widthFor 65 = .ok (.iload_n 1, 1) := by decide +kernel
theorem dX10_widthFor_66 : decode cX10_widthFor 66 = .ok (.ireturn, 1) := by decide +kernel
theorem dX10_widthFor_67 : decode cX10_widthFor 67 = .ok (.iinc 1 1, 3) := by decide +kernel
theorem dX10_widthFor_70 : decode cX10_widthFor 70 = .ok (.goto (-45), 3) := by decide +kernel
theorem dX10_widthFor_73 : decode cX10_widthFor 73 = .ok (.ldc 104, 2) := by decide +kernel
theorem dX10_widthFor_75 : decode cX10_widthFor 75 = .ok (.ireturn, 1) := by decide +kernel
set_option maxRecDepth 20000 in
theorem ggX10_keep_X10_measure : GoodIn wsX10_keep wsX10_measure := goodIn_r _ [9, 10, 2, 11, 12, 13, 14, 8, 15, 16, 17, 4, 18, 19, 20, 21, 22, 23, 24, 25, 26, 27, 28, 29, 30, 31, 32, 33, 34, 35, 36, 37, 38, 39, 40, 41, 42, 43, 44, 45, 46, 47, 48, 49, 50, 51, 52, 53, 54, 55, 56, 57, 58, 59, 60, 61, 62, 63, 64, 65, 66, 67, 68, 69, 70, 71, 72, 73, 74, 75, 76, 77, 78, 79, 80, 81, 82, 83, 84, 85, 86, 87, 88, 89, 90, 91, 92, 93, 94, 95, 96, 97, 98, 99, 100, 101, 102, 103, 104, 105, 106, 107, 108, 109, 110, 111, 112, 113, 114, 115, 116, 117, 118, 119, 120, 121, 122, 123, 124, 125, 126, 127, 128, 129, 130, 131, 132, 133, 134, 135, 136, 137, 138, 139, 140, 141, 142, 143, 144, 145, 146, 147, 148, 149, 150, 151, 152, 153, 154, 155, 156, 157, 158, 159, 160, 161, 162, 163, 164, 165, 166, 167, 168, 169, 170, 171, 172, 173, 174, 175, 176, 177, 178, 237, 238, 239, 240, 241, 242, 243, 244, 245, 246, 247, 248, 249, 250, 251, 252, 253, 254, 255, 256, 257, 258, 259, 260, 261, 262, 263, 264, 265, 266, 267, 268, 269, 270, 271, 272, 273, 274, 275, 276, 277, 278, 279, 280, 281, 282, 283, 284, 285, 286] (by decide +kernel) (by decide +kernel)
set_option maxRecDepth 20000 in
theorem gX10_keep_X10_measure : GoodIn wsX10_keep (wsV RX10 194 RX10 yX10_measure wsX10_measure) := goodIn_app (goodIn_of _ (by decide +kernel)) ggX10_keep_X10_measure
set_option maxRecDepth 20000 in
theorem ggX10_keep_X10_beginChange : GoodIn wsX10_keep wsX10_beginChange := goodIn_r _ [182, 183, 2, 10, 184, 185, 186, 187, 188, 189, 190, 191, 192, 111, 193, 194, 195, 196, 197, 198, 199, 200, 201, 202, 203, 204, 205, 206, 207, 208, 209, 210, 211, 212, 213, 83, 214, 215, 85, 216, 86, 88, 217, 87, 89, 218, 237, 238, 239, 240, 241, 242, 243, 244, 245, 246, 247, 287, 288, 289, 248, 249, 250, 267, 268, 269, 270, 271, 272, 273, 274] (by decide +kernel) (by decide +kernel)
set_option maxRecDepth 20000 in
theorem gX10_keep_X10_beginChange : GoodIn wsX10_keep (wsV RX10 112 RX10 yX10_beginChange wsX10_beginChange) := goodIn_app (goodIn_of _ (by decide +kernel)) ggX10_keep_X10_beginChange
set_option maxRecDepth 20000 in
theorem ggX10_keep_X3_store : GoodIn wsX10_keep wsX3_store := goodIn_r _ [223, 224, 225, 226, 227, 228, 229, 230, 231, 48, 8, 49, 23, 24, 290, 291, 251, 252, 253, 254, 255, 256, 257, 258, 259] (by decide +kernel) (by decide +kernel)
set_option maxRecDepth 20000 in
theorem gX10_keep_X3_store : GoodIn wsX10_keep (wsV RX10 305 RX3 yX3_store wsX3_store) := goodIn_app (goodIn_of _ (by decide +kernel)) ggX10_keep_X3_store
set_option maxRecDepth 20000 in
theorem ggX10_keep_X8_keptCount : GoodIn wsX10_keep wsX8_keptCount := goodIn_r _ [235, 210, 236, 192, 111, 193, 248, 249, 250] (by decide +kernel) (by decide +kernel)
set_option maxRecDepth 20000 in
theorem gX10_keep_X8_keptCount : GoodIn wsX10_keep (wsV RX10 179 RX8 yX8_keptCount wsX8_keptCount) := goodIn_app (goodIn_of _ (by decide +kernel)) ggX10_keep_X8_keptCount
theorem dX10_keep_0 : decode cX10_keep 0 = .ok (.aload_n 0, 1) := by decide +kernel
theorem dX10_keep_1 : decode cX10_keep 1 = .ok (.invokevirtual 194, 3) := by decide +kernel
theorem dX10_keep_4 : decode cX10_keep 4 = .ok (.aload_n 0, 1) := by decide +kernel
theorem dX10_keep_5 : decode cX10_keep 5 = .ok (.invokevirtual 112, 3) := by decide +kernel
theorem dX10_keep_8 : decode cX10_keep 8 = .ok (.aload_n 0, 1) := by decide +kernel
theorem dX10_keep_9 : decode cX10_keep 9 = .ok (.getfield 33, 3) := by decide +kernel
theorem dX10_keep_12 : decode cX10_keep 12 = .ok (.aload_n 0, 1) := by decide +kernel
theorem dX10_keep_13 : decode cX10_keep 13 = .ok (.getfield 12, 3) := by decide +kernel
theorem dX10_keep_16 : decode cX10_keep 16 = .ok (.getfield 302, 3) := by decide +kernel
theorem dX10_keep_19 : decode cX10_keep 19 = .ok (.aload_n 0, 1) := by decide +kernel
theorem dX10_keep_20 : decode cX10_keep 20 = .ok (.getfield 61, 3) := by decide +kernel
theorem dX10_keep_23 : decode cX10_keep 23 = .ok (.invokevirtual 305, 3) := by decide +kernel
theorem dX10_keep_26 : decode cX10_keep 26 = .ok (.aload_n 0, 1) := by decide +kernel
theorem dX10_keep_27 : decode cX10_keep 27 = .ok (.getfield 12, 3) := by decide +kernel
theorem dX10_keep_30 : decode cX10_keep 30 = .ok (.dup, 1) := by decide +kernel
theorem dX10_keep_31 : decode cX10_keep 31 = .ok (.getfield 302, 3) := by decide +kernel
theorem dX10_keep_34 : decode cX10_keep 34 = .ok (.iconst 1, 1) := by decide +kernel
theorem dX10_keep_35 : decode cX10_keep 35 = .ok (.iadd, 1) := by decide +kernel
theorem dX10_keep_36 : decode cX10_keep 36 = .ok (.putfield 302, 3) := by decide +kernel
theorem dX10_keep_39 : decode cX10_keep 39 = .ok (.aload_n 0, 1) := by decide +kernel
theorem dX10_keep_40 : decode cX10_keep 40 = .ok (.getfield 12, 3) := by decide +kernel
theorem dX10_keep_43 : decode cX10_keep 43 = .ok (.invokevirtual 179, 3) := by decide +kernel
theorem dX10_keep_46 : decode cX10_keep 46 = .ok (.ireturn, 1) := by decide +kernel
set_option maxRecDepth 20000 in
theorem ggX10_compare_X8_keptCount : GoodIn wsX10_compare wsX8_keptCount := goodIn_r _ [16, 17, 18, 19, 20, 21, 245, 246, 247] (by decide +kernel) (by decide +kernel)
set_option maxRecDepth 20000 in
theorem gX10_compare_X8_keptCount : GoodIn wsX10_compare (wsV RX10 179 RX8 yX8_keptCount wsX8_keptCount) := goodIn_app (goodIn_of _ (by decide +kernel)) ggX10_compare_X8_keptCount
set_option maxRecDepth 20000 in
theorem ggX10_compare_X10_isWithin : GoodIn wsX10_compare wsX10_isWithin := goodIn_r _ [25] (by decide +kernel) (by decide +kernel)
set_option maxRecDepth 20000 in
theorem gX10_compare_X10_isWithin : GoodIn wsX10_compare (va_wsS RX10 80 yX10_isWithin wsX10_isWithin) := goodIn_app (goodIn_of _ (by decide +kernel)) ggX10_compare_X10_isWithin
set_option maxRecDepth 20000 in
theorem ggX10_compare_X10_measure : GoodIn wsX10_compare wsX10_measure := goodIn_r _ [29, 30, 1, 31, 32, 33, 34, 24, 35, 36, 37, 5, 38, 39, 40, 41, 42, 43, 44, 45, 46, 47, 48, 49, 50, 51, 52, 53, 54, 55, 56, 57, 58, 59, 60, 61, 62, 63, 64, 65, 66, 67, 68, 69, 70, 71, 72, 73, 74, 75, 76, 77, 78, 79, 80, 81, 82, 83, 84, 85, 86, 87, 88, 89, 90, 91, 92, 93, 94, 95, 96, 97, 98, 99, 100, 101, 102, 103, 104, 105, 106, 107, 108, 109, 110, 111, 112, 113, 114, 115, 116, 117, 118, 119, 120, 121, 122, 123, 124, 125, 126, 127, 128, 129, 130, 20, 131, 132, 133, 134, 135, 136, 137, 138, 139, 140, 141, 142, 143, 144, 145, 146, 147, 148, 149, 150, 151, 152, 153, 154, 155, 156, 157, 158, 159, 160, 161, 162, 163, 164, 165, 166, 167, 168, 169, 170, 171, 172, 173, 174, 175, 176, 177, 178, 179, 180, 181, 182, 183, 184, 185, 186, 187, 188, 189, 190, 191, 192, 193, 194, 195, 196, 197, 234, 235, 236, 237, 238, 239, 240, 241, 242, 243, 244, 245, 246, 247, 252, 253, 254, 255, 256, 257, 258, 259, 260, 261, 262, 263, 264, 265, 266, 267, 268, 269, 270, 271, 272, 273, 274, 275, 276, 277, 278, 279, 280, 281, 282, 283, 284, 285, 286, 287] (by decide +kernel) (by decide +kernel)
set_option maxRecDepth 20000 in
theorem gX10_compare_X10_measure : GoodIn wsX10_compare (wsV RX10 194 RX10 yX10_measure wsX10_measure) := goodIn_app (goodIn_of _ (by decide +kernel)) ggX10_compare_X10_measure
set_option maxRecDepth 20000 in
theorem ggX10_compare_X0_make : GoodIn wsX10_compare wsX0_make := goodIn_r _ [202, 203, 204, 205, 206, 207, 208, 19, 20, 21, 209, 210, 170, 171, 211, 212, 213, 214, 215, 216, 217, 218, 219, 220, 43, 24, 44, 221, 222, 223, 224, 225, 226, 227, 228, 201, 229, 248, 249, 250, 251, 252, 253, 254, 255, 256, 257, 258, 259, 260, 288, 289] (by decide +kernel) (by decide +kernel)
set_option maxRecDepth 20000 in
theorem gX10_compare_X0_make : GoodIn wsX10_compare (wsV RX10 310 RX0 yX0_make wsX0_make) := goodIn_app (goodIn_of _ (by decide +kernel)) ggX10_compare_X0_make
set_option maxRecDepth 20000 in
theorem ggX10_compare_X10_orNotFound : GoodIn wsX10_compare wsX10_orNotFound := goodIn_r _ [232, 233] (by decide +kernel) (by decide +kernel)
set_option maxRecDepth 20000 in
theorem gX10_compare_X10_orNotFound : GoodIn wsX10_compare (va_wsS RX10 204 yX10_orNotFound wsX10_orNotFound) := goodIn_app (goodIn_of _ (by decide +kernel)) ggX10_compare_X10_orNotFound
theorem dX10_compare_0 : decode cX10_compare 0 = .ok (.iload_n 1, 1) := by decide +kernel
theorem dX10_compare_1 : decode cX10_compare 1 = .ok (.iconst 0, 1) := by decide +kernel
theorem dX10_compare_2 : decode cX10_compare 2 = .ok (.aload_n 0, 1) := by decide +kernel
theorem dX10_compare_3 : decode cX10_compare 3 = .ok (.getfield 12, 3) := by decide +kernel
theorem dX10_compare_6 : decode cX10_compare 6 = .ok (.invokevirtual 179, 3) := by decide +kernel
theorem dX10_compare_9 : decode cX10_compare 9 = .ok (.iconst 1, 1) := by decide +kernel
theorem dX10_compare_10 : decode cX10_compare 10 = .ok (.isub, 1) := by decide +kernel
theorem dX10_compare_11 : decode cX10_compare 11 = .ok (.invokestatic 80, 3) := by decide +kernel
theorem dX10_compare_14 : decode cX10_compare 14 = .ok (.ifCond .eq 23, 3) := by decide +kernel
theorem dX10_compare_17 : decode cX10_compare 17 = .ok (.iload_n 2, 1) := by decide +kernel
theorem dX10_compare_18 : decode cX10_compare 18 = .ok (.iconst 0, 1) := by decide +kernel
theorem dX10_compare_19 : decode cX10_compare 19 = .ok (.ldc_w 309, 3) := by decide +kernel
theorem dX10_compare_22 : decode cX10_compare 22 = .ok (.invokestatic 80, 3) := by decide +kernel
theorem dX10_compare_25 : decode cX10_compare 25 = .ok (.ifCond .eq 12, 3) := by decide +kernel
theorem dX10_compare_28 : decode cX10_compare 28 = .ok (.iload_n 3, 1) := by decide +kernel
theorem dX10_compare_29 : decode cX10_compare 29 = .ok (.iconst 0, 1) := by decide +kernel
theorem dX10_compare_30 : decode cX10_compare 30 = .ok (.iconst 3, 1) := by decide +kernel
theorem dX10_compare_31 : decode cX10_compare 31 = .ok (.invokestatic 80, 3) := by decide +kernel
theorem dX10_compare_34 : decode cX10_compare 34 = .ok (.ifCond .ne 6, 3) := by decide +kernel
theorem dX10_compare_37 : decode cX10_compare 37 = .ok (.ldc 84, 2) := by decide +kernel
theorem dX10_compare_39 : decode cX10_compare 39 = .ok (.ireturn, 1) := by decide +kernel
theorem dX10_compare_40 : decode cX10_compare 40 = .ok (.aload_n 0, 1) := by decide +kernel
theorem dX10_compare_41 : decode cX10_compare 41 = .ok (.invokevirtual 194, 3) := by decide +kernel
theorem dX10_compare_44 : decode cX10_compare 44 = .ok (.aload_n 0, 1) := by decide +kernel
theorem dX10_compare_45 : decode cX10_compare 45 = .ok (.getfield 40, 3) := by decide +kernel
theorem dX10_compare_48 : decode cX10_compare 48 = .ok (.aload_n 0, 1) := by decide +kernel
theorem dX10_compare_49 : decode cX10_compare 49 = .ok (.getfield 61, 3) := by decide +kernel
theorem dX10_compare_52 : decode cX10_compare 52 = .ok (.aload_n 0, 1) := by decide +kernel
theorem dX10_compare_53 : decode cX10_compare 53 = .ok (.getfield 33, 3) := by decide +kernel
theorem dX10_compare_56 : decode cX10_compare 56 = .ok (.aload_n 0, 1) := by decide +kernel
theorem dX10_compare_57 : decode cX10_compare 57 = .ok (.getfield 12, 3) := by decide +kernel
theorem dX10_compare_60 : decode cX10_compare 60 = .ok (.getfield 302, 3) := by decide +kernel
theorem dX10_compare_63 : decode cX10_compare 63 = .ok (.aload_n 0, 1) := by decide +kernel
theorem dX10_compare_64 : decode cX10_compare 64 = .ok (.getfield 12, 3) := by decide +kernel
theorem dX10_compare_67 : decode cX10_compare 67 = .ok (.invokevirtual 179, 3) := by decide +kernel
theorem dX10_compare_70 : decode cX10_compare 70 = .ok (.isub, 1) := by decide +kernel
theorem dX10_compare_71 : decode cX10_compare 71 = .ok (.iload_n 1, 1) := by decide +kernel
theorem dX10_compare_72 : decode cX10_compare 72 = .ok (.iadd, 1) := by decide +kernel
theorem dX10_compare_73 : decode cX10_compare 73 = .ok (.iload_n 2, 1) := by decide +kernel
theorem dX10_compare_74 : decode cX10_compare 74 = .ok (.invokevirtual 310, 3) := by decide +kernel
theorem dX10_compare_77 : decode cX10_compare 77 = .ok (.iload_n 3, 1) := by decide +kernel
theorem dX10_compare_78 : decode cX10_compare 78 = .ok (.tableswitch 53 0 2 #[26, 37, 45], 26) := by decide +kernel
theorem dX10_compare_104 : decode cX10_compare 104 = .ok (.aload_n 0, 1) := by decide +kernel
theorem dX10_compare_105 : decode cX10_compare 105 = .ok (.getfield 40, 3) := by decide +kernel
theorem dX10_compare_108 : decode cX10_compare 108 = .ok (.getfield 314, 3) := by decide +kernel
theorem dX10_compare_111 : decode cX10_compare 111 = .ok (.invokestatic 204, 3) := by decide +kernel
theorem dX10_compare_114 : decode cX10_compare 114 = .ok (.ireturn, 1) := by decide +kernel
theorem dX10_compare_115 : decode cX10_compare 115 = .ok (.aload_n 0, 1) := by decide +kernel
theorem dX10_compare_116 : decode cX10_compare 116 = .ok (.getfield 40, 3) := by decide +kernel
theorem dX10_compare_119 : decode cX10_compare 119 = .ok (.getfield 317, 3) := by decide +kernel
theorem dX10_compare_122 : decode cX10_compare 122 = .ok (.ireturn, 1) := by decide +kernel
theorem dX10_compare_123 : decode cX10_compare 123 = .ok (.aload_n 0, 1) := by decide +kernel
theorem dX10_compare_124 : decode cX10_compare 124 = .ok (.getfield 40, 3) := by decide +kernel
theorem dX10_compare_127 : decode cX10_compare 127 = .ok (.getfield 319, 3) := by decide +kernel
theorem dX10_compare_130 : decode cX10_compare 130 = .ok (.ireturn, 1) := by decide +kernel
theorem dX10_compare_131 : decode cX10_compare 131 = .ok (.aload_n 0, 1) := by decide +kernel
theorem dX10_compare_132 : decode cX10_compare 132 = .ok (.getfield 40, 3) := by decide +kernel
theorem dX10_compare_135 : decode cX10_compare 135 = .ok (.getfield 322, 3) := by decide +kernel
theorem dX10_compare_138 : decode cX10_compare 138 = .ok (.ireturn, 1) := by decide +kernel
set_option maxRecDepth 20000 in
theorem ggX10_beginChange_X2_record : GoodIn wsX10_beginChange wsX2_record := goodIn_r _ [8, 9, 10, 11, 12, 13, 14, 15, 16, 17, 7, 18, 19, 20, 21, 22, 23, 24, 25, 26, 27, 28, 29, 30, 31, 32, 33, 34, 35, 36, 37, 38, 39, 40, 41, 42, 43, 44, 45, 57, 58, 59, 60, 61, 62, 63, 64, 65, 66, 67, 68, 69, 70] (by decide +kernel) (by decide +kernel)
set_option maxRecDepth 20000 in
theorem gX10_beginChange_X2_record : GoodIn wsX10_beginChange (wsV RX10 325 RX2 yX2_record wsX2_record) := goodIn_app (goodIn_of _ (by decide +kernel)) ggX10_beginChange_X2_record
theorem dX10_beginChange_0 : decode cX10_beginChange 0 = .ok (.aload_n 0, 1) := by decide +kernel
theorem dX10_beginChange_1 : decode cX10_beginChange 1 = .ok (.getfield 19, 3) := by decide +kernel
theorem dX10_beginChange_4 : decode cX10_beginChange 4 = .ok (.aload_n 0, 1) := by decide +kernel
theorem dX10_beginChange_5 : decode cX10_beginChange 5 = .ok (.getfield 12, 3) := by decide +kernel
theorem dX10_beginChange_8 : decode cX10_beginChange 8 = .ok (.invokevirtual 325, 3) := by decide +kernel
theorem dX10_beginChange_11 : decode cX10_beginChange 11 = .ok (.aload_n 0, 1) := by decide +kernel
theorem dX10_beginChange_12 : decode cX10_beginChange 12 = .ok (.iconst 0, 1) := by decide +kernel
theorem dX10_beginChange_13 : decode cX10_beginChange 13 = .ok (.putfield 76, 3) := by decide +kernel
theorem dX10_beginChange_16 : decode cX10_beginChange 16 = .ok (.return_, 1) := by decide +kernel
set_option maxRecDepth 20000 in
theorem ggX10_measure_X10_measureWith : GoodIn wsX10_measure wsX10_measureWith := goodIn_r _ [8, 9, 2, 10, 11, 12, 13, 14, 15, 16, 17, 7, 18, 19, 20, 21, 22, 23, 24, 25, 26, 27, 28, 29, 30, 31, 32, 33, 34, 35, 36, 37, 38, 39, 40, 41, 42, 43, 44, 45, 46, 47, 48, 49, 50, 51, 52, 53, 54, 55, 56, 57, 58, 59, 60, 61, 62, 63, 64, 65, 66, 67, 68, 69, 70, 71, 72, 73, 74, 75, 76, 77, 78, 79, 80, 81, 82, 83, 84, 85, 86, 87, 88, 89, 90, 91, 92, 93, 94, 95, 96, 97, 98, 99, 100, 101, 102, 103, 104, 105, 106, 107, 108, 109, 110, 111, 112, 113, 114, 115, 116, 117, 118, 119, 120, 121, 122, 123, 124, 125, 126, 127, 128, 129, 130, 131, 132, 133, 134, 135, 136, 137, 138, 139, 140, 141, 142, 143, 144, 145, 146, 147, 148, 149, 150, 151, 152, 153, 154, 155, 156, 157, 158, 159, 160, 161, 162, 163, 164, 165, 166, 167, 168, 169, 170, 171, 172, 173, 174, 175, 176, 177, 178, 179, 180, 181, 182, 183, 184, 185, 186, 187, 188, 189, 190, 191, 192, 193, 194, 195, 196, 197, 198, 199, 200, 201, 202, 203, 204, 205, 206, 207, 208, 209, 210, 211, 212, 213, 214, 215, 216, 217, 218, 219, 220, 221, 222] (by decide +kernel) (by decide +kernel)
set_option maxRecDepth 20000 in
theorem gX10_measure_X10_measureWith : GoodIn wsX10_measure (wsV RX10 294 RX10 yX10_measureWith wsX10_measureWith) := goodIn_app (goodIn_of _ (by decide +kernel)) ggX10_measure_X10_measureWith
theorem dX10_measure_0 : decode cX10_measure 0 = .ok (.aload_n 0, 1) := by decide +kernel
theorem dX10_measure_1 : decode cX10_measure 1 = .ok (.getfield 76, 3) := by decide +kernel
theorem dX10_measure_4 : decode cX10_measure 4 = .ok (.ifCond .ne 19, 3) := by decide +kernel
theorem dX10_measure_7 : decode cX10_measure 7 = .ok (.aload_n 0, 1) := by decide +kernel
theorem dX10_measure_8 : decode cX10_measure 8 = .ok (.aload_n 0, 1) := by decide +kernel
theorem dX10_measure_9 : decode cX10_measure 9 = .ok (.getfield 12, 3) := by decide +kernel
theorem dX10_measure_12 : decode cX10_measure 12 = .ok (.getfield 158, 3) := by decide +kernel
theorem dX10_measure_15 : decode cX10_measure 15 = .ok (.invokevirtual 294, 3) := by decide +kernel
theorem dX10_measure_18 : decode cX10_measure 18 = .ok (.aload_n 0, 1) := by decide +kernel
theorem dX10_measure_19 : decode cX10_measure 19 = .ok (.iconst 1, 1) := by decide +kernel
theorem dX10_measure_20 : decode cX10_measure 20 = .ok (.putfield 76, 3) := by decide +kernel
theorem dX10_measure_23 : decode cX10_measure 23 = .ok (.return_, 1) := by decide +kernel
set_option maxRecDepth 20000 in
theorem ggX10_measureWith_X10_at : GoodIn wsX10_measureWith wsX10_at := goodIn_r _ [12] (by decide +kernel) (by decide +kernel)
set_option maxRecDepth 20000 in
theorem gX10_measureWith_X10_at : GoodIn wsX10_measureWith (va_wsS RX10 151 yX10_at wsX10_at) := goodIn_app (goodIn_of _ (by decide +kernel)) ggX10_measureWith_X10_at
set_option maxRecDepth 20000 in
theorem ggX10_measureWith_X1_find : GoodIn wsX10_measureWith wsX1_find := goodIn_r _ [17, 18, 19, 20, 21, 22, 23, 24, 16, 25, 26, 27, 28, 29, 30, 31, 10, 11, 12, 32, 33, 34, 35, 36, 37, 38, 39, 40, 41, 42, 43, 44, 45, 46, 47, 48, 49, 50, 9, 51, 190, 191, 192, 193, 194, 195, 196, 197, 198, 199, 200, 201, 202, 203, 204] (by decide +kernel) (by decide +kernel)
set_option maxRecDepth 20000 in
theorem gX10_measureWith_X1_find : GoodIn wsX10_measureWith (wsV RX10 329 RX1 yX1_find wsX1_find) := goodIn_app (goodIn_of _ (by decide +kernel)) ggX10_measureWith_X1_find
set_option maxRecDepth 20000 in
theorem ggX10_measureWith_X9_make : GoodIn wsX10_measureWith wsX9_make := goodIn_r _ [56, 57, 58, 59, 60, 61, 62, 10, 11, 12, 63, 64, 65, 55, 66, 67, 68, 69, 70, 71, 72, 73, 74, 75, 76, 77, 78, 79, 80, 81, 82, 83, 36, 37, 84, 85, 86, 87, 88, 89, 90, 91, 92, 93, 94, 95, 96, 97, 98, 99, 100, 101, 46, 47, 16, 48, 43, 42, 102, 103, 104, 105, 106, 107, 108, 109, 110, 111, 112, 113, 114, 115, 116, 117, 118, 119, 120, 121, 122, 123, 124, 125, 197, 198, 199, 200, 201, 202, 203, 204, 181, 182, 183, 184, 185, 186, 187, 188, 189, 190, 191, 192, 193, 194, 195, 196, 205, 206] (by decide +kernel) (by decide +kernel)
set_option maxRecDepth 20000 in
theorem gX10_measureWith_X9_make : GoodIn wsX10_measureWith (wsV RX10 333 RX9 yX9_make wsX9_make) := goodIn_app (goodIn_of _ (by decide +kernel)) ggX10_measureWith_X9_make
set_option maxRecDepth 20000 in
theorem ggX10_measureWith_X7_read : GoodIn wsX10_measureWith wsX7_read := goodIn_r _ [130, 131, 132, 133, 134, 98, 99, 100, 10, 11, 12, 135, 136, 129, 137, 138, 139, 140, 141, 142, 143, 144, 145, 146, 147, 148, 149, 150, 151, 36, 37, 152, 153, 154, 207, 208, 209, 210, 211, 212, 213, 214, 215, 216] (by decide +kernel) (by decide +kernel)
set_option maxRecDepth 20000 in
theorem gX10_measureWith_X7_read : GoodIn wsX10_measureWith (wsV RX10 337 RX7 yX7_read wsX7_read) := goodIn_app (goodIn_of _ (by decide +kernel)) ggX10_measureWith_X7_read
set_option maxRecDepth 20000 in
theorem ggX10_measureWith_X7_findGhosts : GoodIn wsX10_measureWith wsX7_findGhosts := goodIn_r _ [158, 131, 133, 147, 138, 139, 99, 140, 10, 11, 12, 159, 160, 161, 129, 162, 150, 151, 163, 164, 165, 166, 146, 132, 36, 37, 207, 208, 209, 210, 211, 212, 213, 214, 215, 216] (by decide +kernel) (by decide +kernel)
set_option maxRecDepth 20000 in
theorem gX10_measureWith_X7_findGhosts : GoodIn wsX10_measureWith (wsV RX10 340 RX7 yX7_findGhosts wsX7_findGhosts) := goodIn_app (goodIn_of _ (by decide +kernel)) ggX10_measureWith_X7_findGhosts
theorem dX10_measureWith_0 : decode cX10_measureWith 0 = .ok (.aload_n 0, 1) := by decide +kernel
theorem dX10_measureWith_1 : decode cX10_measureWith 1 = .ok (.getfield 54, 3) := by decide +kernel
theorem dX10_measureWith_4 : decode cX10_measureWith 4 = .ok (.aload_n 0, 1) := by decide +kernel
theorem dX10_measureWith_5 : decode cX10_measureWith 5 = .ok (.getfield 12, 3) := by decide +kernel
theorem dX10_measureWith_8 : decode cX10_measureWith 8 = .ok (.getfield 115, 3) := by decide +kernel
theorem dX10_measureWith_11 : decode cX10_measureWith 11 = .ok (.aload_n 1, 1) := by decide +kernel
theorem dX10_measureWith_12 : decode cX10_measureWith 12 = .ok (.iconst 2, 1) := by decide +kernel
theorem dX10_measureWith_13 : decode cX10_measureWith 13 = .ok (.invokestatic 151, 3) := by decide +kernel
theorem dX10_measureWith_16 : decode cX10_measureWith 16 = .ok (.invokevirtual 329, 3) := by decide +kernel
theorem dX10_measureWith_19 : decode cX10_measureWith 19 = .ok (.aload_n 0, 1) := by decide +kernel
theorem dX10_measureWith_20 : decode cX10_measureWith 20 = .ok (.getfield 61, 3) := by decide +kernel
theorem dX10_measureWith_23 : decode cX10_measureWith 23 = .ok (.aload_n 0, 1) := by decide +kernel
theorem dX10_measureWith_24 : decode cX10_measureWith 24 = .ok (.getfield 12, 3) := by decide +kernel
theorem dX10_measureWith_27 : decode cX10_measureWith 27 = .ok (.getfield 115, 3) := by decide +kernel
theorem dX10_measureWith_30 : decode cX10_measureWith 30 = .ok (.aload_n 1, 1) := by decide +kernel
theorem dX10_measureWith_31 : decode cX10_measureWith 31 = .ok (.aload_n 0, 1) := by decide +kernel
theorem dX10_measureWith_32 : decode cX10_measureWith 32 = .ok (.getfield 54, 3) := by decide +kernel
theorem dX10_measureWith_35 : decode cX10_measureWith 35 = .ok (.aload_n 0, 1) := by decide +kernel
theorem dX10_measureWith_36 : decode cX10_measureWith 36 = .ok (.getfield 47, 3) := by decide +kernel
theorem dX10_measureWith_39 : decode cX10_measureWith 39 = .ok (.invokevirtual 333, 3) := by decide +kernel
theorem dX10_measureWith_42 : decode cX10_measureWith 42 = .ok (.aload_n 0, 1) := by decide +kernel
theorem dX10_measureWith_43 : decode cX10_measureWith 43 = .ok (.getfield 68, 3) := by decide +kernel
theorem dX10_measureWith_46 : decode cX10_measureWith 46 = .ok (.aload_n 0, 1) := by decide +kernel
theorem dX10_measureWith_47 : decode cX10_measureWith 47 = .ok (.getfield 61, 3) := by decide +kernel
theorem dX10_measureWith_50 : decode cX10_measureWith 50 = .ok (.getfield 213, 3) := by decide +kernel
theorem dX10_measureWith_53 : decode cX10_measureWith 53 = .ok (.aload_n 0, 1) := by decide +kernel
theorem dX10_measureWith_54 : decode cX10_measureWith 54 = .ok (.getfield 61, 3) := by decide +kernel
theorem dX10_measureWith_57 : decode cX10_measureWith 57 = .ok (.getfield 336, 3) := by decide +kernel
theorem dX10_measureWith_60 : decode cX10_measureWith 60 = .ok (.aload_n 1, 1) := by decide +kernel
theorem dX10_measureWith_61 : decode cX10_measureWith 61 = .ok (.invokevirtual 337, 3) := by decide +kernel
theorem dX10_measureWith_64 : decode cX10_measureWith 64 = .ok (.aload_n 0, 1) := by decide +kernel
theorem dX10_measureWith_65 : decode cX10_measureWith 65 = .ok (.getfield 68, 3) := by decide +kernel
theorem dX10_measureWith_68 : decode cX10_measureWith 68 = .ok (.aload_n 1, 1) := by decide +kernel
theorem dX10_measureWith_69 : decode cX10_measureWith 69 = .ok (.bipush 10, 2) := by decide +kernel
theorem dX10_measureWith_71 : decode cX10_measureWith 71 = .ok (.invokestatic 151, 3) := by decide +kernel
theorem dX10_measureWith_74 : decode cX10_measureWith 74 = .ok (.invokevirtual 340, 3) := by decide +kernel
theorem dX10_measureWith_77 : decode cX10_measureWith 77 = .ok (.return_, 1) := by decide +kernel
set_option maxRecDepth 20000 in
theorem ggX10_isTracePlace_X10_isWithin : GoodIn wsX10_isTracePlace wsX10_isWithin := goodIn_r _ [7] (by decide +kernel) (by decide +kernel)
set_option maxRecDepth 20000 in
theorem gX10_isTracePlace_X10_isWithin : GoodIn wsX10_isTracePlace (va_wsS RX10 80 yX10_isWithin wsX10_isWithin) := goodIn_app (goodIn_of _ (by decide +kernel)) ggX10_isTracePlace_X10_isWithin
theorem dX10_isTracePlace_0 : decode cX10_isTracePlace 0 = .ok (.iload_n 1, 1) := by decide +kernel
theorem dX10_isTracePlace_1 : decode cX10_isTracePlace 1 = .ok (.iconst 0, 1) := by decide +kernel
theorem dX10_isTracePlace_2 : decode cX10_isTracePlace 2 = .ok (.aload_n 0, 1) := by decide +kernel
theorem dX10_isTracePlace_3 : decode cX10_isTracePlace 3 = .ok (.getfield 12, 3) := by decide +kernel
theorem dX10_isTracePlace_6 : decode cX10_isTracePlace 6 = .ok (.getfield 115, 3) := by decide +kernel
theorem dX10_isTracePlace_9 : decode cX10_isTracePlace 9 = .ok (.getfield 170, 3) := by decide +kernel
theorem dX10_isTracePlace_12 : decode cX10_isTracePlace 12 = .ok (.bipush 60, 2) := by decide +kernel
theorem dX10_isTracePlace_14 : decode cX10_isTracePlace 14 = .ok (.iadd, 1) := by decide +kernel
theorem dX10_isTracePlace_15 : decode cX10_isTracePlace 15 = .ok (.iconst 1, 1) := by decide +kernel
theorem dX10_isTracePlace_16 : decode cX10_isTracePlace 16 = .ok (.isub, 1) := by decide +kernel
theorem dX10_isTracePlace_17 : decode cX10_isTracePlace 17 = .ok (.invokestatic 80, 3) := by decide +kernel
theorem dX10_isTracePlace_20 : decode cX10_isTracePlace 20 = .ok (.ireturn, 1) := by decide +kernel
set_option maxRecDepth 20000 in
theorem ggX10_isQuiet_X6_begin : GoodIn wsX10_isQuiet wsX6_begin := goodIn_r _ [14, 15, 16, 17, 18, 19, 49, 50] (by decide +kernel) (by decide +kernel)
set_option maxRecDepth 20000 in
theorem gX10_isQuiet_X6_begin : GoodIn wsX10_isQuiet (wsV RX10 344 RX6 yX6_begin wsX6_begin) := goodIn_app (goodIn_of _ (by decide +kernel)) ggX10_isQuiet_X6_begin
set_option maxRecDepth 20000 in
theorem ggX10_isQuiet_X6_next : GoodIn wsX10_isQuiet wsX6_next := goodIn_r _ [23, 16, 15, 24, 25, 18, 26, 49, 50] (by decide +kernel) (by decide +kernel)
set_option maxRecDepth 20000 in
theorem gX10_isQuiet_X6_next : GoodIn wsX10_isQuiet (wsV RX10 347 RX6 yX6_next wsX6_next) := goodIn_app (goodIn_of _ (by decide +kernel)) ggX10_isQuiet_X6_next
theorem dX10_isQuiet_0 : decode cX10_isQuiet 0 = .ok (.aload_n 0, 1) := by decide +kernel
theorem dX10_isQuiet_1 : decode cX10_isQuiet 1 = .ok (.getfield 47, 3) := by decide +kernel
theorem dX10_isQuiet_4 : decode cX10_isQuiet 4 = .ok (.aload_n 0, 1) := by decide +kernel
theorem dX10_isQuiet_5 : decode cX10_isQuiet 5 = .ok (.getfield 12, 3) := by decide +kernel
theorem dX10_isQuiet_8 : decode cX10_isQuiet 8 = .ok (.getfield 158, 3) := by decide +kernel
theorem dX10_isQuiet_11 : decode cX10_isQuiet 11 = .ok (.invokevirtual 344, 3) := by decide +kernel
theorem dX10_isQuiet_14 : decode cX10_isQuiet 14 = .ok (.aload_n 0, 1) := by decide +kernel
theorem dX10_isQuiet_15 : decode cX10_isQuiet 15 = .ok (.getfield 12, 3) := by decide +kernel
theorem dX10_isQuiet_18 : decode cX10_isQuiet 18 = .ok (.getfield 115, 3) := by decide +kernel
theorem dX10_isQuiet_21 : decode cX10_isQuiet 21 = .ok (.getfield 170, 3) := by decide +kernel
theorem dX10_isQuiet_24 : decode cX10_isQuiet 24 = .ok (.bipush 60, 2) := by decide +kernel
theorem dX10_isQuiet_26 : decode cX10_isQuiet 26 = .ok (.iadd, 1) := by decide +kernel
theorem dX10_isQuiet_27 : decode cX10_isQuiet 27 = .ok (.istore_n 3, 1) := by decide +kernel
theorem dX10_isQuiet_28 : decode cX10_isQuiet 28 = .ok (.iconst 0, 1) := by decide +kernel
theorem dX10_isQuiet_29 : decode cX10_isQuiet 29 = .ok (.istore 4, 2) := by decide +kernel
theorem dX10_isQuiet_31 : decode cX10_isQuiet 31 = .ok (.iload 4, 2) := by decide +kernel
theorem dX10_isQuiet_33 : decode cX10_isQuiet 33 = .ok (.iload_n 3, 1) := by decide +kernel
theorem dX10_isQuiet_34 : decode cX10_isQuiet 34 = .ok (.if_icmp .ge 26, 3) := by decide +kernel
theorem dX10_isQuiet_37 : decode cX10_isQuiet 37 = .ok (.aload_n 0, 1) := by decide +kernel
theorem dX10_isQuiet_38 : decode cX10_isQuiet 38 = .ok (.getfield 47, 3) := by decide +kernel
theorem dX10_isQuiet_41 : decode cX10_isQuiet 41 = .ok (.iload_n 1, 1) := by decide +kernel
theorem dX10_isQuiet_42 : decode cX10_isQuiet 42 = .ok (.invokevirtual 347, 3) := by decide +kernel
theorem dX10_isQuiet_45 : decode cX10_isQuiet 45 = .ok (.invokestatic 350, 3) := by decide +kernel
theorem dX10_isQuiet_48 : decode cX10_isQuiet 48 = .ok (.iload_n 2, 1) := by decide +kernel
theorem dX10_isQuiet_49 : decode cX10_isQuiet 49 = .ok (.if_icmp .le 5, 3) := by decide +kernel
theorem dX10_isQuiet_52 : decode cX10_isQuiet 52 = .ok (.iconst 0, 1) := by decide +kernel
theorem dX10_isQuiet_53 : decode cX10_isQuiet 53 = .ok (.ireturn, 1) := by decide +kernel
theorem dX10_isQuiet_54 : decode cX10_isQuiet 54 = .ok (.iinc 4 1, 3) := by decide +kernel
theorem dX10_isQuiet_57 : decode cX10_isQuiet 57 = .ok (.goto (-26), 3) := by decide +kernel
theorem dX10_isQuiet_60 : decode cX10_isQuiet 60 = .ok (.iconst 1, 1) := by decide +kernel
theorem dX10_isQuiet_61 : decode cX10_isQuiet 61 = .ok (.ireturn, 1) := by decide +kernel
set_option maxRecDepth 20000 in
theorem ggX10_readLoss_X10_at : GoodIn wsX10_readLoss wsX10_at := goodIn_r _ [9] (by decide +kernel) (by decide +kernel)
set_option maxRecDepth 20000 in
theorem gX10_readLoss_X10_at : GoodIn wsX10_readLoss (va_wsS RX10 151 yX10_at wsX10_at) := goodIn_app (goodIn_of _ (by decide +kernel)) ggX10_readLoss_X10_at
theorem dX10_readLoss_0 : decode cX10_readLoss 0 = .ok (.aload_n 0, 1) := by decide +kernel
theorem dX10_readLoss_1 : decode cX10_readLoss 1 = .ok (.getfield 68, 3) := by decide +kernel
theorem dX10_readLoss_4 : decode cX10_readLoss 4 = .ok (.getfield 242, 3) := by decide +kernel
theorem dX10_readLoss_7 : decode cX10_readLoss 7 = .ok (.ifCond .ne 5, 3) := by decide +kernel
theorem dX10_readLoss_10 : decode cX10_readLoss 10 = .ok (.iconst 0, 1) := by decide +kernel
theorem dX10_readLoss_11 : decode cX10_readLoss 11 = .ok (.ireturn, 1) := by decide +kernel
theorem dX10_readLoss_12 : decode cX10_readLoss 12 = .ok (.aload_n 0, 1) := by decide +kernel
theorem dX10_readLoss_13 : decode cX10_readLoss 13 = .ok (.getfield 61, 3) := by decide +kernel
theorem dX10_readLoss_16 : decode cX10_readLoss 16 = .ok (.getfield 213, 3) := by decide +kernel
theorem dX10_readLoss_19 : decode cX10_readLoss 19 = .ok (.iconst 0, 1) := by decide +kernel
theorem dX10_readLoss_20 : decode cX10_readLoss 20 = .ok (.invokestatic 151, 3) := by decide +kernel
theorem dX10_readLoss_23 : decode cX10_readLoss 23 = .ok (.aload_n 0, 1) := by decide +kernel
theorem dX10_readLoss_24 : decode cX10_readLoss 24 = .ok (.getfield 61, 3) := by decide +kernel
theorem dX10_readLoss_27 : decode cX10_readLoss 27 = .ok (.getfield 213, 3) := by decide +kernel
theorem dX10_readLoss_30 : decode cX10_readLoss 30 = .ok (.aload_n 0, 1) := by decide +kernel
theorem dX10_readLoss_31 : decode cX10_readLoss 31 = .ok (.getfield 68, 3) := by decide +kernel
theorem dX10_readLoss_34 : decode cX10_readLoss 34 = .ok (.getfield 246, 3) := by decide +kernel
theorem dX10_readLoss_37 : decode cX10_readLoss 37 = .ok (.aload_n 0, 1) := by decide +kernel
theorem dX10_readLoss_38 : decode cX10_readLoss 38 = .ok (.getfield 68, 3) := by decide +kernel
theorem dX10_readLoss_41 : decode cX10_readLoss 41 = .ok (.getfield 242, 3) := by decide +kernel
theorem dX10_readLoss_44 : decode cX10_readLoss 44 = .ok (.iconst 1, 1) := by decide +kernel
theorem dX10_readLoss_45 : decode cX10_readLoss 45 = .ok (.isub, 1) := by decide +kernel
theorem dX10_readLoss_46 : decode cX10_readLoss 46 = .ok (.invokestatic 151, 3) := by decide +kernel
theorem dX10_readLoss_49 : decode cX10_readLoss 49 = .ok (.invokestatic 151, 3) := by decide +kernel
theorem dX10_readLoss_52 : decode cX10_readLoss 52 = .ok (.isub, 1) := by decide +kernel
theorem dX10_readLoss_53 : decode cX10_readLoss 53 = .ok (.ireturn, 1) := by decide +kernel
theorem dX10_orNotFound_0 : decode cX10_orNotFound 0 = .ok (.iload_n 0, 1) := by decide +kernel
theorem dX10_orNotFound_1 : decode cX10_orNotFound 1 = .ok (.iconst (-1), 1) := by decide +kernel
theorem dX10_orNotFound_2 : decode cX10_orNotFound 2 = .ok (.if_icmp .ne 8, 3) := by decide +kernel
theorem dX10_orNotFound_5 : decode cX10_orNotFound 5 = .ok (.ldc 104, 2) := by decide +kernel
theorem dX10_orNotFound_7 : decode cX10_orNotFound 7 = .ok (.goto 4, 3) := by decide +kernel
theorem dX10_orNotFound_10 : decode cX10_orNotFound 10 = .ok (.iload_n 0, 1) := by decide +kernel
theorem dX10_orNotFound_11 : decode cX10_orNotFound 11 = .ok (.ireturn, 1) := by decide +kernel
theorem dX10_isWithin_0 : decode cX10_isWithin 0 = .ok (.iload_n 0, 1) := by decide +kernel
theorem dX10_isWithin_1 : decode cX10_isWithin 1 = .ok (.iload_n 1, 1) := by decide +kernel
theorem dX10_isWithin_2 : decode cX10_isWithin 2 = .ok (.if_icmp .lt 12, 3) := by decide +kernel
theorem dX10_isWithin_5 : decode cX10_isWithin 5 = .ok (.iload_n 0, 1) := by decide +kernel
theorem dX10_isWithin_6 : decode cX10_isWithin 6 = .ok (.iload_n 2, 1) := by decide +kernel
theorem dX10_isWithin_7 : decode cX10_isWithin 7 = .ok (.if_icmp .gt 7, 3) := by decide +kernel
theorem dX10_isWithin_10 : decode cX10_isWithin 10 = .ok (.iconst 1, 1) := by decide +kernel
theorem dX10_isWithin_11 : decode cX10_isWithin 11 = .ok (.goto 4, 3) := by decide +kernel
theorem dX10_isWithin_14 : decode cX10_isWithin 14 = .ok (.iconst 0, 1) := by decide +kernel
theorem dX10_isWithin_15 : decode cX10_isWithin 15 = .ok (.ireturn, 1) := by decide +kernel
theorem dX10_at_0 : decode cX10_at 0 = .ok (.aload_n 0, 1) := by decide +kernel
theorem dX10_at_1 : decode cX10_at 1 = .ok (.ifnull 19, 3) := by decide +kernel
theorem dX10_at_4 : decode cX10_at 4 = .ok (.iload_n 1, 1) := by decide +kernel
theorem dX10_at_5 : decode cX10_at 5 = .ok (.ifCond .lt 15, 3) := by decide +kernel
theorem dX10_at_8 : decode cX10_at 8 = .ok (.iload_n 1, 1) := by decide +kernel
theorem dX10_at_9 : decode cX10_at 9 = .ok (.aload_n 0, 1) := by decide +kernel
theorem dX10_at_10 : decode cX10_at 10 = .ok (.arraylength, 1) := by decide +kernel
theorem dX10_at_11 : decode cX10_at 11 = .ok (.if_icmp .ge 9, 3) := by decide +kernel
theorem dX10_at_14 : decode cX10_at 14 = .ok (.aload_n 0, 1) := by decide +kernel
theorem dX10_at_15 : decode cX10_at 15 = .ok (.iload_n 1, 1) := by decide +kernel
theorem dX10_at_16 : decode cX10_at 16 = .ok (.iaload, 1) := by decide +kernel
theorem dX10_at_17 : decode cX10_at 17 = .ok (.goto 4, 3) := by decide +kernel
theorem dX10_at_20 : decode cX10_at 20 = .ok (.iconst 0, 1) := by decide +kernel
theorem dX10_at_21 : decode cX10_at 21 = .ok (.ireturn, 1) := by decide +kernel
theorem dX10_put_0 : decode cX10_put 0 = .ok (.aload_n 0, 1) := by decide +kernel
theorem dX10_put_1 : decode cX10_put 1 = .ok (.ifnull 17, 3) := by decide +kernel
theorem dX10_put_4 : decode cX10_put 4 = .ok (.iload_n 1, 1) := by decide +kernel
theorem dX10_put_5 : decode cX10_put 5 = .ok (.ifCond .lt 13, 3) := by decide +kernel
theorem dX10_put_8 : decode cX10_put 8 = .ok (.iload_n 1, 1) := by decide +kernel
theorem dX10_put_9 : decode cX10_put 9 = .ok (.aload_n 0, 1) := by decide +kernel
theorem dX10_put_10 : decode cX10_put 10 = .ok (.arraylength, 1) := by decide +kernel
theorem dX10_put_11 : decode cX10_put 11 = .ok (.if_icmp .ge 7, 3) := by decide +kernel
theorem dX10_put_14 : decode cX10_put 14 = .ok (.aload_n 0, 1) := by decide +kernel
theorem dX10_put_15 : decode cX10_put 15 = .ok (.iload_n 1, 1) := by decide +kernel
theorem dX10_put_16 : decode cX10_put 16 = .ok (.iload_n 2, 1) := by decide +kernel
theorem dX10_put_17 : decode cX10_put 17 = .ok (.iastore, 1) := by decide +kernel
theorem dX10_put_18 : decode cX10_put 18 = .ok (.return_, 1) := by decide +kernel
set_option maxRecDepth 20000 in
theorem ggX10_insertInto_X10_at : GoodIn wsX10_insertInto wsX10_at := goodIn_r _ [4] (by decide +kernel) (by decide +kernel)
set_option maxRecDepth 20000 in
theorem gX10_insertInto_X10_at : GoodIn wsX10_insertInto (va_wsS RX10 151 yX10_at wsX10_at) := goodIn_app (goodIn_of _ (by decide +kernel)) ggX10_insertInto_X10_at
set_option maxRecDepth 20000 in
theorem ggX10_insertInto_X10_put : GoodIn wsX10_insertInto wsX10_put := goodIn_r _ [7] (by decide +kernel) (by decide +kernel)
set_option maxRecDepth 20000 in
theorem gX10_insertInto_X10_put : GoodIn wsX10_insertInto (va_wsS RX10 161 yX10_put wsX10_put) := goodIn_app (goodIn_of _ (by decide +kernel)) ggX10_insertInto_X10_put
theorem dX10_insertInto_0 : decode cX10_insertInto 0 = .ok (.iload_n 1, 1) := by decide +kernel
theorem dX10_insertInto_1 : decode cX10_insertInto 1 = .ok (.istore 4, 2) := by decide +kernel
theorem dX10_insertInto_3 : decode cX10_insertInto 3 = .ok (.iload 4, 2) := by decide +kernel
theorem dX10_insertInto_5 : decode cX10_insertInto 5 = .ok (.iload_n 2, 1) := by decide +kernel
theorem dX10_insertInto_6 : decode cX10_insertInto 6 = .ok (.if_icmp .le 23, 3) := by decide +kernel
theorem dX10_insertInto_9 : decode cX10_insertInto 9 = .ok (.aload_n 0, 1) := by decide +kernel
theorem dX10_insertInto_10 : decode cX10_insertInto 10 = .ok (.iload 4, 2) := by decide +kernel
theorem dX10_insertInto_12 : decode cX10_insertInto 12 = .ok (.aload_n 0, 1) := by decide +kernel
theorem dX10_insertInto_13 : decode cX10_insertInto 13 = .ok (.iload 4, 2) := by decide +kernel
theorem dX10_insertInto_15 : decode cX10_insertInto 15 = .ok (.iconst 1, 1) := by decide +kernel
theorem dX10_insertInto_16 : decode cX10_insertInto 16 = .ok (.isub, 1) := by decide +kernel
theorem dX10_insertInto_17 : decode cX10_insertInto 17 = .ok (.invokestatic 151, 3) := by decide +kernel
theorem dX10_insertInto_20 : decode cX10_insertInto 20 = .ok (.invokestatic 161, 3) := by decide +kernel
theorem dX10_insertInto_23 : decode cX10_insertInto 23 = .ok (.iinc 4 (-1), 3) := by decide +kernel
theorem dX10_insertInto_26 : decode cX10_insertInto 26 = .ok (.goto (-23), 3) := by decide +kernel
theorem dX10_insertInto_29 : decode cX10_insertInto 29 = .ok (.aload_n 0, 1) := by decide +kernel
theorem dX10_insertInto_30 : decode cX10_insertInto 30 = .ok (.iload_n 2, 1) := by decide +kernel
theorem dX10_insertInto_31 : decode cX10_insertInto 31 = .ok (.iload_n 3, 1) := by decide +kernel
theorem dX10_insertInto_32 : decode cX10_insertInto 32 = .ok (.invokestatic 161, 3) := by decide +kernel
theorem dX10_insertInto_35 : decode cX10_insertInto 35 = .ok (.return_, 1) := by decide +kernel
set_option maxRecDepth 20000 in
theorem ggX10_removeFrom_X10_at : GoodIn wsX10_removeFrom wsX10_at := goodIn_r _ [4] (by decide +kernel) (by decide +kernel)
set_option maxRecDepth 20000 in
theorem gX10_removeFrom_X10_at : GoodIn wsX10_removeFrom (va_wsS RX10 151 yX10_at wsX10_at) := goodIn_app (goodIn_of _ (by decide +kernel)) ggX10_removeFrom_X10_at
set_option maxRecDepth 20000 in
theorem ggX10_removeFrom_X10_put : GoodIn wsX10_removeFrom wsX10_put := goodIn_r _ [7] (by decide +kernel) (by decide +kernel)
set_option maxRecDepth 20000 in
theorem gX10_removeFrom_X10_put : GoodIn wsX10_removeFrom (va_wsS RX10 161 yX10_put wsX10_put) := goodIn_app (goodIn_of _ (by decide +kernel)) ggX10_removeFrom_X10_put
theorem dX10_removeFrom_0 : decode cX10_removeFrom 0 = .ok (.iload_n 2, 1) := by decide +kernel
theorem dX10_removeFrom_1 : decode cX10_removeFrom 1 = .ok (.istore_n 3, 1) := by decide +kernel
theorem dX10_removeFrom_2 : decode cX10_removeFrom 2 = .ok (.iload_n 3, 1) := by decide +kernel
theorem dX10_removeFrom_3 : decode cX10_removeFrom 3 = .ok (.iload_n 1, 1) := by decide +kernel
theorem dX10_removeFrom_4 : decode cX10_removeFrom 4 = .ok (.iconst 1, 1) := by decide +kernel
theorem dX10_removeFrom_5 : decode cX10_removeFrom 5 = .ok (.isub, 1) := by decide +kernel
theorem dX10_removeFrom_6 : decode cX10_removeFrom 6 = .ok (.if_icmp .ge 21, 3) := by decide +kernel
theorem dX10_removeFrom_9 : decode cX10_removeFrom 9 = .ok (.aload_n 0, 1) := by decide +kernel
theorem dX10_removeFrom_10 : decode cX10_removeFrom 10 = .ok (.iload_n 3, 1) := by decide +kernel
theorem dX10_removeFrom_11 : decode cX10_removeFrom 11 = .ok (.aload_n 0, 1) := by decide +kernel
theorem dX10_removeFrom_12 : decode cX10_removeFrom 12 = .ok (.iload_n 3, 1) := by decide +kernel
theorem dX10_removeFrom_13 : decode cX10_removeFrom 13 = .ok (.iconst 1, 1) := by decide +kernel
theorem dX10_removeFrom_14 : decode cX10_removeFrom 14 = .ok (.iadd, 1) := by decide +kernel
theorem dX10_removeFrom_15 : decode cX10_removeFrom 15 = .ok (.invokestatic 151, 3) := by decide +kernel
theorem dX10_removeFrom_18 : decode cX10_removeFrom 18 = .ok (.invokestatic 161, 3) := by decide +kernel
theorem dX10_removeFrom_21 : decode cX10_removeFrom 21 = .ok (.iinc 3 1, 3) := by decide +kernel
theorem dX10_removeFrom_24 : decode cX10_removeFrom 24 = .ok (.goto (-22), 3) := by decide +kernel
theorem dX10_removeFrom_27 : decode cX10_removeFrom 27 = .ok (.return_, 1) := by decide +kernel
set_option maxRecDepth 20000 in
theorem ggX10_sum_X10_at : GoodIn wsX10_sum wsX10_at := goodIn_r _ [4] (by decide +kernel) (by decide +kernel)
set_option maxRecDepth 20000 in
theorem gX10_sum_X10_at : GoodIn wsX10_sum (va_wsS RX10 151 yX10_at wsX10_at) := goodIn_app (goodIn_of _ (by decide +kernel)) ggX10_sum_X10_at
theorem dX10_sum_0 : decode cX10_sum 0 = .ok (.iconst 0, 1) := by decide +kernel
theorem dX10_sum_1 : decode cX10_sum 1 = .ok (.istore_n 2, 1) := by decide +kernel
theorem dX10_sum_2 : decode cX10_sum 2 = .ok (.iconst 0, 1) := by decide +kernel
theorem dX10_sum_3 : decode cX10_sum 3 = .ok (.istore_n 3, 1) := by decide +kernel
theorem dX10_sum_4 : decode cX10_sum 4 = .ok (.iload_n 3, 1) := by decide +kernel
theorem dX10_sum_5 : decode cX10_sum 5 = .ok (.iload_n 1, 1) := by decide +kernel
theorem dX10_sum_6 : decode cX10_sum 6 = .ok (.if_icmp .ge 17, 3) := by decide +kernel
theorem dX10_sum_9 : decode cX10_sum 9 = .ok (.iload_n 2, 1) := by decide +kernel
theorem dX10_sum_10 : decode cX10_sum 10 = .ok (.aload_n 0, 1) := by decide +kernel
theorem dX10_sum_11 : decode cX10_sum 11 = .ok (.iload_n 3, 1) := by decide +kernel
theorem dX10_sum_12 : decode cX10_sum 12 = .ok (.invokestatic 151, 3) := by decide +kernel
theorem dX10_sum_15 : decode cX10_sum 15 = .ok (.iadd, 1) := by decide +kernel
theorem dX10_sum_16 : decode cX10_sum 16 = .ok (.istore_n 2, 1) := by decide +kernel
theorem dX10_sum_17 : decode cX10_sum 17 = .ok (.iinc 3 1, 3) := by decide +kernel
theorem dX10_sum_20 : decode cX10_sum 20 = .ok (.goto (-16), 3) := by decide +kernel
theorem dX10_sum_23 : decode cX10_sum 23 = .ok (.iload_n 2, 1) := by decide +kernel
theorem dX10_sum_24 : decode cX10_sum 24 = .ok (.ireturn, 1) := by decide +kernel
theorem dX10_quotient_0 : decode cX10_quotient 0 = .ok (.iload_n 1, 1) := by decide +kernel
theorem dX10_quotient_1 : decode cX10_quotient 1 = .ok (.ifCond .ne 7, 3) := by decide +kernel
theorem dX10_quotient_4 : decode cX10_quotient 4 = .ok (.iconst 0, 1) := by decide +kernel
theorem dX10_quotient_5 : decode cX10_quotient 5 = .ok (.goto 6, 3) := by decide +kernel
theorem dX10_quotient_8 : decode cX10_quotient 8 = .ok (.iload_n 0, 1) := by decide +kernel
theorem dX10_quotient_9 : decode cX10_quotient 9 = .ok (.iload_n 1, 1) := by decide +kernel
theorem dX10_quotient_10 : decode cX10_quotient 10 = .ok (.idiv, 1) := by decide +kernel
theorem dX10_quotient_11 : decode cX10_quotient 11 = .ok (.ireturn, 1) := by decide +kernel
