section
theorem ggX11_init_X11_firstOf : GoodIn wsX11_init wsX11_firstOf := goodIn_sub (fun w h => (List.mem_cons.mp h).elim (fun e => ft_me e (k_wsX11_init_wsX11_init_r2 _ (List.mem_of_getElem? (i := 5) rfl))) (fun h => absurd h List.not_mem_nil)) gw_wsX11_firstOf
theorem gX11_init_X11_firstOf : GoodIn wsX11_init (va_wsS RX11 76 yX11_firstOf wsX11_firstOf) := goodIn_app (goodIn_sub (List.forall_mem_cons.mpr ⟨(k_wsX11_init_wsX11_init_r2 _ (List.mem_of_getElem? (i := 2) rfl)), List.forall_mem_cons.mpr ⟨(k_wsX11_init_wsX11_init_r2 _ (List.mem_of_getElem? (i := 3) rfl)), List.forall_mem_cons.mpr ⟨(k_wsX11_init_wsX11_init_r2 _ (List.mem_of_getElem? (i := 4) rfl)), fun _ h => absurd h List.not_mem_nil⟩⟩⟩) (by decide +kernel)) ggX11_init_X11_firstOf
theorem dX11_init_0 : decode cX11_init 0 = .ok (.aload_n 0, 1) := by decide +kernel
theorem dX11_init_1 : decode cX11_init 1 = .ok (.invokespecial 1, 3) := by decide +kernel
theorem dX11_init_4 : decode cX11_init 4 = .ok (.aload_n 0, 1) := by decide +kernel
theorem dX11_init_5 : decode cX11_init 5 = .ok (.sipush 1439, 3) := by decide +kernel
theorem dX11_init_8 : decode cX11_init 8 = .ok (.newarray .int, 2) := by decide +kernel
theorem dX11_init_10 : decode cX11_init 10 = .ok (.putfield 7, 3) := by decide +kernel
theorem dX11_init_13 : decode cX11_init 13 = .ok (.aload_n 0, 1) := by decide +kernel
theorem dX11_init_14 : decode cX11_init 14 = .ok (.sipush 7195, 3) := by decide +kernel
theorem dX11_init_17 : decode cX11_init 17 = .ok (.newarray .int, 2) := by decide +kernel
theorem dX11_init_19 : decode cX11_init 19 = .ok (.putfield 13, 3) := by decide +kernel
theorem dX11_init_22 : decode cX11_init 22 = .ok (.aload_n 0, 1) := by decide +kernel
theorem dX11_init_23 : decode cX11_init 23 = .ok (.bipush 120, 2) := by decide +kernel
theorem dX11_init_25 : decode cX11_init 25 = .ok (.newarray .int, 2) := by decide +kernel
theorem dX11_init_27 : decode cX11_init 27 = .ok (.putfield 16, 3) := by decide +kernel
theorem dX11_init_30 : decode cX11_init 30 = .ok (.aload_n 0, 1) := by decide +kernel
theorem dX11_init_31 : decode cX11_init 31 = .ok (.bipush 44, 2) := by decide +kernel
theorem dX11_init_33 : decode cX11_init 33 = .ok (.newarray .int, 2) := by decide +kernel
theorem dX11_init_35 : decode cX11_init 35 = .ok (.putfield 19, 3) := by decide +kernel
theorem dX11_init_38 : decode cX11_init 38 = .ok (.aload_n 0, 1) := by decide +kernel
theorem dX11_init_39 : decode cX11_init 39 = .ok (.iconst 3, 1) := by decide +kernel
theorem dX11_init_40 : decode cX11_init 40 = .ok (.newarray .int, 2) := by decide +kernel
theorem dX11_init_42 : decode cX11_init 42 = .ok (.putfield 22, 3) := by decide +kernel
theorem dX11_init_45 : decode cX11_init 45 = .ok (.aload_n 0, 1) := by decide +kernel
theorem dX11_init_46 : decode cX11_init 46 = .ok (.sipush 460, 3) := by decide +kernel
theorem dX11_init_49 : decode cX11_init 49 = .ok (.newarray .int, 2) := by decide +kernel
theorem dX11_init_51 : decode cX11_init 51 = .ok (.putfield 25, 3) := by decide +kernel
theorem dX11_init_54 : decode cX11_init 54 = .ok (.aload_n 0, 1) := by decide +kernel
theorem dX11_init_55 : decode cX11_init 55 = .ok (.sipush 460, 3) := by decide +kernel
theorem dX11_init_58 : decode cX11_init 58 = .ok (.newarray .int, 2) := by decide +kernel
theorem dX11_init_60 : decode cX11_init 60 = .ok (.putfield 28, 3) := by decide +kernel
theorem dX11_init_63 : decode cX11_init 63 = .ok (.aload_n 0, 1) := by decide +kernel
theorem dX11_init_64 : decode cX11_init 64 = .ok (.sipush 460, 3) := by decide +kernel
theorem dX11_init_67 : decode cX11_init 67 = .ok (.newarray .int, 2) := by decide +kernel
theorem dX11_init_69 : decode cX11_init 69 = .ok (.putfield 31, 3) := by decide +kernel
theorem dX11_init_72 : decode cX11_init 72 = .ok (.aload_n 0, 1) := by decide +kernel
theorem dX11_init_73 : decode cX11_init 73 = .ok (.bipush 11, 2) := by decide +kernel
theorem dX11_init_75 : decode cX11_init 75 = .ok (.newarray .int, 2) := by decide +kernel
theorem dX11_init_77 : decode cX11_init 77 = .ok (.putfield 34, 3) := by decide +kernel
theorem dX11_init_80 : decode cX11_init 80 = .ok (.aload_n 0, 1) := by decide +kernel
theorem dX11_init_81 : decode cX11_init 81 = .ok (.bipush 11, 2) := by decide +kernel
theorem dX11_init_83 : decode cX11_init 83 = .ok (.newarray .int, 2) := by decide +kernel
theorem dX11_init_85 : decode cX11_init 85 = .ok (.putfield 37, 3) := by decide +kernel
theorem dX11_init_88 : decode cX11_init 88 = .ok (.aload_n 0, 1) := by decide +kernel
theorem dX11_init_89 : decode cX11_init 89 = .ok (.bipush 55, 2) := by decide +kernel
theorem dX11_init_91 : decode cX11_init 91 = .ok (.newarray .int, 2) := by decide +kernel
theorem dX11_init_93 : decode cX11_init 93 = .ok (.putfield 40, 3) := by decide +kernel
theorem dX11_init_96 : decode cX11_init 96 = .ok (.aload_n 0, 1) := by decide +kernel
theorem dX11_init_97 : decode cX11_init 97 = .ok (.bipush 55, 2) := by decide +kernel
theorem dX11_init_99 : decode cX11_init 99 = .ok (.newarray .int, 2) := by decide +kernel
theorem dX11_init_101 : decode cX11_init 101 = .ok (.putfield 43, 3) := by decide +kernel
theorem dX11_init_104 : decode cX11_init 104 = .ok (.aload_n 0, 1) := by decide +kernel
theorem dX11_init_105 : decode cX11_init 105 = .ok (.bipush 55, 2) := by decide +kernel
theorem dX11_init_107 : decode cX11_init 107 = .ok (.newarray .int, 2) := by decide +kernel
theorem dX11_init_109 : decode cX11_init 109 = .ok (.putfield 46, 3) := by decide +kernel
theorem dX11_init_112 : decode cX11_init 112 = .ok (.aload_n 0, 1) := by decide +kernel
theorem dX11_init_113 : decode cX11_init 113 = .ok (.bipush 55, 2) := by decide +kernel
theorem dX11_init_115 : decode cX11_init 115 = .ok (.newarray .int, 2) := by decide +kernel
theorem dX11_init_117 : decode cX11_init 117 = .ok (.putfield 49, 3) := by decide +kernel
theorem dX11_init_120 : decode cX11_init 120 = .ok (.aload_n 0, 1) := by decide +kernel
theorem dX11_init_121 : decode cX11_init 121 = .ok (.bipush 30, 2) := by decide +kernel
theorem dX11_init_123 : decode cX11_init 123 = .ok (.newarray .int, 2) := by decide +kernel
theorem dX11_init_125 : decode cX11_init 125 = .ok (.putfield 52, 3) := by decide +kernel
theorem dX11_init_128 : decode cX11_init 128 = .ok (.aload_n 0, 1) := by decide +kernel
theorem dX11_init_129 : decode cX11_init 129 = .ok (.bipush 30, 2) := by decide +kernel
theorem dX11_init_131 : decode cX11_init 131 = .ok (.newarray .int, 2) := by decide +kernel
theorem dX11_init_133 : decode cX11_init 133 = .ok (.putfield 55, 3) := by decide +kernel
theorem dX11_init_136 : decode cX11_init 136 = .ok (.aload_n 0, 1) := by decide +kernel
theorem dX11_init_137 : decode cX11_init 137 = .ok (.bipush 30, 2) := by decide +kernel
theorem dX11_init_139 : decode cX11_init 139 = .ok (.newarray .int, 2) := by decide +kernel
theorem dX11_init_141 : decode cX11_init 141 = .ok (.putfield 58, 3) := by decide +kernel
theorem dX11_init_144 : decode cX11_init 144 = .ok (.aload_n 0, 1) := by decide +kernel
theorem dX11_init_145 : decode cX11_init 145 = .ok (.bipush 30, 2) := by decide +kernel
theorem dX11_init_147 : decode cX11_init 147 = .ok (.newarray .int, 2) := by decide +kernel
theorem dX11_init_149 : decode cX11_init 149 = .ok (.putfield 61, 3) := by decide +kernel
theorem dX11_init_152 : decode cX11_init 152 = .ok (.aload_n 0, 1) := by decide +kernel
theorem dX11_init_153 : decode cX11_init 153 = .ok (.bipush 30, 2) := by decide +kernel
theorem dX11_init_155 : decode cX11_init 155 = .ok (.newarray .int, 2) := by decide +kernel
theorem dX11_init_157 : decode cX11_init 157 = .ok (.putfield 64, 3) := by decide +kernel
theorem dX11_init_160 : decode cX11_init 160 = .ok (.aload_n 0, 1) := by decide +kernel
theorem dX11_init_161 : decode cX11_init 161 = .ok (.bipush 30, 2) := by decide +kernel
theorem dX11_init_163 : decode cX11_init 163 = .ok (.newarray .int, 2) := by decide +kernel
theorem dX11_init_165 : decode cX11_init 165 = .ok (.putfield 67, 3) := by decide +kernel
theorem dX11_init_168 : decode cX11_init 168 = .ok (.aload_n 0, 1) := by decide +kernel
theorem dX11_init_169 : decode cX11_init 169 = .ok (.bipush 30, 2) := by decide +kernel
theorem dX11_init_171 : decode cX11_init 171 = .ok (.newarray .int, 2) := by decide +kernel
theorem dX11_init_173 : decode cX11_init 173 = .ok (.putfield 70, 3) := by decide +kernel
theorem dX11_init_176 : decode cX11_init 176 = .ok (.aload_n 0, 1) := by decide +kernel
theorem dX11_init_177 : decode cX11_init 177 = .ok (.bipush 30, 2) := by decide +kernel
theorem dX11_init_179 : decode cX11_init 179 = .ok (.newarray .int, 2) := by decide +kernel
theorem dX11_init_181 : decode cX11_init 181 = .ok (.putfield 73, 3) := by decide +kernel
theorem dX11_init_184 : decode cX11_init 184 = .ok (.aload_n 0, 1) := by decide +kernel
theorem dX11_init_185 : decode cX11_init 185 = .ok (.getfield 7, 3) := by decide +kernel
theorem dX11_init_188 : decode cX11_init 188 = .ok (.iconst 0, 1) := by decide +kernel
theorem dX11_init_189 : decode cX11_init 189 = .ok (.sipush 200, 3) := by decide +kernel
theorem dX11_init_192 : decode cX11_init 192 = .ok (.iastore, 1) := by decide +kernel
theorem dX11_init_193 : decode cX11_init 193 = .ok (.aload_n 0, 1) := by decide +kernel
theorem dX11_init_194 : decode cX11_init 194 = .ok (.getfield 7, 3) := by decide +kernel
theorem dX11_init_197 : decode cX11_init 197 = .ok (.iconst 1, 1) := by decide +kernel
theorem dX11_init_198 : decode cX11_init 198 = .ok (.bipush 10, 2) := by decide +kernel
theorem dX11_init_200 : decode cX11_init 200 = .ok (.iastore, 1) := by decide +kernel
theorem dX11_init_201 : decode cX11_init 201 = .ok (.aload_n 0, 1) := by decide +kernel
theorem dX11_init_202 : decode cX11_init 202 = .ok (.getfield 7, 3) := by decide +kernel
theorem dX11_init_205 : decode cX11_init 205 = .ok (.iconst 2, 1) := by decide +kernel
theorem dX11_init_206 : decode cX11_init 206 = .ok (.sipush 12000, 3) := by decide +kernel
theorem dX11_init_209 : decode cX11_init 209 = .ok (.iastore, 1) := by decide +kernel
theorem dX11_init_210 : decode cX11_init 210 = .ok (.iconst 0, 1) := by decide +kernel
theorem dX11_init_211 : decode cX11_init 211 = .ok (.istore_n 1, 1) := by decide +kernel
theorem dX11_init_212 : decode cX11_init 212 = .ok (.iload_n 1, 1) := by decide +kernel
theorem dX11_init_213 : decode cX11_init 213 = .ok (.bipush 10, 2) := by decide +kernel
theorem dX11_init_215 : decode cX11_init 215 = .ok (.if_icmp .gt 22, 3) := by decide +kernel
theorem dX11_init_218 : decode cX11_init 218 = .ok (.aload_n 0, 1) := by decide +kernel
theorem dX11_init_219 : decode cX11_init 219 = .ok (.getfield 7, 3) := by decide +kernel
theorem dX11_init_222 : decode cX11_init 222 = .ok (.bipush 44, 2) := by decide +kernel
theorem dX11_init_224 : decode cX11_init 224 = .ok (.iload_n 1, 1) := by decide +kernel
theorem dX11_init_225 : decode cX11_init 225 = .ok (.iadd, 1) := by decide +kernel
theorem dX11_init_226 : decode cX11_init 226 = .ok (.iload_n 1, 1) := by decide +kernel
theorem dX11_init_227 : decode cX11_init 227 = .ok (.invokestatic 76, 3) := by decide +kernel
theorem dX11_init_230 : decode cX11_init 230 = .ok (.iastore, 1) := by decide +kernel
theorem dX11_init_231 : decode cX11_init 231 = .ok (.iinc 1 1, 3) := by decide +kernel
theorem dX11_init_234 : decode cX11_init 234 = .ok (.goto (-22), 3) := by decide +kernel
theorem dX11_init_237 : decode cX11_init 237 = .ok (.return_, 1) := by decide +kernel
theorem dX11_firstOf_0 : decode cX11_firstOf 0 = .ok (.iload_n 0, 1) := by decide +kernel
theorem dX11_firstOf_1 : decode cX11_firstOf 1 = .ok (.tableswitch 84 0 9 #[55, 57, 61, 65, 67, 69, 71, 75, 78, 82], 55) := by decide +kernel
theorem dX11_firstOf_56 : decode cX11_firstOf 56 = .ok (.iconst 5, 1) := by decide +kernel
theorem dX11_firstOf_57 : decode cX11_firstOf 57 = .ok (.ireturn, 1) := by decide +kernel
theorem dX11_firstOf_58 : decode cX11_firstOf 58 = .ok (.sipush 1500, 3) := by decide +kernel
theorem dX11_firstOf_61 : decode cX11_firstOf 61 = .ok (.ireturn, 1) := by decide +kernel
theorem dX11_firstOf_62 : decode cX11_firstOf 62 = .ok (.sipush 9000, 3) := by decide +kernel
theorem dX11_firstOf_65 : decode cX11_firstOf 65 = .ok (.ireturn, 1) := by decide +kernel
theorem dX11_firstOf_66 : decode cX11_firstOf 66 = .ok (.iconst 0, 1) := by decide +kernel
theorem dX11_firstOf_67 : decode cX11_firstOf 67 = .ok (.ireturn, 1) := by decide +kernel
theorem dX11_firstOf_68 : decode cX11_firstOf 68 = .ok (.iconst 4, 1) := by decide +kernel
theorem dX11_firstOf_69 : decode cX11_firstOf 69 = .ok (.ireturn, 1) := by decide +kernel
theorem dX11_firstOf_70 : decode cX11_firstOf 70 = .ok (.iconst 1, 1) := by decide +kernel
theorem dX11_firstOf_71 : decode cX11_firstOf 71 = .ok (.ireturn, 1) := by decide +kernel
theorem dX11_firstOf_72 : decode cX11_firstOf 72 = .ok (.sipush 600, 3) := by decide +kernel
theorem dX11_firstOf_75 : decode cX11_firstOf 75 = .ok (.ireturn, 1) := by decide +kernel
theorem dX11_firstOf_76 : decode cX11_firstOf 76 = .ok (.bipush 60, 2) := by decide +kernel
theorem dX11_firstOf_78 : decode cX11_firstOf 78 = .ok (.ireturn, 1) := by decide +kernel
theorem dX11_firstOf_79 : decode cX11_firstOf 79 = .ok (.sipush 8000, 3) := by decide +kernel
theorem dX11_firstOf_82 : decode cX11_firstOf 82 = .ok (.ireturn, 1) := by decide +kernel
theorem dX11_firstOf_83 : decode cX11_firstOf 83 = .ok (.iconst 3, 1) := by decide +kernel
theorem dX11_firstOf_84 : decode cX11_firstOf 84 = .ok (.ireturn, 1) := by decide +kernel
theorem dX11_firstOf_85 : decode cX11_firstOf 85 = .ok (.sipush 150, 3) := by decide +kernel
theorem dX11_firstOf_88 : decode cX11_firstOf 88 = .ok (.ireturn, 1) := by decide +kernel
theorem dX11_leastOf_0 : decode cX11_leastOf 0 = .ok (.iload_n 0, 1) := by decide +kernel
theorem dX11_leastOf_1 : decode cX11_leastOf 1 = .ok (.ifCond .eq 8, 3) := by decide +kernel
theorem dX11_leastOf_4 : decode cX11_leastOf 4 = .ok (.iload_n 0, 1) := by decide +kernel
theorem dX11_leastOf_5 : decode cX11_leastOf 5 = .ok (.iconst 4, 1) := by decide +kernel
theorem dX11_leastOf_6 : decode cX11_leastOf 6 = .ok (.if_icmp .ne 7, 3) := by decide +kernel
theorem dX11_leastOf_9 : decode cX11_leastOf 9 = .ok (.iconst 1, 1) := by decide +kernel
theorem dX11_leastOf_10 : decode cX11_leastOf 10 = .ok (.goto 35, 3) := by decide +kernel
theorem dX11_leastOf_13 : decode cX11_leastOf 13 = .ok (.iload_n 0, 1) := by decide +kernel
theorem dX11_leastOf_14 : decode cX11_leastOf 14 = .ok (.iconst 1, 1) := by decide +kernel
theorem dX11_leastOf_15 : decode cX11_leastOf 15 = .ok (.if_icmp .ne 8, 3) := by decide +kernel
theorem dX11_leastOf_18 : decode cX11_leastOf 18 = .ok (.bipush 100, 2) := by decide +kernel
theorem dX11_leastOf_20 : decode cX11_leastOf 20 = .ok (.goto 25, 3) := by decide +kernel
theorem dX11_leastOf_23 : decode cX11_leastOf 23 = .ok (.iload_n 0, 1) := by decide +kernel
theorem dX11_leastOf_24 : decode cX11_leastOf 24 = .ok (.bipush 6, 2) := by decide +kernel
theorem dX11_leastOf_26 : decode cX11_leastOf 26 = .ok (.if_icmp .ne 8, 3) := by decide +kernel
theorem dX11_leastOf_29 : decode cX11_leastOf 29 = .ok (.bipush 10, 2) := by decide +kernel
theorem dX11_leastOf_31 : decode cX11_leastOf 31 = .ok (.goto 14, 3) := by decide +kernel
theorem dX11_leastOf_34 : decode cX11_leastOf 34 = .ok (.iload_n 0, 1) := by decide +kernel
theorem dX11_leastOf_35 : decode cX11_leastOf 35 = .ok (.bipush 7, 2) := by decide +kernel
theorem dX11_leastOf_37 : decode cX11_leastOf 37 = .ok (.if_icmp .ne 7, 3) := by decide +kernel
theorem dX11_leastOf_40 : decode cX11_leastOf 40 = .ok (.iconst 5, 1) := by decide +kernel
theorem dX11_leastOf_41 : decode cX11_leastOf 41 = .ok (.goto 4, 3) := by decide +kernel
theorem dX11_leastOf_44 : decode cX11_leastOf 44 = .ok (.iconst 0, 1) := by decide +kernel
theorem dX11_leastOf_45 : decode cX11_leastOf 45 = .ok (.ireturn, 1) := by decide +kernel
theorem dX11_mostOf_0 : decode cX11_mostOf 0 = .ok (.iload_n 0, 1) := by decide +kernel
theorem dX11_mostOf_1 : decode cX11_mostOf 1 = .ok (.tableswitch 75 0 9 #[55, 58, 62, 65, 69, 72, 58, 75, 62, 55], 55) := by decide +kernel
theorem dX11_mostOf_56 : decode cX11_mostOf 56 = .ok (.bipush 20, 2) := by decide +kernel
theorem dX11_mostOf_58 : decode cX11_mostOf 58 = .ok (.ireturn, 1) := by decide +kernel
theorem dX11_mostOf_59 : decode cX11_mostOf 59 = .ok (.sipush 5000, 3) := by decide +kernel
theorem dX11_mostOf_62 : decode cX11_mostOf 62 = .ok (.ireturn, 1) := by decide +kernel
theorem dX11_mostOf_63 : decode cX11_mostOf 63 = .ok (.ldc 80, 2) := by decide +kernel
theorem dX11_mostOf_65 : decode cX11_mostOf 65 = .ok (.ireturn, 1) := by decide +kernel
theorem dX11_mostOf_66 : decode cX11_mostOf 66 = .ok (.sipush 400, 3) := by decide +kernel
theorem dX11_mostOf_69 : decode cX11_mostOf 69 = .ok (.ireturn, 1) := by decide +kernel
theorem dX11_mostOf_70 : decode cX11_mostOf 70 = .ok (.bipush 32, 2) := by decide +kernel
theorem dX11_mostOf_72 : decode cX11_mostOf 72 = .ok (.ireturn, 1) := by decide +kernel
theorem dX11_mostOf_73 : decode cX11_mostOf 73 = .ok (.ldc 81, 2) := by decide +kernel
theorem dX11_mostOf_75 : decode cX11_mostOf 75 = .ok (.ireturn, 1) := by decide +kernel
theorem dX11_mostOf_76 : decode cX11_mostOf 76 = .ok (.sipush 2000, 3) := by decide +kernel
theorem dX11_mostOf_79 : decode cX11_mostOf 79 = .ok (.ireturn, 1) := by decide +kernel
theorem dX11_in_0 : decode cX11_in 0 = .ok (.lload_n 0, 1) := by decide +kernel
theorem dX11_in_1 : decode cX11_in 1 = .ok (.lload_n 2, 1) := by decide +kernel
theorem dX11_in_2 : decode cX11_in 2 = .ok (.lcmp, 1) := by decide +kernel
theorem dX11_in_3 : decode cX11_in 3 = .ok (.ifCond .lt 14, 3) := by decide +kernel
theorem dX11_in_6 : decode cX11_in 6 = .ok (.lload_n 0, 1) := by decide +kernel
theorem dX11_in_7 : decode cX11_in 7 = .ok (.lload 4, 2) := by decide +kernel
theorem dX11_in_9 : decode cX11_in 9 = .ok (.lcmp, 1) := by decide +kernel
theorem dX11_in_10 : decode cX11_in 10 = .ok (.ifCond .gt 7, 3) := by decide +kernel
theorem dX11_in_13 : decode cX11_in 13 = .ok (.iconst 1, 1) := by decide +kernel
theorem dX11_in_14 : decode cX11_in 14 = .ok (.goto 4, 3) := by decide +kernel
theorem dX11_in_17 : decode cX11_in 17 = .ok (.iconst 0, 1) := by decide +kernel
theorem dX11_in_18 : decode cX11_in 18 = .ok (.ireturn, 1) := by decide +kernel
theorem dX11_sizeOf_0 : decode cX11_sizeOf 0 = .ok (.iload_n 0, 1) := by decide +kernel
theorem dX11_sizeOf_1 : decode cX11_sizeOf 1 = .ok (.ifCond .ge 8, 3) := by decide +kernel
theorem dX11_sizeOf_4 : decode cX11_sizeOf 4 = .ok (.iload_n 0, 1) := by decide +kernel
theorem dX11_sizeOf_5 : decode cX11_sizeOf 5 = .ok (.ineg, 1) := by decide +kernel
theorem dX11_sizeOf_6 : decode cX11_sizeOf 6 = .ok (.goto 4, 3) := by decide +kernel
theorem dX11_sizeOf_9 : decode cX11_sizeOf 9 = .ok (.iload_n 0, 1) := by decide +kernel
theorem dX11_sizeOf_10 : decode cX11_sizeOf 10 = .ok (.ireturn, 1) := by decide +kernel
theorem dX11_setting_0 : decode cX11_setting 0 = .ok (.aload_n 0, 1) := by decide +kernel
theorem dX11_setting_1 : decode cX11_setting 1 = .ok (.getfield 7, 3) := by decide +kernel
theorem dX11_setting_4 : decode cX11_setting 4 = .ok (.bipush 44, 2) := by decide +kernel
theorem dX11_setting_6 : decode cX11_setting 6 = .ok (.iload_n 1, 1) := by decide +kernel
theorem dX11_setting_7 : decode cX11_setting 7 = .ok (.iadd, 1) := by decide +kernel
theorem dX11_setting_8 : decode cX11_setting 8 = .ok (.iaload, 1) := by decide +kernel
theorem dX11_setting_9 : decode cX11_setting 9 = .ok (.ireturn, 1) := by decide +kernel
theorem dX11_at_0 : decode cX11_at 0 = .ok (.aload_n 0, 1) := by decide +kernel
theorem dX11_at_1 : decode cX11_at 1 = .ok (.getfield 7, 3) := by decide +kernel
theorem dX11_at_4 : decode cX11_at 4 = .ok (.iconst 4, 1) := by decide +kernel
theorem dX11_at_5 : decode cX11_at 5 = .ok (.iconst 4, 1) := by decide +kernel
theorem dX11_at_6 : decode cX11_at 6 = .ok (.iload_n 1, 1) := by decide +kernel
theorem dX11_at_7 : decode cX11_at 7 = .ok (.imul, 1) := by decide +kernel
theorem dX11_at_8 : decode cX11_at 8 = .ok (.iadd, 1) := by decide +kernel
theorem dX11_at_9 : decode cX11_at 9 = .ok (.iload_n 2, 1) := by decide +kernel
theorem dX11_at_10 : decode cX11_at 10 = .ok (.iadd, 1) := by decide +kernel
theorem dX11_at_11 : decode cX11_at 11 = .ok (.iaload, 1) := by decide +kernel
theorem dX11_at_12 : decode cX11_at 12 = .ok (.ireturn, 1) := by decide +kernel
theorem dX11_samples_0 : decode cX11_samples 0 = .ok (.aload_n 0, 1) := by decide +kernel
theorem dX11_samples_1 : decode cX11_samples 1 = .ok (.getfield 7, 3) := by decide +kernel
theorem dX11_samples_4 : decode cX11_samples 4 = .ok (.iconst 0, 1) := by decide +kernel
theorem dX11_samples_5 : decode cX11_samples 5 = .ok (.iaload, 1) := by decide +kernel
theorem dX11_samples_6 : decode cX11_samples 6 = .ok (.bipush 60, 2) := by decide +kernel
theorem dX11_samples_8 : decode cX11_samples 8 = .ok (.iadd, 1) := by decide +kernel
theorem dX11_samples_9 : decode cX11_samples 9 = .ok (.ireturn, 1) := by decide +kernel
theorem dX11_change_0 : decode cX11_change 0 = .ok (.aload_n 0, 1) := by decide +kernel
theorem dX11_change_1 : decode cX11_change 1 = .ok (.getfield 82, 3) := by decide +kernel
theorem dX11_change_4 : decode cX11_change 4 = .ok (.iconst 5, 1) := by decide +kernel
theorem dX11_change_5 : decode cX11_change 5 = .ok (.if_icmp .ne 44, 3) := by decide +kernel
theorem dX11_change_8 : decode cX11_change 8 = .ok (.iconst 0, 1) := by decide +kernel
theorem dX11_change_9 : decode cX11_change 9 = .ok (.istore_n 1, 1) := by decide +kernel
theorem dX11_change_10 : decode cX11_change 10 = .ok (.iload_n 1, 1) := by decide +kernel
theorem dX11_change_11 : decode cX11_change 11 = .ok (.sipush 5756, 3) := by decide +kernel
theorem dX11_change_14 : decode cX11_change 14 = .ok (.if_icmp .ge 25, 3) := by decide +kernel
theorem dX11_change_17 : decode cX11_change 17 = .ok (.aload_n 0, 1) := by decide +kernel
theorem dX11_change_18 : decode cX11_change 18 = .ok (.getfield 13, 3) := by decide +kernel
theorem dX11_change_21 : decode cX11_change 21 = .ok (.iload_n 1, 1) := by decide +kernel
theorem dX11_change_22 : decode cX11_change 22 = .ok (.aload_n 0, 1) := by decide +kernel
theorem dX11_change_23 : decode cX11_change 23 = .ok (.getfield 13, 3) := by decide +kernel
theorem dX11_change_26 : decode cX11_change 26 = .ok (.iload_n 1, 1) := by decide +kernel
theorem dX11_change_27 : decode cX11_change 27 = .ok (.sipush 1439, 3) := by decide +kernel
theorem dX11_change_30 : decode cX11_change 30 = .ok (.iadd, 1) := by decide +kernel
theorem dX11_change_31 : decode cX11_change 31 = .ok (.iaload, 1) := by decide +kernel
theorem dX11_change_32 : decode cX11_change 32 = .ok (.iastore, 1) := by decide +kernel
theorem dX11_change_33 : decode cX11_change 33 = .ok (.iinc 1 1, 3) := by decide +kernel
theorem dX11_change_36 : decode cX11_change 36 = .ok (.goto (-26), 3) := by decide +kernel
theorem dX11_change_39 : decode cX11_change 39 = .ok (.aload_n 0, 1) := by decide +kernel
theorem dX11_change_40 : decode cX11_change 40 = .ok (.dup, 1) := by decide +kernel
theorem dX11_change_41 : decode cX11_change 41 = .ok (.getfield 82, 3) := by decide +kernel
theorem dX11_change_44 : decode cX11_change 44 = .ok (.iconst 1, 1) := by decide +kernel
theorem dX11_change_45 : decode cX11_change 45 = .ok (.isub, 1) := by decide +kernel
theorem dX11_change_46 : decode cX11_change 46 = .ok (.putfield 82, 3) := by decide +kernel
theorem dX11_change_49 : decode cX11_change 49 = .ok (.iconst 0, 1) := by decide +kernel
theorem dX11_change_50 : decode cX11_change 50 = .ok (.istore_n 1, 1) := by decide +kernel
theorem dX11_change_51 : decode cX11_change 51 = .ok (.iload_n 1, 1) := by decide +kernel
theorem dX11_change_52 : decode cX11_change 52 = .ok (.sipush 1439, 3) := by decide +kernel
theorem dX11_change_55 : decode cX11_change 55 = .ok (.if_icmp .ge 30, 3) := by decide +kernel
theorem dX11_change_58 : decode cX11_change 58 = .ok (.aload_n 0, 1) := by decide +kernel
theorem dX11_change_59 : decode cX11_change 59 = .ok (.getfield 13, 3) := by decide +kernel
theorem dX11_change_62 : decode cX11_change 62 = .ok (.aload_n 0, 1) := by decide +kernel
theorem dX11_change_63 : decode cX11_change 63 = .ok (.getfield 82, 3) := by decide +kernel
theorem dX11_change_66 : decode cX11_change 66 = .ok (.sipush 1439, 3) := by decide +kernel
theorem dX11_change_69 : decode cX11_change 69 = .ok (.imul, 1) := by decide +kernel
theorem dX11_change_70 : decode cX11_change 70 = .ok (.iload_n 1, 1) := by decide +kernel
theorem dX11_change_71 : decode cX11_change 71 = .ok (.iadd, 1) := by decide +kernel
theorem dX11_change_72 : decode cX11_change 72 = .ok (.aload_n 0, 1) := by decide +kernel
theorem dX11_change_73 : decode cX11_change 73 = .ok (.getfield 7, 3) := by decide +kernel
theorem dX11_change_76 : decode cX11_change 76 = .ok (.iload_n 1, 1) := by decide +kernel
theorem dX11_change_77 : decode cX11_change 77 = .ok (.iaload, 1) := by decide +kernel
theorem dX11_change_78 : decode cX11_change 78 = .ok (.iastore, 1) := by decide +kernel
theorem dX11_change_79 : decode cX11_change 79 = .ok (.iinc 1 1, 3) := by decide +kernel
theorem dX11_change_82 : decode cX11_change 82 = .ok (.goto (-31), 3) := by decide +kernel
theorem dX11_change_85 : decode cX11_change 85 = .ok (.aload_n 0, 1) := by decide +kernel
theorem dX11_change_86 : decode cX11_change 86 = .ok (.dup, 1) := by decide +kernel
theorem dX11_change_87 : decode cX11_change 87 = .ok (.getfield 82, 3) := by decide +kernel
theorem dX11_change_90 : decode cX11_change 90 = .ok (.iconst 1, 1) := by decide +kernel
theorem dX11_change_91 : decode cX11_change 91 = .ok (.iadd, 1) := by decide +kernel
theorem dX11_change_92 : decode cX11_change 92 = .ok (.putfield 82, 3) := by decide +kernel
theorem dX11_change_95 : decode cX11_change 95 = .ok (.return_, 1) := by decide +kernel
theorem dX11_undo_0 : decode cX11_undo 0 = .ok (.aload_n 0, 1) := by decide +kernel
theorem dX11_undo_1 : decode cX11_undo 1 = .ok (.getfield 82, 3) := by decide +kernel
theorem dX11_undo_4 : decode cX11_undo 4 = .ok (.ifCond .ne 6, 3) := by decide +kernel
theorem dX11_undo_7 : decode cX11_undo 7 = .ok (.ldc 86, 2) := by decide +kernel
theorem dX11_undo_9 : decode cX11_undo 9 = .ok (.ireturn, 1) := by decide +kernel
theorem dX11_undo_10 : decode cX11_undo 10 = .ok (.aload_n 0, 1) := by decide +kernel
theorem dX11_undo_11 : decode cX11_undo 11 = .ok (.dup, 1) := by decide +kernel
theorem dX11_undo_12 : decode cX11_undo 12 = .ok (.getfield 82, 3) := by decide +kernel
theorem dX11_undo_15 : decode cX11_undo 15 = .ok (.iconst 1, 1) := by decide +kernel
theorem dX11_undo_16 : decode cX11_undo 16 = .ok (.isub, 1) := by decide +kernel
theorem dX11_undo_17 : decode cX11_undo 17 = .ok (.putfield 82, 3) := by decide +kernel
theorem dX11_undo_20 : decode cX11_undo 20 = .ok (.iconst 0, 1) := by decide +kernel
theorem dX11_undo_21 : decode cX11_undo 21 = .ok (.istore_n 1, 1) := by decide +kernel
theorem dX11_undo_22 : decode cX11_undo 22 = .ok (.iload_n 1, 1) := by decide +kernel
theorem dX11_undo_23 : decode cX11_undo 23 = .ok (.sipush 1439, 3) := by decide +kernel
theorem dX11_undo_26 : decode cX11_undo 26 = .ok (.if_icmp .ge 30, 3) := by decide +kernel
theorem dX11_undo_29 : decode cX11_undo 29 = .ok (.aload_n 0, 1) := by decide +kernel
theorem dX11_undo_30 : decode cX11_undo 30 = .ok (.getfield 7, 3) := by decide +kernel
theorem dX11_undo_33 : decode cX11_undo 33 = .ok (.iload_n 1, 1) := by decide +kernel
theorem dX11_undo_34 : decode cX11_undo 34 = .ok (.aload_n 0, 1) := by decide +kernel
theorem dX11_undo_35 : decode cX11_undo 35 = .ok (.getfield 13, 3) := by decide +kernel
theorem dX11_undo_38 : decode cX11_undo 38 = .ok (.aload_n 0, 1) := by decide +kernel
theorem dX11_undo_39 : decode cX11_undo 39 = .ok (.getfield 82, 3) := by decide +kernel
theorem dX11_undo_42 : decode cX11_undo 42 = .ok (.sipush 1439, 3) := by decide +kernel
theorem dX11_undo_45 : decode cX11_undo 45 = .ok (.imul, 1) := by decide +kernel
theorem dX11_undo_46 : decode cX11_undo 46 = .ok (.iload_n 1, 1) := by decide +kernel
theorem dX11_undo_47 : decode cX11_undo 47 = .ok (.iadd, 1) := by decide +kernel
theorem dX11_undo_48 : decode cX11_undo 48 = .ok (.iaload, 1) := by decide +kernel
theorem dX11_undo_49 : decode cX11_undo 49 = .ok (.iastore, 1) := by decide +kernel
theorem dX11_undo_50 : decode cX11_undo 50 = .ok (.iinc 1 1, 3) := by decide +kernel
theorem dX11_undo_53 : decode cX11_undo 53 = .ok (.goto (-31), 3) := by decide +kernel
theorem dX11_undo_56 : decode cX11_undo 56 = .ok (.aload_n 0, 1) := by decide +kernel
theorem dX11_undo_57 : decode cX11_undo 57 = .ok (.getfield 82, 3) := by decide +kernel
theorem dX11_undo_60 : decode cX11_undo 60 = .ok (.ireturn, 1) := by decide +kernel
theorem ggX11_type_X11_in : GoodIn wsX11_type wsX11_in := goodIn_sub (fun w h => (List.mem_cons.mp h).elim (fun e => ft_me e (List.mem_cons_of_mem _ (List.mem_append_left _ (List.mem_of_getElem? (i := 9) rfl)))) (fun h => absurd h List.not_mem_nil)) gw_wsX11_in
theorem gX11_type_X11_in : GoodIn wsX11_type (va_wsS RX11 91 yX11_in wsX11_in) := goodIn_app (goodIn_sub (List.forall_mem_cons.mpr ⟨(List.mem_cons_of_mem _ (List.mem_append_left _ (List.mem_of_getElem? (i := 6) rfl))), List.forall_mem_cons.mpr ⟨(List.mem_cons_of_mem _ (List.mem_append_left _ (List.mem_of_getElem? (i := 7) rfl))), List.forall_mem_cons.mpr ⟨(List.mem_cons_of_mem _ (List.mem_append_left _ (List.mem_of_getElem? (i := 8) rfl))), fun _ h => absurd h List.not_mem_nil⟩⟩⟩) (by decide +kernel)) ggX11_type_X11_in
theorem dX11_type_0 : decode cX11_type 0 = .ok (.iload_n 1, 1) := by decide +kernel
theorem dX11_type_1 : decode cX11_type 1 = .ok (.i2l, 1) := by decide +kernel
theorem dX11_type_2 : decode cX11_type 2 = .ok (.ldc2_w 87, 3) := by decide +kernel
theorem dX11_type_5 : decode cX11_type 5 = .ok (.ldc2_w 89, 3) := by decide +kernel
theorem dX11_type_8 : decode cX11_type 8 = .ok (.invokestatic 91, 3) := by decide +kernel
theorem dX11_type_11 : decode cX11_type 11 = .ok (.ifCond .ne 6, 3) := by decide +kernel
theorem dX11_type_14 : decode cX11_type 14 = .ok (.ldc 95, 2) := by decide +kernel
theorem dX11_type_16 : decode cX11_type 16 = .ok (.ireturn, 1) := by decide +kernel
theorem dX11_type_17 : decode cX11_type 17 = .ok (.aload_n 0, 1) := by decide +kernel
theorem dX11_type_18 : decode cX11_type 18 = .ok (.getfield 96, 3) := by decide +kernel
theorem dX11_type_21 : decode cX11_type 21 = .ok (.bipush 120, 2) := by decide +kernel
theorem dX11_type_23 : decode cX11_type 23 = .ok (.if_icmp .ne 6, 3) := by decide +kernel
theorem dX11_type_26 : decode cX11_type 26 = .ok (.ldc 99, 2) := by decide +kernel
theorem dX11_type_28 : decode cX11_type 28 = .ok (.ireturn, 1) := by decide +kernel
theorem dX11_type_29 : decode cX11_type 29 = .ok (.aload_n 0, 1) := by decide +kernel
theorem dX11_type_30 : decode cX11_type 30 = .ok (.getfield 16, 3) := by decide +kernel
theorem dX11_type_33 : decode cX11_type 33 = .ok (.aload_n 0, 1) := by decide +kernel
theorem dX11_type_34 : decode cX11_type 34 = .ok (.getfield 96, 3) := by decide +kernel
theorem dX11_type_37 : decode cX11_type 37 = .ok (.iload_n 1, 1) := by decide +kernel
theorem dX11_type_38 : decode cX11_type 38 = .ok (.iastore, 1) := by decide +kernel
theorem dX11_type_39 : decode cX11_type 39 = .ok (.aload_n 0, 1) := by decide +kernel
theorem dX11_type_40 : decode cX11_type 40 = .ok (.dup, 1) := by decide +kernel
theorem dX11_type_41 : decode cX11_type 41 = .ok (.getfield 96, 3) := by decide +kernel
theorem dX11_type_44 : decode cX11_type 44 = .ok (.iconst 1, 1) := by decide +kernel
theorem dX11_type_45 : decode cX11_type 45 = .ok (.iadd, 1) := by decide +kernel
theorem dX11_type_46 : decode cX11_type 46 = .ok (.putfield 96, 3) := by decide +kernel
theorem dX11_type_49 : decode cX11_type 49 = .ok (.aload_n 0, 1) := by decide +kernel
theorem dX11_type_50 : decode cX11_type 50 = .ok (.getfield 96, 3) := by decide +kernel
theorem dX11_type_53 : decode cX11_type 53 = .ok (.ireturn, 1) := by decide +kernel
theorem dX11_clearText_0 : decode cX11_clearText 0 = .ok (.aload_n 0, 1) := by decide +kernel
theorem dX11_clearText_1 : decode cX11_clearText 1 = .ok (.getfield 96, 3) := by decide +kernel
theorem dX11_clearText_4 : decode cX11_clearText 4 = .ok (.istore_n 1, 1) := by decide +kernel
theorem dX11_clearText_5 : decode cX11_clearText 5 = .ok (.aload_n 0, 1) := by decide +kernel
theorem dX11_clearText_6 : decode cX11_clearText 6 = .ok (.iconst 0, 1) := by decide +kernel
theorem dX11_clearText_7 : decode cX11_clearText 7 = .ok (.putfield 96, 3) := by decide +kernel
theorem dX11_clearText_10 : decode cX11_clearText 10 = .ok (.iload_n 1, 1) := by decide +kernel
theorem dX11_clearText_11 : decode cX11_clearText 11 = .ok (.ireturn, 1) := by decide +kernel
theorem dX11_wordSize_0 : decode cX11_wordSize 0 = .ok (.iload_n 0, 1) := by decide +kernel
theorem dX11_wordSize_1 : decode cX11_wordSize 1 = .ok (.ifCond .eq 13, 3) := by decide +kernel
theorem dX11_wordSize_4 : decode cX11_wordSize 4 = .ok (.iload_n 0, 1) := by decide +kernel
theorem dX11_wordSize_5 : decode cX11_wordSize 5 = .ok (.iconst 3, 1) := by decide +kernel
theorem dX11_wordSize_6 : decode cX11_wordSize 6 = .ok (.if_icmp .eq 8, 3) := by decide +kernel
theorem dX11_wordSize_9 : decode cX11_wordSize 9 = .ok (.iload_n 0, 1) := by decide +kernel
theorem dX11_wordSize_10 : decode cX11_wordSize 10 = .ok (.iconst 5, 1) := by decide +kernel
theorem dX11_wordSize_11 : decode cX11_wordSize 11 = .ok (.if_icmp .ne 8, 3) := by decide +kernel
theorem dX11_wordSize_14 : decode cX11_wordSize 14 = .ok (.bipush 6, 2) := by decide +kernel
theorem dX11_wordSize_16 : decode cX11_wordSize 16 = .ok (.goto 24, 3) := by decide +kernel
theorem dX11_wordSize_19 : decode cX11_wordSize 19 = .ok (.iload_n 0, 1) := by decide +kernel
theorem dX11_wordSize_20 : decode cX11_wordSize 20 = .ok (.iconst 1, 1) := by decide +kernel
theorem dX11_wordSize_21 : decode cX11_wordSize 21 = .ok (.if_icmp .ne 8, 3) := by decide +kernel
theorem dX11_wordSize_24 : decode cX11_wordSize 24 = .ok (.bipush 11, 2) := by decide +kernel
theorem dX11_wordSize_26 : decode cX11_wordSize 26 = .ok (.goto 14, 3) := by decide +kernel
theorem dX11_wordSize_29 : decode cX11_wordSize 29 = .ok (.iload_n 0, 1) := by decide +kernel
theorem dX11_wordSize_30 : decode cX11_wordSize 30 = .ok (.iconst 2, 1) := by decide +kernel
theorem dX11_wordSize_31 : decode cX11_wordSize 31 = .ok (.if_icmp .ne 7, 3) := by decide +kernel
theorem dX11_wordSize_34 : decode cX11_wordSize 34 = .ok (.iconst 3, 1) := by decide +kernel
theorem dX11_wordSize_35 : decode cX11_wordSize 35 = .ok (.goto 5, 3) := by decide +kernel
theorem dX11_wordSize_38 : decode cX11_wordSize 38 = .ok (.bipush 9, 2) := by decide +kernel
theorem dX11_wordSize_40 : decode cX11_wordSize 40 = .ok (.ireturn, 1) := by decide +kernel
theorem dX11_letterOf_0 : decode cX11_letterOf 0 = .ok (.bipush 100, 2) := by decide +kernel
theorem dX11_letterOf_2 : decode cX11_letterOf 2 = .ok (.iload_n 0, 1) := by decide +kernel
theorem dX11_letterOf_3 : decode cX11_letterOf 3 = .ok (.imul, 1) := by decide +kernel
theorem dX11_letterOf_4 : decode cX11_letterOf 4 = .ok (.iload_n 1, 1) := by decide +kernel
theorem dX11_letterOf_5 : decode cX11_letterOf 5 = .ok (.iadd, 1) := by decide +kernel
theorem dX11_letterOf_6 : decode cX11_letterOf 6 = .ok (.lookupswitch 372 #[(0, 330), (1, 333), (2, 336), (3, 339), (4, 342), (5, 345), (100, 348), (101, 342), (102, 342), (103, 333), (104, 336), (105, 351), (106, 348), (107, 342), (108, 354), (109, 357), (110, 336), (200, 333), (201, 336), (202, 360), (300, 363), (301, 366), (302, 330), (303, 354), (304, 369), (305, 333), (400, 369), (401, 357), (402, 336), (403, 336), (404, 333), (405, 369), (406, 342), (407, 357), (500, 369), (501, 345), (502, 348), (503, 336), (504, 339), (505, 333)], 330) := by decide +kernel
theorem dX11_letterOf_336 : decode cX11_letterOf 336 = .ok (.bipush 108, 2) := by decide +kernel
theorem dX11_letterOf_338 : decode cX11_letterOf 338 = .ok (.ireturn, 1) := by decide +kernel
theorem dX11_letterOf_339 : decode cX11_letterOf 339 = .ok (.bipush 101, 2) := by decide +kernel
theorem dX11_letterOf_341 : decode cX11_letterOf 341 = .ok (.ireturn, 1) := by decide +kernel
theorem dX11_letterOf_342 : decode cX11_letterOf 342 = .ok (.bipush 110, 2) := by decide +kernel
theorem dX11_letterOf_344 : decode cX11_letterOf 344 = .ok (.ireturn, 1) := by decide +kernel
theorem dX11_letterOf_345 : decode cX11_letterOf 345 = .ok (.bipush 103, 2) := by decide +kernel
theorem dX11_letterOf_347 : decode cX11_letterOf 347 = .ok (.ireturn, 1) := by decide +kernel
theorem dX11_letterOf_348 : decode cX11_letterOf 348 = .ok (.bipush 116, 2) := by decide +kernel
theorem dX11_letterOf_350 : decode cX11_letterOf 350 = .ok (.ireturn, 1) := by decide +kernel
theorem dX11_letterOf_351 : decode cX11_letterOf 351 = .ok (.bipush 104, 2) := by decide +kernel
theorem dX11_letterOf_353 : decode cX11_letterOf 353 = .ok (.ireturn, 1) := by decide +kernel
theorem dX11_letterOf_354 : decode cX11_letterOf 354 = .ok (.bipush 97, 2) := by decide +kernel
theorem dX11_letterOf_356 : decode cX11_letterOf 356 = .ok (.ireturn, 1) := by decide +kernel
theorem dX11_letterOf_357 : decode cX11_letterOf 357 = .ok (.bipush 117, 2) := by decide +kernel
theorem dX11_letterOf_359 : decode cX11_letterOf 359 = .ok (.ireturn, 1) := by decide +kernel
theorem dX11_letterOf_360 : decode cX11_letterOf 360 = .ok (.bipush 105, 2) := by decide +kernel
theorem dX11_letterOf_362 : decode cX11_letterOf 362 = .ok (.ireturn, 1) := by decide +kernel
theorem dX11_letterOf_363 : decode cX11_letterOf 363 = .ok (.bipush 111, 2) := by decide +kernel
theorem dX11_letterOf_365 : decode cX11_letterOf 365 = .ok (.ireturn, 1) := by decide +kernel
theorem dX11_letterOf_366 : decode cX11_letterOf 366 = .ok (.bipush 100, 2) := by decide +kernel
theorem dX11_letterOf_368 : decode cX11_letterOf 368 = .ok (.ireturn, 1) := by decide +kernel
theorem dX11_letterOf_369 : decode cX11_letterOf 369 = .ok (.bipush 115, 2) := by decide +kernel
theorem dX11_letterOf_371 : decode cX11_letterOf 371 = .ok (.ireturn, 1) := by decide +kernel
theorem dX11_letterOf_372 : decode cX11_letterOf 372 = .ok (.bipush 112, 2) := by decide +kernel
theorem dX11_letterOf_374 : decode cX11_letterOf 374 = .ok (.ireturn, 1) := by decide +kernel
theorem dX11_letterOf_375 : decode cX11_letterOf 375 = .ok (.bipush 99, 2) := by decide +kernel
theorem dX11_letterOf_377 : decode cX11_letterOf 377 = .ok (.ireturn, 1) := by decide +kernel
theorem dX11_letterOf_378 : decode cX11_letterOf 378 = .ok (.bipush 114, 2) := by decide +kernel
theorem dX11_letterOf_380 : decode cX11_letterOf 380 = .ok (.ireturn, 1) := by decide +kernel
theorem ggX11_readsWord_X11_in : GoodIn wsX11_readsWord wsX11_in := goodIn_sub (fun w h => (List.mem_cons.mp h).elim (fun e => ft_me e (List.mem_cons_of_mem _ (List.mem_append_left _ (List.mem_of_getElem? (i := 8) rfl)))) (fun h => absurd h List.not_mem_nil)) gw_wsX11_in
theorem gX11_readsWord_X11_in : GoodIn wsX11_readsWord (va_wsS RX11 91 yX11_in wsX11_in) := goodIn_app (goodIn_sub (List.forall_mem_cons.mpr ⟨(List.mem_cons_of_mem _ (List.mem_append_left _ (List.mem_of_getElem? (i := 5) rfl))), List.forall_mem_cons.mpr ⟨(List.mem_cons_of_mem _ (List.mem_append_left _ (List.mem_of_getElem? (i := 6) rfl))), List.forall_mem_cons.mpr ⟨(List.mem_cons_of_mem _ (List.mem_append_left _ (List.mem_of_getElem? (i := 7) rfl))), fun _ h => absurd h List.not_mem_nil⟩⟩⟩) (by decide +kernel)) ggX11_readsWord_X11_in
theorem ggX11_readsWord_X11_wordSize : GoodIn wsX11_readsWord wsX11_wordSize := goodIn_sub (fun w h => (List.mem_cons.mp h).elim (fun e => ft_me e (List.mem_cons_of_mem _ (List.mem_append_left _ (List.mem_of_getElem? (i := 11) rfl)))) (fun h => absurd h List.not_mem_nil)) gw_wsX11_wordSize
theorem gX11_readsWord_X11_wordSize : GoodIn wsX11_readsWord (va_wsS RX11 107 yX11_wordSize wsX11_wordSize) := goodIn_app (goodIn_sub (List.forall_mem_cons.mpr ⟨(List.mem_cons_of_mem _ (List.mem_append_left _ (List.mem_of_getElem? (i := 9) rfl))), List.forall_mem_cons.mpr ⟨(List.mem_cons_of_mem _ (List.mem_append_left _ (List.mem_of_getElem? (i := 10) rfl))), List.forall_mem_cons.mpr ⟨(List.mem_cons_of_mem _ (List.mem_append_left _ (List.mem_of_getElem? (i := 7) rfl))), fun _ h => absurd h List.not_mem_nil⟩⟩⟩) (by decide +kernel)) ggX11_readsWord_X11_wordSize
theorem ggX11_readsWord_X11_letterOf : GoodIn wsX11_readsWord wsX11_letterOf := goodIn_sub (fun w h => (List.mem_cons.mp h).elim (fun e => ft_me e (List.mem_cons_of_mem _ (List.mem_append_left _ (List.mem_of_getElem? (i := 14) rfl)))) (fun h => absurd h List.not_mem_nil)) gw_wsX11_letterOf
theorem gX11_readsWord_X11_letterOf : GoodIn wsX11_readsWord (va_wsS RX11 110 yX11_letterOf wsX11_letterOf) := goodIn_app (goodIn_sub (List.forall_mem_cons.mpr ⟨(List.mem_cons_of_mem _ (List.mem_append_left _ (List.mem_of_getElem? (i := 12) rfl))), List.forall_mem_cons.mpr ⟨(List.mem_cons_of_mem _ (List.mem_append_left _ (List.mem_of_getElem? (i := 13) rfl))), List.forall_mem_cons.mpr ⟨(List.mem_cons_of_mem _ (List.mem_append_left _ (List.mem_of_getElem? (i := 7) rfl))), fun _ h => absurd h List.not_mem_nil⟩⟩⟩) (by decide +kernel)) ggX11_readsWord_X11_letterOf
theorem dX11_readsWord_0 : decode cX11_readsWord 0 = .ok (.aload_n 0, 1) := by decide +kernel
theorem dX11_readsWord_1 : decode cX11_readsWord 1 = .ok (.getfield 100, 3) := by decide +kernel
theorem dX11_readsWord_4 : decode cX11_readsWord 4 = .ok (.istore_n 1, 1) := by decide +kernel
theorem dX11_readsWord_5 : decode cX11_readsWord 5 = .ok (.aload_n 0, 1) := by decide +kernel
theorem dX11_readsWord_6 : decode cX11_readsWord 6 = .ok (.getfield 100, 3) := by decide +kernel
theorem dX11_readsWord_9 : decode cX11_readsWord 9 = .ok (.aload_n 0, 1) := by decide +kernel
theorem dX11_readsWord_10 : decode cX11_readsWord 10 = .ok (.getfield 96, 3) := by decide +kernel
theorem dX11_readsWord_13 : decode cX11_readsWord 13 = .ok (.if_icmp .ge 38, 3) := by decide +kernel
theorem dX11_readsWord_16 : decode cX11_readsWord 16 = .ok (.aload_n 0, 1) := by decide +kernel
theorem dX11_readsWord_17 : decode cX11_readsWord 17 = .ok (.getfield 16, 3) := by decide +kernel
theorem dX11_readsWord_20 : decode cX11_readsWord 20 = .ok (.aload_n 0, 1) := by decide +kernel
theorem dX11_readsWord_21 : decode cX11_readsWord 21 = .ok (.getfield 100, 3) := by decide +kernel
theorem dX11_readsWord_24 : decode cX11_readsWord 24 = .ok (.iaload, 1) := by decide +kernel
theorem dX11_readsWord_25 : decode cX11_readsWord 25 = .ok (.i2l, 1) := by decide +kernel
theorem dX11_readsWord_26 : decode cX11_readsWord 26 = .ok (.ldc2_w 103, 3) := by decide +kernel
theorem dX11_readsWord_29 : decode cX11_readsWord 29 = .ok (.ldc2_w 105, 3) := by decide +kernel
theorem dX11_readsWord_32 : decode cX11_readsWord 32 = .ok (.invokestatic 91, 3) := by decide +kernel
theorem dX11_readsWord_35 : decode cX11_readsWord 35 = .ok (.ifCond .eq 16, 3) := by decide +kernel
theorem dX11_readsWord_38 : decode cX11_readsWord 38 = .ok (.aload_n 0, 1) := by decide +kernel
theorem dX11_readsWord_39 : decode cX11_readsWord 39 = .ok (.dup, 1) := by decide +kernel
theorem dX11_readsWord_40 : decode cX11_readsWord 40 = .ok (.getfield 100, 3) := by decide +kernel
theorem dX11_readsWord_43 : decode cX11_readsWord 43 = .ok (.iconst 1, 1) := by decide +kernel
theorem dX11_readsWord_44 : decode cX11_readsWord 44 = .ok (.iadd, 1) := by decide +kernel
theorem dX11_readsWord_45 : decode cX11_readsWord 45 = .ok (.putfield 100, 3) := by decide +kernel
theorem dX11_readsWord_48 : decode cX11_readsWord 48 = .ok (.goto (-43), 3) := by decide +kernel
theorem dX11_readsWord_51 : decode cX11_readsWord 51 = .ok (.iconst (-1), 1) := by decide +kernel
theorem dX11_readsWord_52 : decode cX11_readsWord 52 = .ok (.istore_n 2, 1) := by decide +kernel
theorem dX11_readsWord_53 : decode cX11_readsWord 53 = .ok (.iconst 0, 1) := by decide +kernel
theorem dX11_readsWord_54 : decode cX11_readsWord 54 = .ok (.istore_n 3, 1) := by decide +kernel
theorem dX11_readsWord_55 : decode cX11_readsWord 55 = .ok (.iload_n 3, 1) := by decide +kernel
theorem dX11_readsWord_56 : decode cX11_readsWord 56 = .ok (.bipush 6, 2) := by decide +kernel
theorem dX11_readsWord_58 : decode cX11_readsWord 58 = .ok (.if_icmp .ge 88, 3) := by decide +kernel
theorem dX11_readsWord_61 : decode cX11_readsWord 61 = .ok (.aload_n 0, 1) := by decide +kernel
theorem dX11_readsWord_62 : decode cX11_readsWord 62 = .ok (.getfield 100, 3) := by decide +kernel
theorem dX11_readsWord_65 : decode cX11_readsWord 65 = .ok (.iload_n 1, 1) := by decide +kernel
theorem dX11_readsWord_66 : decode cX11_readsWord 66 = .ok (.isub, 1) := by decide +kernel
theorem dX11_readsWord_67 : decode cX11_readsWord 67 = .ok (.iload_n 3, 1) := by decide +kernel
theorem dX11_readsWord_68 : decode cX11_readsWord 68 = .ok (.invokestatic 107, 3) := by decide +kernel
theorem dX11_readsWord_71 : decode cX11_readsWord 71 = .ok (.if_icmp .ne 7, 3) := by decide +kernel
theorem dX11_readsWord_74 : decode cX11_readsWord 74 = .ok (.iconst 1, 1) := by decide +kernel
theorem dX11_readsWord_75 : decode cX11_readsWord 75 = .ok (.goto 4, 3) := by decide +kernel
theorem dX11_readsWord_78 : decode cX11_readsWord 78 = .ok (.iconst 0, 1) := by decide +kernel
theorem dX11_readsWord_79 : decode cX11_readsWord 79 = .ok (.istore 4, 2) := by decide +kernel
theorem dX11_readsWord_81 : decode cX11_readsWord 81 = .ok (.iconst 0, 1) := by decide +kernel
theorem dX11_readsWord_82 : decode cX11_readsWord 82 = .ok (.istore 5, 2) := by decide +kernel
theorem dX11_readsWord_84 : decode cX11_readsWord 84 = .ok (.iload 5, 2) := by decide +kernel
theorem dX11_readsWord_86 : decode cX11_readsWord 86 = .ok (.iload_n 3, 1) := by decide +kernel
theorem dX11_readsWord_87 : decode cX11_readsWord 87 = .ok (.invokestatic 107, 3) := by decide +kernel
theorem dX11_readsWord_90 : decode cX11_readsWord 90 = .ok (.if_icmp .ge 39, 3) := by decide +kernel
theorem dX11_readsWord_93 : decode cX11_readsWord 93 = .ok (.iload 4, 2) := by decide +kernel
theorem dX11_readsWord_95 : decode cX11_readsWord 95 = .ok (.ifCond .eq 34, 3) := by decide +kernel
theorem dX11_readsWord_98 : decode cX11_readsWord 98 = .ok (.aload_n 0, 1) := by decide +kernel
theorem dX11_readsWord_99 : decode cX11_readsWord 99 = .ok (.getfield 16, 3) := by decide +kernel
theorem dX11_readsWord_102 : decode cX11_readsWord 102 = .ok (.iload_n 1, 1) := by decide +kernel
theorem dX11_readsWord_103 : decode cX11_readsWord 103 = .ok (.iload 5, 2) := by decide +kernel
theorem dX11_readsWord_105 : decode cX11_readsWord 105 = .ok (.iadd, 1) := by decide +kernel
theorem dX11_readsWord_106 : decode cX11_readsWord 106 = .ok (.iaload, 1) := by decide +kernel
theorem dX11_readsWord_107 : decode cX11_readsWord 107 = .ok (.iload_n 3, 1) := by decide +kernel
theorem dX11_readsWord_108 : decode cX11_readsWord 108 = .ok (.iload 5, 2) := by decide +kernel
theorem dX11_readsWord_110 : decode cX11_readsWord 110 = .ok (.invokestatic 110, 3) := by decide +kernel
theorem dX11_readsWord_113 : decode cX11_readsWord 113 = .ok (.if_icmp .ne 7, 3) := by decide +kernel
theorem dX11_readsWord_116 : decode cX11_readsWord 116 = .ok (.iconst 1, 1) := by decide +kernel
theorem dX11_readsWord_117 : decode cX11_readsWord 117 = .ok (.goto 4, 3) := by decide +kernel
theorem dX11_readsWord_120 : decode cX11_readsWord 120 = .ok (.iconst 0, 1) := by decide +kernel
theorem dX11_readsWord_121 : decode cX11_readsWord 121 = .ok (.istore 4, 2) := by decide +kernel
theorem dX11_readsWord_123 : decode cX11_readsWord 123 = .ok (.iinc 5 1, 3) := by decide +kernel
theorem dX11_readsWord_126 : decode cX11_readsWord 126 = .ok (.goto (-42), 3) := by decide +kernel
theorem dX11_readsWord_129 : decode cX11_readsWord 129 = .ok (.iload 4, 2) := by decide +kernel
theorem dX11_readsWord_131 : decode cX11_readsWord 131 = .ok (.ifCond .eq 7, 3) := by decide +kernel
theorem dX11_readsWord_134 : decode cX11_readsWord 134 = .ok (.iload_n 3, 1) := by decide +kernel
theorem dX11_readsWord_135 : decode cX11_readsWord 135 = .ok (.goto 4, 3) := by decide +kernel
theorem dX11_readsWord_138 : decode cX11_readsWord 138 = .ok (.iload_n 2, 1) := by decide +kernel
theorem dX11_readsWord_139 : decode cX11_readsWord 139 = .ok (.istore_n 2, 1) := by decide +kernel
theorem dX11_readsWord_140 : decode cX11_readsWord 140 = .ok (.iinc 3 1, 3) := by decide +kernel
theorem dX11_readsWord_143 : decode cX11_readsWord 143 = .ok (.goto (-88), 3) := by decide +kernel
theorem dX11_readsWord_146 : decode cX11_readsWord 146 = .ok (.iload_n 2, 1) := by decide +kernel
theorem dX11_readsWord_147 : decode cX11_readsWord 147 = .ok (.ireturn, 1) := by decide +kernel
theorem ggX11_readsNumber_X11_in : GoodIn wsX11_readsNumber wsX11_in := goodIn_sub (fun w h => (List.mem_cons.mp h).elim (fun e => ft_me e (List.mem_cons_of_mem _ (List.mem_append_left _ (List.mem_of_getElem? (i := 10) rfl)))) (fun h => absurd h List.not_mem_nil)) gw_wsX11_in
theorem gX11_readsNumber_X11_in : GoodIn wsX11_readsNumber (va_wsS RX11 91 yX11_in wsX11_in) := goodIn_app (goodIn_sub (List.forall_mem_cons.mpr ⟨(List.mem_cons_of_mem _ (List.mem_append_left _ (List.mem_of_getElem? (i := 7) rfl))), List.forall_mem_cons.mpr ⟨(List.mem_cons_of_mem _ (List.mem_append_left _ (List.mem_of_getElem? (i := 8) rfl))), List.forall_mem_cons.mpr ⟨(List.mem_cons_of_mem _ (List.mem_append_left _ (List.mem_of_getElem? (i := 9) rfl))), fun _ h => absurd h List.not_mem_nil⟩⟩⟩) (by decide +kernel)) ggX11_readsNumber_X11_in
theorem dX11_readsNumber_0 : decode cX11_readsNumber 0 = .ok (.aload_n 0, 1) := by decide +kernel
theorem dX11_readsNumber_1 : decode cX11_readsNumber 1 = .ok (.iconst 0, 1) := by decide +kernel
theorem dX11_readsNumber_2 : decode cX11_readsNumber 2 = .ok (.putfield 114, 3) := by decide +kernel
theorem dX11_readsNumber_5 : decode cX11_readsNumber 5 = .ok (.aload_n 0, 1) := by decide +kernel
theorem dX11_readsNumber_6 : decode cX11_readsNumber 6 = .ok (.getfield 100, 3) := by decide +kernel
theorem dX11_readsNumber_9 : decode cX11_readsNumber 9 = .ok (.aload_n 0, 1) := by decide +kernel
theorem dX11_readsNumber_10 : decode cX11_readsNumber 10 = .ok (.getfield 96, 3) := by decide +kernel
theorem dX11_readsNumber_13 : decode cX11_readsNumber 13 = .ok (.if_icmp .eq 17, 3) := by decide +kernel
theorem dX11_readsNumber_16 : decode cX11_readsNumber 16 = .ok (.aload_n 0, 1) := by decide +kernel
theorem dX11_readsNumber_17 : decode cX11_readsNumber 17 = .ok (.getfield 16, 3) := by decide +kernel
theorem dX11_readsNumber_20 : decode cX11_readsNumber 20 = .ok (.aload_n 0, 1) := by decide +kernel
theorem dX11_readsNumber_21 : decode cX11_readsNumber 21 = .ok (.getfield 100, 3) := by decide +kernel
theorem dX11_readsNumber_24 : decode cX11_readsNumber 24 = .ok (.iaload, 1) := by decide +kernel
theorem dX11_readsNumber_25 : decode cX11_readsNumber 25 = .ok (.bipush 32, 2) := by decide +kernel
theorem dX11_readsNumber_27 : decode cX11_readsNumber 27 = .ok (.if_icmp .eq 4, 3) := by decide +kernel
theorem dX11_readsNumber_30 : decode cX11_readsNumber 30 = .ok (.return_, 1) := by decide +kernel
theorem dX11_readsNumber_31 : decode cX11_readsNumber 31 = .ok (.aload_n 0, 1) := by decide +kernel
theorem dX11_readsNumber_32 : decode cX11_readsNumber 32 = .ok (.dup, 1) := by decide +kernel
theorem dX11_readsNumber_33 : decode cX11_readsNumber 33 = .ok (.getfield 100, 3) := by decide +kernel
theorem dX11_readsNumber_36 : decode cX11_readsNumber 36 = .ok (.iconst 1, 1) := by decide +kernel
theorem dX11_readsNumber_37 : decode cX11_readsNumber 37 = .ok (.iadd, 1) := by decide +kernel
theorem dX11_readsNumber_38 : decode cX11_readsNumber 38 = .ok (.putfield 100, 3) := by decide +kernel
theorem dX11_readsNumber_41 : decode cX11_readsNumber 41 = .ok (.iconst 1, 1) := by decide +kernel
theorem dX11_readsNumber_42 : decode cX11_readsNumber 42 = .ok (.istore_n 2, 1) := by decide +kernel
theorem dX11_readsNumber_43 : decode cX11_readsNumber 43 = .ok (.aload_n 0, 1) := by decide +kernel
theorem dX11_readsNumber_44 : decode cX11_readsNumber 44 = .ok (.getfield 100, 3) := by decide +kernel
theorem dX11_readsNumber_47 : decode cX11_readsNumber 47 = .ok (.aload_n 0, 1) := by decide +kernel
theorem dX11_readsNumber_48 : decode cX11_readsNumber 48 = .ok (.getfield 96, 3) := by decide +kernel
theorem dX11_readsNumber_51 : decode cX11_readsNumber 51 = .ok (.if_icmp .ge 29, 3) := by decide +kernel
theorem dX11_readsNumber_54 : decode cX11_readsNumber 54 = .ok (.aload_n 0, 1) := by decide +kernel
theorem dX11_readsNumber_55 : decode cX11_readsNumber 55 = .ok (.getfield 16, 3) := by decide +kernel
theorem dX11_readsNumber_58 : decode cX11_readsNumber 58 = .ok (.aload_n 0, 1) := by decide +kernel
theorem dX11_readsNumber_59 : decode cX11_readsNumber 59 = .ok (.getfield 100, 3) := by decide +kernel
theorem dX11_readsNumber_62 : decode cX11_readsNumber 62 = .ok (.iaload, 1) := by decide +kernel
theorem dX11_readsNumber_63 : decode cX11_readsNumber 63 = .ok (.bipush 45, 2) := by decide +kernel
theorem dX11_readsNumber_65 : decode cX11_readsNumber 65 = .ok (.if_icmp .ne 15, 3) := by decide +kernel
theorem dX11_readsNumber_68 : decode cX11_readsNumber 68 = .ok (.iconst (-1), 1) := by decide +kernel
theorem dX11_readsNumber_69 : decode cX11_readsNumber 69 = .ok (.istore_n 2, 1) := by decide +kernel
theorem dX11_readsNumber_70 : decode cX11_readsNumber 70 = .ok (.aload_n 0, 1) := by decide +kernel
theorem dX11_readsNumber_71 : decode cX11_readsNumber 71 = .ok (.dup, 1) := by decide +kernel
theorem dX11_readsNumber_72 : decode cX11_readsNumber 72 = .ok (.getfield 100, 3) := by decide +kernel
theorem dX11_readsNumber_75 : decode cX11_readsNumber 75 = .ok (.iconst 1, 1) := by decide +kernel
theorem dX11_readsNumber_76 : decode cX11_readsNumber 76 = .ok (.iadd, 1) := by decide +kernel
theorem dX11_readsNumber_77 : decode cX11_readsNumber 77 = .ok (.putfield 100, 3) := by decide +kernel
theorem dX11_readsNumber_80 : decode cX11_readsNumber 80 = .ok (.iconst 0, 1) := by decide +kernel
theorem dX11_readsNumber_81 : decode cX11_readsNumber 81 = .ok (.istore_n 3, 1) := by decide +kernel
theorem dX11_readsNumber_82 : decode cX11_readsNumber 82 = .ok (.iconst 0, 1) := by decide +kernel
theorem dX11_readsNumber_83 : decode cX11_readsNumber 83 = .ok (.istore 4, 2) := by decide +kernel
theorem dX11_readsNumber_85 : decode cX11_readsNumber 85 = .ok (.iload 4, 2) := by decide +kernel
theorem dX11_readsNumber_87 : decode cX11_readsNumber 87 = .ok (.iconst 5, 1) := by decide +kernel
theorem dX11_readsNumber_88 : decode cX11_readsNumber 88 = .ok (.if_icmp .ge 70, 3) := by decide +kernel
theorem dX11_readsNumber_91 : decode cX11_readsNumber 91 = .ok (.aload_n 0, 1) := by decide +kernel
theorem dX11_readsNumber_92 : decode cX11_readsNumber 92 = .ok (.getfield 100, 3) := by decide +kernel
theorem dX11_readsNumber_95 : decode cX11_readsNumber 95 = .ok (.aload_n 0, 1) := by decide +kernel
theorem dX11_readsNumber_96 : decode cX11_readsNumber 96 = .ok (.getfield 96, 3) := by decide +kernel
theorem dX11_readsNumber_99 : decode cX11_readsNumber 99 = .ok (.if_icmp .ge 59, 3) := by decide +kernel
theorem dX11_readsNumber_102 : decode cX11_readsNumber 102 = .ok (.aload_n 0, 1) := by decide +kernel
theorem dX11_readsNumber_103 : decode cX11_readsNumber 103 = .ok (.getfield 16, 3) := by decide +kernel
theorem dX11_readsNumber_106 : decode cX11_readsNumber 106 = .ok (.aload_n 0, 1) := by decide +kernel
theorem dX11_readsNumber_107 : decode cX11_readsNumber 107 = .ok (.getfield 100, 3) := by decide +kernel
theorem dX11_readsNumber_110 : decode cX11_readsNumber 110 = .ok (.iaload, 1) := by decide +kernel
theorem dX11_readsNumber_111 : decode cX11_readsNumber 111 = .ok (.i2l, 1) := by decide +kernel
theorem dX11_readsNumber_112 : decode cX11_readsNumber 112 = .ok (.ldc2_w 118, 3) := by decide +kernel
theorem dX11_readsNumber_115 : decode cX11_readsNumber 115 = .ok (.ldc2_w 120, 3) := by decide +kernel
theorem dX11_readsNumber_118 : decode cX11_readsNumber 118 = .ok (.invokestatic 91, 3) := by decide +kernel
theorem dX11_readsNumber_121 : decode cX11_readsNumber 121 = .ok (.ifCond .eq 37, 3) := by decide +kernel
theorem dX11_readsNumber_124 : decode cX11_readsNumber 124 = .ok (.bipush 10, 2) := by decide +kernel
theorem dX11_readsNumber_126 : decode cX11_readsNumber 126 = .ok (.iload_n 3, 1) := by decide +kernel
theorem dX11_readsNumber_127 : decode cX11_readsNumber 127 = .ok (.imul, 1) := by decide +kernel
theorem dX11_readsNumber_128 : decode cX11_readsNumber 128 = .ok (.aload_n 0, 1) := by decide +kernel
theorem dX11_readsNumber_129 : decode cX11_readsNumber 129 = .ok (.getfield 16, 3) := by decide +kernel
theorem dX11_readsNumber_132 : decode cX11_readsNumber 132 = .ok (.aload_n 0, 1) := by decide +kernel
theorem dX11_readsNumber_133 : decode cX11_readsNumber 133 = .ok (.getfield 100, 3) := by decide +kernel
theorem dX11_readsNumber_136 : decode cX11_readsNumber 136 = .ok (.iaload, 1) := by decide +kernel
theorem dX11_readsNumber_137 : decode cX11_readsNumber 137 = .ok (.iadd, 1) := by decide +kernel
theorem dX11_readsNumber_138 : decode cX11_readsNumber 138 = .ok (.bipush 48, 2) := by decide +kernel
theorem dX11_readsNumber_140 : decode cX11_readsNumber 140 = .ok (.isub, 1) := by decide +kernel
theorem dX11_readsNumber_141 : decode cX11_readsNumber 141 = .ok (.istore_n 3, 1) := by decide +kernel
theorem dX11_readsNumber_142 : decode cX11_readsNumber 142 = .ok (.aload_n 0, 1) := by decide +kernel
theorem dX11_readsNumber_143 : decode cX11_readsNumber 143 = .ok (.dup, 1) := by decide +kernel
theorem dX11_readsNumber_144 : decode cX11_readsNumber 144 = .ok (.getfield 100, 3) := by decide +kernel
theorem dX11_readsNumber_147 : decode cX11_readsNumber 147 = .ok (.iconst 1, 1) := by decide +kernel
theorem dX11_readsNumber_148 : decode cX11_readsNumber 148 = .ok (.iadd, 1) := by decide +kernel
theorem dX11_readsNumber_149 : decode cX11_readsNumber 149 = .ok (.putfield 100, 3) := by decide +kernel
theorem dX11_readsNumber_152 : decode cX11_readsNumber 152 = .ok (.iinc 4 1, 3) := by decide +kernel
theorem dX11_readsNumber_155 : decode cX11_readsNumber 155 = .ok (.goto (-70), 3) := by decide +kernel
theorem dX11_readsNumber_158 : decode cX11_readsNumber 158 = .ok (.aload_n 0, 1) := by decide +kernel
theorem dX11_readsNumber_159 : decode cX11_readsNumber 159 = .ok (.getfield 22, 3) := by decide +kernel
theorem dX11_readsNumber_162 : decode cX11_readsNumber 162 = .ok (.iload_n 1, 1) := by decide +kernel
theorem dX11_readsNumber_163 : decode cX11_readsNumber 163 = .ok (.iload_n 2, 1) := by decide +kernel
theorem dX11_readsNumber_164 : decode cX11_readsNumber 164 = .ok (.iload_n 3, 1) := by decide +kernel
theorem dX11_readsNumber_165 : decode cX11_readsNumber 165 = .ok (.imul, 1) := by decide +kernel
theorem dX11_readsNumber_166 : decode cX11_readsNumber 166 = .ok (.iastore, 1) := by decide +kernel
theorem dX11_readsNumber_167 : decode cX11_readsNumber 167 = .ok (.aload_n 0, 1) := by decide +kernel
theorem dX11_readsNumber_168 : decode cX11_readsNumber 168 = .ok (.iload 4, 2) := by decide +kernel
theorem dX11_readsNumber_170 : decode cX11_readsNumber 170 = .ok (.ifCond .le 7, 3) := by decide +kernel
theorem dX11_readsNumber_173 : decode cX11_readsNumber 173 = .ok (.iconst 1, 1) := by decide +kernel
theorem dX11_readsNumber_174 : decode cX11_readsNumber 174 = .ok (.goto 4, 3) := by decide +kernel
theorem dX11_readsNumber_177 : decode cX11_readsNumber 177 = .ok (.iconst 0, 1) := by decide +kernel
theorem dX11_readsNumber_178 : decode cX11_readsNumber 178 = .ok (.putfield 114, 3) := by decide +kernel
theorem dX11_readsNumber_181 : decode cX11_readsNumber 181 = .ok (.return_, 1) := by decide +kernel
theorem dX11_numbersOf_0 : decode cX11_numbersOf 0 = .ok (.iload_n 0, 1) := by decide +kernel
theorem dX11_numbersOf_1 : decode cX11_numbersOf 1 = .ok (.iconst 3, 1) := by decide +kernel
theorem dX11_numbersOf_2 : decode cX11_numbersOf 2 = .ok (.if_icmp .ge 7, 3) := by decide +kernel
theorem dX11_numbersOf_5 : decode cX11_numbersOf 5 = .ok (.iconst 1, 1) := by decide +kernel
theorem dX11_numbersOf_6 : decode cX11_numbersOf 6 = .ok (.goto 13, 3) := by decide +kernel
theorem dX11_numbersOf_9 : decode cX11_numbersOf 9 = .ok (.iload_n 0, 1) := by decide +kernel
theorem dX11_numbersOf_10 : decode cX11_numbersOf 10 = .ok (.iconst 4, 1) := by decide +kernel
theorem dX11_numbersOf_11 : decode cX11_numbersOf 11 = .ok (.if_icmp .ne 7, 3) := by decide +kernel
theorem dX11_numbersOf_14 : decode cX11_numbersOf 14 = .ok (.iconst 3, 1) := by decide +kernel
theorem dX11_numbersOf_15 : decode cX11_numbersOf 15 = .ok (.goto 4, 3) := by decide +kernel
theorem dX11_numbersOf_18 : decode cX11_numbersOf 18 = .ok (.iconst 2, 1) := by decide +kernel
theorem dX11_numbersOf_19 : decode cX11_numbersOf 19 = .ok (.ireturn, 1) := by decide +kernel
theorem ggX11_isRight_X11_in : GoodIn wsX11_isRight wsX11_in := goodIn_sub (fun w h => (List.mem_cons.mp h).elim (fun e => ft_me e (List.mem_cons_of_mem _ (List.mem_append_left _ (List.mem_of_getElem? (i := 10) rfl)))) (fun h => absurd h List.not_mem_nil)) gw_wsX11_in
theorem gX11_isRight_X11_in : GoodIn wsX11_isRight (va_wsS RX11 91 yX11_in wsX11_in) := goodIn_app (goodIn_sub (List.forall_mem_cons.mpr ⟨(List.mem_cons_of_mem _ (List.mem_append_left _ (List.mem_of_getElem? (i := 7) rfl))), List.forall_mem_cons.mpr ⟨(List.mem_cons_of_mem _ (List.mem_append_left _ (List.mem_of_getElem? (i := 8) rfl))), List.forall_mem_cons.mpr ⟨(List.mem_cons_of_mem _ (List.mem_append_left _ (List.mem_of_getElem? (i := 9) rfl))), fun _ h => absurd h List.not_mem_nil⟩⟩⟩) (by decide +kernel)) ggX11_isRight_X11_in
theorem dX11_isRight_0 : decode cX11_isRight 0 = .ok (.aload_n 0, 1) := by decide +kernel
theorem dX11_isRight_1 : decode cX11_isRight 1 = .ok (.getfield 22, 3) := by decide +kernel
theorem dX11_isRight_4 : decode cX11_isRight 4 = .ok (.iload_n 2, 1) := by decide +kernel
theorem dX11_isRight_5 : decode cX11_isRight 5 = .ok (.iaload, 1) := by decide +kernel
theorem dX11_isRight_6 : decode cX11_isRight 6 = .ok (.istore_n 3, 1) := by decide +kernel
theorem dX11_isRight_7 : decode cX11_isRight 7 = .ok (.iload_n 1, 1) := by decide +kernel
theorem dX11_isRight_8 : decode cX11_isRight 8 = .ok (.ifCond .ne 15, 3) := by decide +kernel
theorem dX11_isRight_11 : decode cX11_isRight 11 = .ok (.iload_n 3, 1) := by decide +kernel
theorem dX11_isRight_12 : decode cX11_isRight 12 = .ok (.i2l, 1) := by decide +kernel
theorem dX11_isRight_13 : decode cX11_isRight 13 = .ok (.ldc2_w 122, 3) := by decide +kernel
theorem dX11_isRight_16 : decode cX11_isRight 16 = .ok (.ldc2_w 124, 3) := by decide +kernel
theorem dX11_isRight_19 : decode cX11_isRight 19 = .ok (.invokestatic 91, 3) := by decide +kernel
theorem dX11_isRight_22 : decode cX11_isRight 22 = .ok (.ireturn, 1) := by decide +kernel
theorem dX11_isRight_23 : decode cX11_isRight 23 = .ok (.iload_n 1, 1) := by decide +kernel
theorem dX11_isRight_24 : decode cX11_isRight 24 = .ok (.iconst 1, 1) := by decide +kernel
theorem dX11_isRight_25 : decode cX11_isRight 25 = .ok (.if_icmp .ne 13, 3) := by decide +kernel
theorem dX11_isRight_28 : decode cX11_isRight 28 = .ok (.iload_n 3, 1) := by decide +kernel
theorem dX11_isRight_29 : decode cX11_isRight 29 = .ok (.i2l, 1) := by decide +kernel
theorem dX11_isRight_30 : decode cX11_isRight 30 = .ok (.lconst 0, 1) := by decide +kernel
theorem dX11_isRight_31 : decode cX11_isRight 31 = .ok (.ldc2_w 122, 3) := by decide +kernel
theorem dX11_isRight_34 : decode cX11_isRight 34 = .ok (.invokestatic 91, 3) := by decide +kernel
theorem dX11_isRight_37 : decode cX11_isRight 37 = .ok (.ireturn, 1) := by decide +kernel
theorem dX11_isRight_38 : decode cX11_isRight 38 = .ok (.iload_n 1, 1) := by decide +kernel
theorem dX11_isRight_39 : decode cX11_isRight 39 = .ok (.iconst 2, 1) := by decide +kernel
theorem dX11_isRight_40 : decode cX11_isRight 40 = .ok (.if_icmp .ne 13, 3) := by decide +kernel
theorem dX11_isRight_43 : decode cX11_isRight 43 = .ok (.iload_n 3, 1) := by decide +kernel
theorem dX11_isRight_44 : decode cX11_isRight 44 = .ok (.i2l, 1) := by decide +kernel
theorem dX11_isRight_45 : decode cX11_isRight 45 = .ok (.lconst 0, 1) := by decide +kernel
theorem dX11_isRight_46 : decode cX11_isRight 46 = .ok (.ldc2_w 126, 3) := by decide +kernel
theorem dX11_isRight_49 : decode cX11_isRight 49 = .ok (.invokestatic 91, 3) := by decide +kernel
theorem dX11_isRight_52 : decode cX11_isRight 52 = .ok (.ireturn, 1) := by decide +kernel
theorem dX11_isRight_53 : decode cX11_isRight 53 = .ok (.iload_n 2, 1) := by decide +kernel
theorem dX11_isRight_54 : decode cX11_isRight 54 = .ok (.ifCond .ne 21, 3) := by decide +kernel
theorem dX11_isRight_57 : decode cX11_isRight 57 = .ok (.iload_n 3, 1) := by decide +kernel
theorem dX11_isRight_58 : decode cX11_isRight 58 = .ok (.i2l, 1) := by decide +kernel
theorem dX11_isRight_59 : decode cX11_isRight 59 = .ok (.lconst 1, 1) := by decide +kernel
theorem dX11_isRight_60 : decode cX11_isRight 60 = .ok (.aload_n 0, 1) := by decide +kernel
theorem dX11_isRight_61 : decode cX11_isRight 61 = .ok (.getfield 19, 3) := by decide +kernel
theorem dX11_isRight_64 : decode cX11_isRight 64 = .ok (.iconst 0, 1) := by decide +kernel
theorem dX11_isRight_65 : decode cX11_isRight 65 = .ok (.iaload, 1) := by decide +kernel
theorem dX11_isRight_66 : decode cX11_isRight 66 = .ok (.iconst 1, 1) := by decide +kernel
theorem dX11_isRight_67 : decode cX11_isRight 67 = .ok (.isub, 1) := by decide +kernel
theorem dX11_isRight_68 : decode cX11_isRight 68 = .ok (.i2l, 1) := by decide +kernel
theorem dX11_isRight_69 : decode cX11_isRight 69 = .ok (.invokestatic 91, 3) := by decide +kernel
theorem dX11_isRight_72 : decode cX11_isRight 72 = .ok (.goto 59, 3) := by decide +kernel
theorem dX11_isRight_75 : decode cX11_isRight 75 = .ok (.iload_n 2, 1) := by decide +kernel
theorem dX11_isRight_76 : decode cX11_isRight 76 = .ok (.iconst 2, 1) := by decide +kernel
theorem dX11_isRight_77 : decode cX11_isRight 77 = .ok (.if_icmp .ne 15, 3) := by decide +kernel
theorem dX11_isRight_80 : decode cX11_isRight 80 = .ok (.iload_n 3, 1) := by decide +kernel
theorem dX11_isRight_81 : decode cX11_isRight 81 = .ok (.i2l, 1) := by decide +kernel
theorem dX11_isRight_82 : decode cX11_isRight 82 = .ok (.lconst 1, 1) := by decide +kernel
theorem dX11_isRight_83 : decode cX11_isRight 83 = .ok (.ldc2_w 126, 3) := by decide +kernel
theorem dX11_isRight_86 : decode cX11_isRight 86 = .ok (.invokestatic 91, 3) := by decide +kernel
theorem dX11_isRight_89 : decode cX11_isRight 89 = .ok (.goto 42, 3) := by decide +kernel
theorem dX11_isRight_92 : decode cX11_isRight 92 = .ok (.iload_n 1, 1) := by decide +kernel
theorem dX11_isRight_93 : decode cX11_isRight 93 = .ok (.iconst 3, 1) := by decide +kernel
theorem dX11_isRight_94 : decode cX11_isRight 94 = .ok (.if_icmp .ne 17, 3) := by decide +kernel
theorem dX11_isRight_97 : decode cX11_isRight 97 = .ok (.iload_n 3, 1) := by decide +kernel
theorem dX11_isRight_98 : decode cX11_isRight 98 = .ok (.i2l, 1) := by decide +kernel
theorem dX11_isRight_99 : decode cX11_isRight 99 = .ok (.ldc2_w 128, 3) := by decide +kernel
theorem dX11_isRight_102 : decode cX11_isRight 102 = .ok (.ldc2_w 130, 3) := by decide +kernel
theorem dX11_isRight_105 : decode cX11_isRight 105 = .ok (.invokestatic 91, 3) := by decide +kernel
theorem dX11_isRight_108 : decode cX11_isRight 108 = .ok (.goto 23, 3) := by decide +kernel
theorem dX11_isRight_111 : decode cX11_isRight 111 = .ok (.iload_n 3, 1) := by decide +kernel
theorem dX11_isRight_112 : decode cX11_isRight 112 = .ok (.i2l, 1) := by decide +kernel
theorem dX11_isRight_113 : decode cX11_isRight 113 = .ok (.lconst 0, 1) := by decide +kernel
theorem dX11_isRight_114 : decode cX11_isRight 114 = .ok (.iload_n 1, 1) := by decide +kernel
theorem dX11_isRight_115 : decode cX11_isRight 115 = .ok (.iconst 4, 1) := by decide +kernel
theorem dX11_isRight_116 : decode cX11_isRight 116 = .ok (.if_icmp .ne 9, 3) := by decide +kernel
theorem dX11_isRight_119 : decode cX11_isRight 119 = .ok (.ldc2_w 130, 3) := by decide +kernel
theorem dX11_isRight_122 : decode cX11_isRight 122 = .ok (.goto 6, 3) := by decide +kernel
theorem dX11_isRight_125 : decode cX11_isRight 125 = .ok (.ldc2_w 122, 3) := by decide +kernel
theorem dX11_isRight_128 : decode cX11_isRight 128 = .ok (.invokestatic 91, 3) := by decide +kernel
theorem dX11_isRight_131 : decode cX11_isRight 131 = .ok (.ireturn, 1) := by decide +kernel
theorem dX11_hasMadePlace_0 : decode cX11_hasMadePlace 0 = .ok (.iconst 0, 1) := by decide +kernel
theorem dX11_hasMadePlace_1 : decode cX11_hasMadePlace 1 = .ok (.istore_n 2, 1) := by decide +kernel
theorem dX11_hasMadePlace_2 : decode cX11_hasMadePlace 2 = .ok (.iconst 0, 1) := by decide +kernel
theorem dX11_hasMadePlace_3 : decode cX11_hasMadePlace 3 = .ok (.istore_n 3, 1) := by decide +kernel
theorem dX11_hasMadePlace_4 : decode cX11_hasMadePlace 4 = .ok (.iload_n 3, 1) := by decide +kernel
theorem dX11_hasMadePlace_5 : decode cX11_hasMadePlace 5 = .ok (.aload_n 0, 1) := by decide +kernel
theorem dX11_hasMadePlace_6 : decode cX11_hasMadePlace 6 = .ok (.getfield 19, 3) := by decide +kernel
theorem dX11_hasMadePlace_9 : decode cX11_hasMadePlace 9 = .ok (.iconst 3, 1) := by decide +kernel
theorem dX11_hasMadePlace_10 : decode cX11_hasMadePlace 10 = .ok (.iaload, 1) := by decide +kernel
theorem dX11_hasMadePlace_11 : decode cX11_hasMadePlace 11 = .ok (.if_icmp .ge 35, 3) := by decide +kernel
theorem dX11_hasMadePlace_14 : decode cX11_hasMadePlace 14 = .ok (.iload_n 2, 1) := by decide +kernel
theorem dX11_hasMadePlace_15 : decode cX11_hasMadePlace 15 = .ok (.ifCond .ne 19, 3) := by decide +kernel
theorem dX11_hasMadePlace_18 : decode cX11_hasMadePlace 18 = .ok (.aload_n 0, 1) := by decide +kernel
theorem dX11_hasMadePlace_19 : decode cX11_hasMadePlace 19 = .ok (.getfield 19, 3) := by decide +kernel
theorem dX11_hasMadePlace_22 : decode cX11_hasMadePlace 22 = .ok (.iconst 4, 1) := by decide +kernel
theorem dX11_hasMadePlace_23 : decode cX11_hasMadePlace 23 = .ok (.iconst 4, 1) := by decide +kernel
theorem dX11_hasMadePlace_24 : decode cX11_hasMadePlace 24 = .ok (.iload_n 3, 1) := by decide +kernel
theorem dX11_hasMadePlace_25 : decode cX11_hasMadePlace 25 = .ok (.imul, 1) := by decide +kernel
theorem dX11_hasMadePlace_26 : decode cX11_hasMadePlace 26 = .ok (.iadd, 1) := by decide +kernel
theorem dX11_hasMadePlace_27 : decode cX11_hasMadePlace 27 = .ok (.iconst 1, 1) := by decide +kernel
theorem dX11_hasMadePlace_28 : decode cX11_hasMadePlace 28 = .ok (.iadd, 1) := by decide +kernel
theorem dX11_hasMadePlace_29 : decode cX11_hasMadePlace 29 = .ok (.iaload, 1) := by decide +kernel
theorem dX11_hasMadePlace_30 : decode cX11_hasMadePlace 30 = .ok (.iload_n 1, 1) := by decide +kernel
theorem dX11_hasMadePlace_31 : decode cX11_hasMadePlace 31 = .ok (.if_icmp .ne 7, 3) := by decide +kernel
theorem dX11_hasMadePlace_34 : decode cX11_hasMadePlace 34 = .ok (.iconst 1, 1) := by decide +kernel
theorem dX11_hasMadePlace_35 : decode cX11_hasMadePlace 35 = .ok (.goto 4, 3) := by decide +kernel
theorem dX11_hasMadePlace_38 : decode cX11_hasMadePlace 38 = .ok (.iconst 0, 1) := by decide +kernel
theorem dX11_hasMadePlace_39 : decode cX11_hasMadePlace 39 = .ok (.istore_n 2, 1) := by decide +kernel
theorem dX11_hasMadePlace_40 : decode cX11_hasMadePlace 40 = .ok (.iinc 3 1, 3) := by decide +kernel
theorem dX11_hasMadePlace_43 : decode cX11_hasMadePlace 43 = .ok (.goto (-39), 3) := by decide +kernel
theorem dX11_hasMadePlace_46 : decode cX11_hasMadePlace 46 = .ok (.iload_n 2, 1) := by decide +kernel
theorem dX11_hasMadePlace_47 : decode cX11_hasMadePlace 47 = .ok (.ireturn, 1) := by decide +kernel
theorem dX11_comes_0 : decode cX11_comes 0 = .ok (.aload_n 0, 1) := by decide +kernel
theorem dX11_comes_1 : decode cX11_comes 1 = .ok (.iconst 3, 1) := by decide +kernel
theorem dX11_comes_2 : decode cX11_comes 2 = .ok (.iaload, 1) := by decide +kernel
theorem dX11_comes_3 : decode cX11_comes 3 = .ok (.istore 5, 2) := by decide +kernel
theorem dX11_comes_5 : decode cX11_comes 5 = .ok (.iload 5, 2) := by decide +kernel
theorem dX11_comes_7 : decode cX11_comes 7 = .ok (.ifCond .le 64, 3) := by decide +kernel
theorem dX11_comes_10 : decode cX11_comes 10 = .ok (.aload_n 0, 1) := by decide +kernel
theorem dX11_comes_11 : decode cX11_comes 11 = .ok (.iconst 4, 1) := by decide +kernel
theorem dX11_comes_12 : decode cX11_comes 12 = .ok (.iconst 4, 1) := by decide +kernel
theorem dX11_comes_13 : decode cX11_comes 13 = .ok (.iload 5, 2) := by decide +kernel
theorem dX11_comes_15 : decode cX11_comes 15 = .ok (.iconst 1, 1) := by decide +kernel
theorem dX11_comes_16 : decode cX11_comes 16 = .ok (.isub, 1) := by decide +kernel
theorem dX11_comes_17 : decode cX11_comes 17 = .ok (.imul, 1) := by decide +kernel
theorem dX11_comes_18 : decode cX11_comes 18 = .ok (.iadd, 1) := by decide +kernel
theorem dX11_comes_19 : decode cX11_comes 19 = .ok (.iconst 1, 1) := by decide +kernel
theorem dX11_comes_20 : decode cX11_comes 20 = .ok (.iadd, 1) := by decide +kernel
theorem dX11_comes_21 : decode cX11_comes 21 = .ok (.iaload, 1) := by decide +kernel
theorem dX11_comes_22 : decode cX11_comes 22 = .ok (.iload_n 2, 1) := by decide +kernel
theorem dX11_comes_23 : decode cX11_comes 23 = .ok (.if_icmp .le 48, 3) := by decide +kernel
theorem dX11_comes_26 : decode cX11_comes 26 = .ok (.iconst 0, 1) := by decide +kernel
theorem dX11_comes_27 : decode cX11_comes 27 = .ok (.istore 6, 2) := by decide +kernel
theorem dX11_comes_29 : decode cX11_comes 29 = .ok (.iload 6, 2) := by decide +kernel
theorem dX11_comes_31 : decode cX11_comes 31 = .ok (.iconst 4, 1) := by decide +kernel
theorem dX11_comes_32 : decode cX11_comes 32 = .ok (.if_icmp .ge 33, 3) := by decide +kernel
theorem dX11_comes_35 : decode cX11_comes 35 = .ok (.aload_n 0, 1) := by decide +kernel
theorem dX11_comes_36 : decode cX11_comes 36 = .ok (.iconst 4, 1) := by decide +kernel
theorem dX11_comes_37 : decode cX11_comes 37 = .ok (.iconst 4, 1) := by decide +kernel
theorem dX11_comes_38 : decode cX11_comes 38 = .ok (.iload 5, 2) := by decide +kernel
theorem dX11_comes_40 : decode cX11_comes 40 = .ok (.imul, 1) := by decide +kernel
theorem dX11_comes_41 : decode cX11_comes 41 = .ok (.iadd, 1) := by decide +kernel
theorem dX11_comes_42 : decode cX11_comes 42 = .ok (.iload 6, 2) := by decide +kernel
theorem dX11_comes_44 : decode cX11_comes 44 = .ok (.iadd, 1) := by decide +kernel
theorem dX11_comes_45 : decode cX11_comes 45 = .ok (.aload_n 0, 1) := by decide +kernel
theorem dX11_comes_46 : decode cX11_comes 46 = .ok (.iconst 4, 1) := by decide +kernel
theorem dX11_comes_47 : decode cX11_comes 47 = .ok (.iconst 4, 1) := by decide +kernel
theorem dX11_comes_48 : decode cX11_comes 48 = .ok (.iload 5, 2) := by decide +kernel
theorem dX11_comes_50 : decode cX11_comes 50 = .ok (.iconst 1, 1) := by decide +kernel
theorem dX11_comes_51 : decode cX11_comes 51 = .ok (.isub, 1) := by decide +kernel
theorem dX11_comes_52 : decode cX11_comes 52 = .ok (.imul, 1) := by decide +kernel
theorem dX11_comes_53 : decode cX11_comes 53 = .ok (.iadd, 1) := by decide +kernel
theorem dX11_comes_54 : decode cX11_comes 54 = .ok (.iload 6, 2) := by decide +kernel
theorem dX11_comes_56 : decode cX11_comes 56 = .ok (.iadd, 1) := by decide +kernel
theorem dX11_comes_57 : decode cX11_comes 57 = .ok (.iaload, 1) := by decide +kernel
theorem dX11_comes_58 : decode cX11_comes 58 = .ok (.iastore, 1) := by decide +kernel
theorem dX11_comes_59 : decode cX11_comes 59 = .ok (.iinc 6 1, 3) := by decide +kernel
theorem dX11_comes_62 : decode cX11_comes 62 = .ok (.goto (-33), 3) := by decide +kernel
theorem dX11_comes_65 : decode cX11_comes 65 = .ok (.iinc 5 (-1), 3) := by decide +kernel
theorem dX11_comes_68 : decode cX11_comes 68 = .ok (.goto (-63), 3) := by decide +kernel
theorem dX11_comes_71 : decode cX11_comes 71 = .ok (.aload_n 0, 1) := by decide +kernel
theorem dX11_comes_72 : decode cX11_comes 72 = .ok (.iconst 4, 1) := by decide +kernel
theorem dX11_comes_73 : decode cX11_comes 73 = .ok (.iconst 4, 1) := by decide +kernel
theorem dX11_comes_74 : decode cX11_comes 74 = .ok (.iload 5, 2) := by decide +kernel
theorem dX11_comes_76 : decode cX11_comes 76 = .ok (.imul, 1) := by decide +kernel
theorem dX11_comes_77 : decode cX11_comes 77 = .ok (.iadd, 1) := by decide +kernel
theorem dX11_comes_78 : decode cX11_comes 78 = .ok (.iconst 0, 1) := by decide +kernel
theorem dX11_comes_79 : decode cX11_comes 79 = .ok (.iadd, 1) := by decide +kernel
theorem dX11_comes_80 : decode cX11_comes 80 = .ok (.iload_n 1, 1) := by decide +kernel
theorem dX11_comes_81 : decode cX11_comes 81 = .ok (.iastore, 1) := by decide +kernel
theorem dX11_comes_82 : decode cX11_comes 82 = .ok (.aload_n 0, 1) := by decide +kernel
theorem dX11_comes_83 : decode cX11_comes 83 = .ok (.iconst 4, 1) := by decide +kernel
theorem dX11_comes_84 : decode cX11_comes 84 = .ok (.iconst 4, 1) := by decide +kernel
theorem dX11_comes_85 : decode cX11_comes 85 = .ok (.iload 5, 2) := by decide +kernel
theorem dX11_comes_87 : decode cX11_comes 87 = .ok (.imul, 1) := by decide +kernel
theorem dX11_comes_88 : decode cX11_comes 88 = .ok (.iadd, 1) := by decide +kernel
theorem dX11_comes_89 : decode cX11_comes 89 = .ok (.iconst 1, 1) := by decide +kernel
theorem dX11_comes_90 : decode cX11_comes 90 = .ok (.iadd, 1) := by decide +kernel
theorem dX11_comes_91 : decode cX11_comes 91 = .ok (.iload_n 2, 1) := by decide +kernel
theorem dX11_comes_92 : decode cX11_comes 92 = .ok (.iastore, 1) := by decide +kernel
theorem dX11_comes_93 : decode cX11_comes 93 = .ok (.aload_n 0, 1) := by decide +kernel
theorem dX11_comes_94 : decode cX11_comes 94 = .ok (.iconst 4, 1) := by decide +kernel
theorem dX11_comes_95 : decode cX11_comes 95 = .ok (.iconst 4, 1) := by decide +kernel
theorem dX11_comes_96 : decode cX11_comes 96 = .ok (.iload 5, 2) := by decide +kernel
theorem dX11_comes_98 : decode cX11_comes 98 = .ok (.imul, 1) := by decide +kernel
theorem dX11_comes_99 : decode cX11_comes 99 = .ok (.iadd, 1) := by decide +kernel
theorem dX11_comes_100 : decode cX11_comes 100 = .ok (.iconst 2, 1) := by decide +kernel
theorem dX11_comes_101 : decode cX11_comes 101 = .ok (.iadd, 1) := by decide +kernel
theorem dX11_comes_102 : decode cX11_comes 102 = .ok (.iload_n 3, 1) := by decide +kernel
theorem dX11_comes_103 : decode cX11_comes 103 = .ok (.iastore, 1) := by decide +kernel
theorem dX11_comes_104 : decode cX11_comes 104 = .ok (.aload_n 0, 1) := by decide +kernel
theorem dX11_comes_105 : decode cX11_comes 105 = .ok (.iconst 4, 1) := by decide +kernel
theorem dX11_comes_106 : decode cX11_comes 106 = .ok (.iconst 4, 1) := by decide +kernel
theorem dX11_comes_107 : decode cX11_comes 107 = .ok (.iload 5, 2) := by decide +kernel
theorem dX11_comes_109 : decode cX11_comes 109 = .ok (.imul, 1) := by decide +kernel
theorem dX11_comes_110 : decode cX11_comes 110 = .ok (.iadd, 1) := by decide +kernel
theorem dX11_comes_111 : decode cX11_comes 111 = .ok (.iconst 3, 1) := by decide +kernel
theorem dX11_comes_112 : decode cX11_comes 112 = .ok (.iadd, 1) := by decide +kernel
theorem dX11_comes_113 : decode cX11_comes 113 = .ok (.iload 4, 2) := by decide +kernel
theorem dX11_comes_115 : decode cX11_comes 115 = .ok (.iastore, 1) := by decide +kernel
theorem dX11_comes_116 : decode cX11_comes 116 = .ok (.aload_n 0, 1) := by decide +kernel
theorem dX11_comes_117 : decode cX11_comes 117 = .ok (.iconst 3, 1) := by decide +kernel
theorem dX11_comes_118 : decode cX11_comes 118 = .ok (.dup2, 1) := by decide +kernel
theorem dX11_comes_119 : decode cX11_comes 119 = .ok (.iaload, 1) := by decide +kernel
theorem dX11_comes_120 : decode cX11_comes 120 = .ok (.iconst 1, 1) := by decide +kernel
theorem dX11_comes_121 : decode cX11_comes 121 = .ok (.iadd, 1) := by decide +kernel
theorem dX11_comes_122 : decode cX11_comes 122 = .ok (.iastore, 1) := by decide +kernel
theorem dX11_comes_123 : decode cX11_comes 123 = .ok (.iload 5, 2) := by decide +kernel
theorem dX11_comes_125 : decode cX11_comes 125 = .ok (.ireturn, 1) := by decide +kernel
theorem ggX11_readsItem_X11_readsWord : GoodIn wsX11_readsItem wsX11_readsWord := goodIn_sub (fun w h => (List.mem_cons.mp h).elim (fun e => ft_me e (k_wsX11_readsItem_wsX11_readsItem_r1 _ (List.mem_of_getElem? (i := 12) rfl))) (fun h => (List.mem_append.mp h).elim (fun h => (List.forall_mem_cons.mpr ⟨(k_wsX11_readsItem_wsX11_readsItem_r1 _ (List.mem_of_getElem? (i := 5) rfl)), List.forall_mem_cons.mpr ⟨(k_wsX11_readsItem_wsX11_readsItem_r1 _ (List.mem_of_getElem? (i := 6) rfl)), List.forall_mem_cons.mpr ⟨(k_wsX11_readsItem_wsX11_readsItem_r1 _ (List.mem_of_getElem? (i := 7) rfl)), List.forall_mem_cons.mpr ⟨(k_wsX11_readsItem_wsX11_readsItem_r1 _ (List.mem_of_getElem? (i := 13) rfl)), List.forall_mem_cons.mpr ⟨(k_wsX11_readsItem_wsX11_readsItem_r1 _ (List.mem_of_getElem? (i := 14) rfl)), List.forall_mem_cons.mpr ⟨(k_wsX11_readsItem_wsX11_readsItem_r1 _ (List.mem_of_getElem? (i := 15) rfl)), List.forall_mem_cons.mpr ⟨(k_wsX11_readsItem_wsX11_readsItem_r1 _ (List.mem_of_getElem? (i := 16) rfl)), List.forall_mem_cons.mpr ⟨(k_wsX11_readsItem_wsX11_readsItem_r1 _ (List.mem_of_getElem? (i := 11) rfl)), List.forall_mem_cons.mpr ⟨(k_wsX11_readsItem_wsX11_readsItem_r1 _ (List.mem_of_getElem? (i := 17) rfl)), List.forall_mem_cons.mpr ⟨(k_wsX11_readsItem_wsX11_readsItem_r1 _ (List.mem_of_getElem? (i := 18) rfl)), List.forall_mem_cons.mpr ⟨(k_wsX11_readsItem_wsX11_readsItem_r1 _ (List.mem_of_getElem? (i := 19) rfl)), List.forall_mem_cons.mpr ⟨(k_wsX11_readsItem_wsX11_readsItem_r1 _ (List.mem_of_getElem? (i := 20) rfl)), List.forall_mem_cons.mpr ⟨(k_wsX11_readsItem_wsX11_readsItem_r1 _ (List.mem_of_getElem? (i := 21) rfl)), List.forall_mem_cons.mpr ⟨(k_wsX11_readsItem_wsX11_readsItem_r1 _ (List.mem_of_getElem? (i := 22) rfl)), List.forall_mem_cons.mpr ⟨(k_wsX11_readsItem_wsX11_readsItem_r1 _ (List.mem_of_getElem? (i := 23) rfl)), fun _ h => absurd h List.not_mem_nil⟩⟩⟩⟩⟩⟩⟩⟩⟩⟩⟩⟩⟩⟩⟩) w h) (fun h => k_wsX11_readsItem_wsX110 w h))) gw_wsX11_readsWord
theorem gX11_readsItem_X11_readsWord : GoodIn wsX11_readsItem (wsV RX11 132 RX11 yX11_readsWord wsX11_readsWord) := goodIn_app (goodIn_sub (List.forall_mem_cons.mpr ⟨(k_wsX11_readsItem_wsX11_readsItem_r1 _ (List.mem_of_getElem? (i := 8) rfl)), List.forall_mem_cons.mpr ⟨(k_wsX11_readsItem_wsX11_readsItem_r1 _ (List.mem_of_getElem? (i := 9) rfl)), List.forall_mem_cons.mpr ⟨(k_wsX11_readsItem_wsX11_readsItem_r1 _ (List.mem_of_getElem? (i := 10) rfl)), List.forall_mem_cons.mpr ⟨(k_wsX11_readsItem_wsX11_readsItem_r1 _ (List.mem_of_getElem? (i := 11) rfl)), fun _ h => absurd h List.not_mem_nil⟩⟩⟩⟩) (by decide +kernel)) ggX11_readsItem_X11_readsWord
theorem ggX11_readsItem_X11_numbersOf : GoodIn wsX11_readsItem wsX11_numbersOf := goodIn_sub (fun w h => (List.mem_cons.mp h).elim (fun e => ft_me e (k_wsX11_readsItem_wsX11_readsItem_r2 _ (List.mem_of_getElem? (i := 2) rfl))) (fun h => absurd h List.not_mem_nil)) gw_wsX11_numbersOf
theorem gX11_readsItem_X11_numbersOf : GoodIn wsX11_readsItem (va_wsS RX11 142 yX11_numbersOf wsX11_numbersOf) := goodIn_app (goodIn_sub (List.forall_mem_cons.mpr ⟨(k_wsX11_readsItem_wsX11_readsItem_r2 _ (List.mem_of_getElem? (i := 0) rfl)), List.forall_mem_cons.mpr ⟨(k_wsX11_readsItem_wsX11_readsItem_r2 _ (List.mem_of_getElem? (i := 1) rfl)), List.forall_mem_cons.mpr ⟨(k_wsX11_readsItem_wsX11_readsItem_r1 _ (List.mem_of_getElem? (i := 11) rfl)), fun _ h => absurd h List.not_mem_nil⟩⟩⟩) (by decide +kernel)) ggX11_readsItem_X11_numbersOf
theorem ggX11_readsItem_X11_readsNumber : GoodIn wsX11_readsItem wsX11_readsNumber := goodIn_sub (fun w h => (List.mem_cons.mp h).elim (fun e => ft_me e (k_wsX11_readsItem_wsX11_readsItem_r2 _ (List.mem_of_getElem? (i := 6) rfl))) (fun h => (List.mem_append.mp h).elim (fun h => (List.forall_mem_cons.mpr ⟨(k_wsX11_readsItem_wsX11_readsItem_r1 _ (List.mem_of_getElem? (i := 2) rfl)), List.forall_mem_cons.mpr ⟨(k_wsX11_readsItem_wsX11_readsItem_r1 _ (List.mem_of_getElem? (i := 5) rfl)), List.forall_mem_cons.mpr ⟨(k_wsX11_readsItem_wsX11_readsItem_r1 _ (List.mem_of_getElem? (i := 6) rfl)), List.forall_mem_cons.mpr ⟨(k_wsX11_readsItem_wsX11_readsItem_r1 _ (List.mem_of_getElem? (i := 7) rfl)), List.forall_mem_cons.mpr ⟨(k_wsX11_readsItem_wsX11_readsItem_r2 _ (List.mem_of_getElem? (i := 7) rfl)), List.forall_mem_cons.mpr ⟨(k_wsX11_readsItem_wsX11_readsItem_r2 _ (List.mem_of_getElem? (i := 8) rfl)), List.forall_mem_cons.mpr ⟨(k_wsX11_readsItem_wsX11_readsItem_r1 _ (List.mem_of_getElem? (i := 4) rfl)), List.forall_mem_cons.mpr ⟨(k_wsX11_readsItem_wsX11_readsItem_r1 _ (List.mem_of_getElem? (i := 15) rfl)), List.forall_mem_cons.mpr ⟨(k_wsX11_readsItem_wsX11_readsItem_r1 _ (List.mem_of_getElem? (i := 16) rfl)), List.forall_mem_cons.mpr ⟨(k_wsX11_readsItem_wsX11_readsItem_r1 _ (List.mem_of_getElem? (i := 11) rfl)), List.forall_mem_cons.mpr ⟨(k_wsX11_readsItem_wsX11_readsItem_r1 _ (List.mem_of_getElem? (i := 17) rfl)), fun _ h => absurd h List.not_mem_nil⟩⟩⟩⟩⟩⟩⟩⟩⟩⟩⟩) w h) (fun h => k_wsX11_readsItem_wsX110 w h))) gw_wsX11_readsNumber
theorem gX11_readsItem_X11_readsNumber : GoodIn wsX11_readsItem (wsV RX11 145 RX11 yX11_readsNumber wsX11_readsNumber) := goodIn_app (goodIn_sub (List.forall_mem_cons.mpr ⟨(k_wsX11_readsItem_wsX11_readsItem_r2 _ (List.mem_of_getElem? (i := 3) rfl)), List.forall_mem_cons.mpr ⟨(k_wsX11_readsItem_wsX11_readsItem_r2 _ (List.mem_of_getElem? (i := 4) rfl)), List.forall_mem_cons.mpr ⟨(k_wsX11_readsItem_wsX11_readsItem_r2 _ (List.mem_of_getElem? (i := 5) rfl)), List.forall_mem_cons.mpr ⟨(k_wsX11_readsItem_wsX11_readsItem_r1 _ (List.mem_of_getElem? (i := 11) rfl)), fun _ h => absurd h List.not_mem_nil⟩⟩⟩⟩) (by decide +kernel)) ggX11_readsItem_X11_readsNumber
theorem ggX11_readsItem_X11_isRight : GoodIn wsX11_readsItem wsX11_isRight := goodIn_sub (fun w h => (List.mem_cons.mp h).elim (fun e => ft_me e (k_wsX11_readsItem_wsX11_readsItem_r2 _ (List.mem_of_getElem? (i := 12) rfl))) (fun h => (List.mem_append.mp h).elim (fun h => (List.forall_mem_cons.mpr ⟨(k_wsX11_readsItem_wsX11_readsItem_r1 _ (List.mem_of_getElem? (i := 4) rfl)), List.forall_mem_cons.mpr ⟨(k_wsX11_readsItem_wsX11_readsItem_r2 _ (List.mem_of_getElem? (i := 13) rfl)), List.forall_mem_cons.mpr ⟨(k_wsX11_readsItem_wsX11_readsItem_r2 _ (List.mem_of_getElem? (i := 14) rfl)), List.forall_mem_cons.mpr ⟨(k_wsX11_readsItem_wsX11_readsItem_r2 _ (List.mem_of_getElem? (i := 15) rfl)), List.forall_mem_cons.mpr ⟨(k_wsX11_readsItem_wsX11_readsItem_r1 _ (List.mem_of_getElem? (i := 3) rfl)), List.forall_mem_cons.mpr ⟨(k_wsX11_readsItem_wsX11_readsItem_r2 _ (List.mem_of_getElem? (i := 16) rfl)), List.forall_mem_cons.mpr ⟨(k_wsX11_readsItem_wsX11_readsItem_r2 _ (List.mem_of_getElem? (i := 17) rfl)), List.forall_mem_cons.mpr ⟨(k_wsX11_readsItem_wsX11_readsItem_r1 _ (List.mem_of_getElem? (i := 15) rfl)), List.forall_mem_cons.mpr ⟨(k_wsX11_readsItem_wsX11_readsItem_r1 _ (List.mem_of_getElem? (i := 16) rfl)), List.forall_mem_cons.mpr ⟨(k_wsX11_readsItem_wsX11_readsItem_r1 _ (List.mem_of_getElem? (i := 11) rfl)), List.forall_mem_cons.mpr ⟨(k_wsX11_readsItem_wsX11_readsItem_r1 _ (List.mem_of_getElem? (i := 17) rfl)), fun _ h => absurd h List.not_mem_nil⟩⟩⟩⟩⟩⟩⟩⟩⟩⟩⟩) w h) (fun h => k_wsX11_readsItem_wsX110 w h))) gw_wsX11_isRight
theorem gX11_readsItem_X11_isRight : GoodIn wsX11_readsItem (wsV RX11 149 RX11 yX11_isRight wsX11_isRight) := goodIn_app (goodIn_sub (List.forall_mem_cons.mpr ⟨(k_wsX11_readsItem_wsX11_readsItem_r2 _ (List.mem_of_getElem? (i := 9) rfl)), List.forall_mem_cons.mpr ⟨(k_wsX11_readsItem_wsX11_readsItem_r2 _ (List.mem_of_getElem? (i := 10) rfl)), List.forall_mem_cons.mpr ⟨(k_wsX11_readsItem_wsX11_readsItem_r2 _ (List.mem_of_getElem? (i := 11) rfl)), List.forall_mem_cons.mpr ⟨(k_wsX11_readsItem_wsX11_readsItem_r1 _ (List.mem_of_getElem? (i := 11) rfl)), fun _ h => absurd h List.not_mem_nil⟩⟩⟩⟩) (by decide +kernel)) ggX11_readsItem_X11_isRight
theorem ggX11_readsItem_X11_hasMadePlace : GoodIn wsX11_readsItem wsX11_hasMadePlace := goodIn_sub (fun w h => (List.mem_cons.mp h).elim (fun e => ft_me e (k_wsX11_readsItem_wsX11_readsItem_r2 _ (List.mem_of_getElem? (i := 21) rfl))) (fun h => (List.mem_append.mp h).elim (fun h => (List.forall_mem_cons.mpr ⟨(k_wsX11_readsItem_wsX11_readsItem_r1 _ (List.mem_of_getElem? (i := 3) rfl)), fun _ h => absurd h List.not_mem_nil⟩) w h) (fun h => k_wsX11_readsItem_wsX110 w h))) gw_wsX11_hasMadePlace
theorem gX11_readsItem_X11_hasMadePlace : GoodIn wsX11_readsItem (wsV RX11 153 RX11 yX11_hasMadePlace wsX11_hasMadePlace) := goodIn_app (goodIn_sub (List.forall_mem_cons.mpr ⟨(k_wsX11_readsItem_wsX11_readsItem_r2 _ (List.mem_of_getElem? (i := 18) rfl)), List.forall_mem_cons.mpr ⟨(k_wsX11_readsItem_wsX11_readsItem_r2 _ (List.mem_of_getElem? (i := 19) rfl)), List.forall_mem_cons.mpr ⟨(k_wsX11_readsItem_wsX11_readsItem_r2 _ (List.mem_of_getElem? (i := 20) rfl)), List.forall_mem_cons.mpr ⟨(k_wsX11_readsItem_wsX11_readsItem_r1 _ (List.mem_of_getElem? (i := 11) rfl)), fun _ h => absurd h List.not_mem_nil⟩⟩⟩⟩) (by decide +kernel)) ggX11_readsItem_X11_hasMadePlace
theorem ggX11_readsItem_X11_comes : GoodIn wsX11_readsItem wsX11_comes := goodIn_sub (fun w h => (List.mem_cons.mp h).elim (fun e => ft_me e (k_wsX11_readsItem_wsX11_readsItem_r3 _ (List.mem_of_getElem? (i := 0) rfl))) (fun h => absurd h List.not_mem_nil)) gw_wsX11_comes
theorem gX11_readsItem_X11_comes : GoodIn wsX11_readsItem (va_wsS RX11 157 yX11_comes wsX11_comes) := goodIn_app (goodIn_sub (List.forall_mem_cons.mpr ⟨(k_wsX11_readsItem_wsX11_readsItem_r2 _ (List.mem_of_getElem? (i := 22) rfl)), List.forall_mem_cons.mpr ⟨(k_wsX11_readsItem_wsX11_readsItem_r2 _ (List.mem_of_getElem? (i := 23) rfl)), List.forall_mem_cons.mpr ⟨(k_wsX11_readsItem_wsX11_readsItem_r1 _ (List.mem_of_getElem? (i := 11) rfl)), fun _ h => absurd h List.not_mem_nil⟩⟩⟩) (by decide +kernel)) ggX11_readsItem_X11_comes
theorem dX11_readsItem_0 : decode cX11_readsItem 0 = .ok (.aload_n 0, 1) := by decide +kernel
theorem dX11_readsItem_1 : decode cX11_readsItem 1 = .ok (.invokevirtual 132, 3) := by decide +kernel
theorem dX11_readsItem_4 : decode cX11_readsItem 4 = .ok (.istore_n 2, 1) := by decide +kernel
theorem dX11_readsItem_5 : decode cX11_readsItem 5 = .ok (.aload_n 0, 1) := by decide +kernel
theorem dX11_readsItem_6 : decode cX11_readsItem 6 = .ok (.iconst 1, 1) := by decide +kernel
theorem dX11_readsItem_7 : decode cX11_readsItem 7 = .ok (.putfield 136, 3) := by decide +kernel
theorem dX11_readsItem_10 : decode cX11_readsItem 10 = .ok (.aload_n 0, 1) := by decide +kernel
theorem dX11_readsItem_11 : decode cX11_readsItem 11 = .ok (.iconst 0, 1) := by decide +kernel
theorem dX11_readsItem_12 : decode cX11_readsItem 12 = .ok (.putfield 139, 3) := by decide +kernel
theorem dX11_readsItem_15 : decode cX11_readsItem 15 = .ok (.iload_n 2, 1) := by decide +kernel
theorem dX11_readsItem_16 : decode cX11_readsItem 16 = .ok (.ifCond .ge 5, 3) := by decide +kernel
theorem dX11_readsItem_19 : decode cX11_readsItem 19 = .ok (.iconst 0, 1) := by decide +kernel
theorem dX11_readsItem_20 : decode cX11_readsItem 20 = .ok (.ireturn, 1) := by decide +kernel
theorem dX11_readsItem_21 : decode cX11_readsItem 21 = .ok (.aload_n 0, 1) := by decide +kernel
theorem dX11_readsItem_22 : decode cX11_readsItem 22 = .ok (.iconst 2, 1) := by decide +kernel
theorem dX11_readsItem_23 : decode cX11_readsItem 23 = .ok (.putfield 136, 3) := by decide +kernel
theorem dX11_readsItem_26 : decode cX11_readsItem 26 = .ok (.iconst 0, 1) := by decide +kernel
theorem dX11_readsItem_27 : decode cX11_readsItem 27 = .ok (.istore_n 3, 1) := by decide +kernel
theorem dX11_readsItem_28 : decode cX11_readsItem 28 = .ok (.iload_n 3, 1) := by decide +kernel
theorem dX11_readsItem_29 : decode cX11_readsItem 29 = .ok (.iload_n 2, 1) := by decide +kernel
theorem dX11_readsItem_30 : decode cX11_readsItem 30 = .ok (.invokestatic 142, 3) := by decide +kernel
theorem dX11_readsItem_33 : decode cX11_readsItem 33 = .ok (.if_icmp .ge 30, 3) := by decide +kernel
theorem dX11_readsItem_36 : decode cX11_readsItem 36 = .ok (.aload_n 0, 1) := by decide +kernel
theorem dX11_readsItem_37 : decode cX11_readsItem 37 = .ok (.iload_n 3, 1) := by decide +kernel
theorem dX11_readsItem_38 : decode cX11_readsItem 38 = .ok (.iconst 1, 1) := by decide +kernel
theorem dX11_readsItem_39 : decode cX11_readsItem 39 = .ok (.iadd, 1) := by decide +kernel
theorem dX11_readsItem_40 : decode cX11_readsItem 40 = .ok (.putfield 139, 3) := by decide +kernel
theorem dX11_readsItem_43 : decode cX11_readsItem 43 = .ok (.aload_n 0, 1) := by decide +kernel
theorem dX11_readsItem_44 : decode cX11_readsItem 44 = .ok (.iload_n 3, 1) := by decide +kernel
theorem dX11_readsItem_45 : decode cX11_readsItem 45 = .ok (.invokevirtual 145, 3) := by decide +kernel
theorem dX11_readsItem_48 : decode cX11_readsItem 48 = .ok (.aload_n 0, 1) := by decide +kernel
theorem dX11_readsItem_49 : decode cX11_readsItem 49 = .ok (.getfield 114, 3) := by decide +kernel
theorem dX11_readsItem_52 : decode cX11_readsItem 52 = .ok (.ifCond .ne 5, 3) := by decide +kernel
theorem dX11_readsItem_55 : decode cX11_readsItem 55 = .ok (.iconst 0, 1) := by decide +kernel
theorem dX11_readsItem_56 : decode cX11_readsItem 56 = .ok (.ireturn, 1) := by decide +kernel
theorem dX11_readsItem_57 : decode cX11_readsItem 57 = .ok (.iinc 3 1, 3) := by decide +kernel
theorem dX11_readsItem_60 : decode cX11_readsItem 60 = .ok (.goto (-32), 3) := by decide +kernel
theorem dX11_readsItem_63 : decode cX11_readsItem 63 = .ok (.aload_n 0, 1) := by decide +kernel
theorem dX11_readsItem_64 : decode cX11_readsItem 64 = .ok (.iconst 3, 1) := by decide +kernel
theorem dX11_readsItem_65 : decode cX11_readsItem 65 = .ok (.putfield 136, 3) := by decide +kernel
theorem dX11_readsItem_68 : decode cX11_readsItem 68 = .ok (.iconst 0, 1) := by decide +kernel
theorem dX11_readsItem_69 : decode cX11_readsItem 69 = .ok (.istore_n 3, 1) := by decide +kernel
theorem dX11_readsItem_70 : decode cX11_readsItem 70 = .ok (.iload_n 3, 1) := by decide +kernel
theorem dX11_readsItem_71 : decode cX11_readsItem 71 = .ok (.iload_n 2, 1) := by decide +kernel
theorem dX11_readsItem_72 : decode cX11_readsItem 72 = .ok (.invokestatic 142, 3) := by decide +kernel
theorem dX11_readsItem_75 : decode cX11_readsItem 75 = .ok (.if_icmp .ge 27, 3) := by decide +kernel
theorem dX11_readsItem_78 : decode cX11_readsItem 78 = .ok (.aload_n 0, 1) := by decide +kernel
theorem dX11_readsItem_79 : decode cX11_readsItem 79 = .ok (.iload_n 3, 1) := by decide +kernel
theorem dX11_readsItem_80 : decode cX11_readsItem 80 = .ok (.iconst 1, 1) := by decide +kernel
theorem dX11_readsItem_81 : decode cX11_readsItem 81 = .ok (.iadd, 1) := by decide +kernel
theorem dX11_readsItem_82 : decode cX11_readsItem 82 = .ok (.putfield 139, 3) := by decide +kernel
theorem dX11_readsItem_85 : decode cX11_readsItem 85 = .ok (.aload_n 0, 1) := by decide +kernel
theorem dX11_readsItem_86 : decode cX11_readsItem 86 = .ok (.iload_n 2, 1) := by decide +kernel
theorem dX11_readsItem_87 : decode cX11_readsItem 87 = .ok (.iload_n 3, 1) := by decide +kernel
theorem dX11_readsItem_88 : decode cX11_readsItem 88 = .ok (.invokevirtual 149, 3) := by decide +kernel
theorem dX11_readsItem_91 : decode cX11_readsItem 91 = .ok (.ifCond .ne 5, 3) := by decide +kernel
theorem dX11_readsItem_94 : decode cX11_readsItem 94 = .ok (.iconst 0, 1) := by decide +kernel
theorem dX11_readsItem_95 : decode cX11_readsItem 95 = .ok (.ireturn, 1) := by decide +kernel
theorem dX11_readsItem_96 : decode cX11_readsItem 96 = .ok (.iinc 3 1, 3) := by decide +kernel
theorem dX11_readsItem_99 : decode cX11_readsItem 99 = .ok (.goto (-29), 3) := by decide +kernel
theorem dX11_readsItem_102 : decode cX11_readsItem 102 = .ok (.aload_n 0, 1) := by decide +kernel
theorem dX11_readsItem_103 : decode cX11_readsItem 103 = .ok (.iconst 4, 1) := by decide +kernel
theorem dX11_readsItem_104 : decode cX11_readsItem 104 = .ok (.putfield 136, 3) := by decide +kernel
theorem dX11_readsItem_107 : decode cX11_readsItem 107 = .ok (.aload_n 0, 1) := by decide +kernel
theorem dX11_readsItem_108 : decode cX11_readsItem 108 = .ok (.iload_n 2, 1) := by decide +kernel
theorem dX11_readsItem_109 : decode cX11_readsItem 109 = .ok (.invokestatic 142, 3) := by decide +kernel
theorem dX11_readsItem_112 : decode cX11_readsItem 112 = .ok (.putfield 139, 3) := by decide +kernel
theorem dX11_readsItem_115 : decode cX11_readsItem 115 = .ok (.iload_n 2, 1) := by decide +kernel
theorem dX11_readsItem_116 : decode cX11_readsItem 116 = .ok (.iconst 3, 1) := by decide +kernel
theorem dX11_readsItem_117 : decode cX11_readsItem 117 = .ok (.if_icmp .ge 24, 3) := by decide +kernel
theorem dX11_readsItem_120 : decode cX11_readsItem 120 = .ok (.iload_n 1, 1) := by decide +kernel
theorem dX11_readsItem_121 : decode cX11_readsItem 121 = .ok (.iload_n 2, 1) := by decide +kernel
theorem dX11_readsItem_122 : decode cX11_readsItem 122 = .ok (.ishr, 1) := by decide +kernel
theorem dX11_readsItem_123 : decode cX11_readsItem 123 = .ok (.iconst 1, 1) := by decide +kernel
theorem dX11_readsItem_124 : decode cX11_readsItem 124 = .ok (.iand, 1) := by decide +kernel
theorem dX11_readsItem_125 : decode cX11_readsItem 125 = .ok (.iconst 1, 1) := by decide +kernel
theorem dX11_readsItem_126 : decode cX11_readsItem 126 = .ok (.if_icmp .eq 39, 3) := by decide +kernel
theorem dX11_readsItem_129 : decode cX11_readsItem 129 = .ok (.aload_n 0, 1) := by decide +kernel
theorem dX11_readsItem_130 : decode cX11_readsItem 130 = .ok (.getfield 19, 3) := by decide +kernel
theorem dX11_readsItem_133 : decode cX11_readsItem 133 = .ok (.iconst 3, 1) := by decide +kernel
theorem dX11_readsItem_134 : decode cX11_readsItem 134 = .ok (.iaload, 1) := by decide +kernel
theorem dX11_readsItem_135 : decode cX11_readsItem 135 = .ok (.ifCond .le 32, 3) := by decide +kernel
theorem dX11_readsItem_138 : decode cX11_readsItem 138 = .ok (.goto 27, 3) := by decide +kernel
theorem dX11_readsItem_141 : decode cX11_readsItem 141 = .ok (.aload_n 0, 1) := by decide +kernel
theorem dX11_readsItem_142 : decode cX11_readsItem 142 = .ok (.aload_n 0, 1) := by decide +kernel
theorem dX11_readsItem_143 : decode cX11_readsItem 143 = .ok (.getfield 22, 3) := by decide +kernel
theorem dX11_readsItem_146 : decode cX11_readsItem 146 = .ok (.iconst 0, 1) := by decide +kernel
theorem dX11_readsItem_147 : decode cX11_readsItem 147 = .ok (.iaload, 1) := by decide +kernel
theorem dX11_readsItem_148 : decode cX11_readsItem 148 = .ok (.invokevirtual 153, 3) := by decide +kernel
theorem dX11_readsItem_151 : decode cX11_readsItem 151 = .ok (.ifCond .ne 14, 3) := by decide +kernel
theorem dX11_readsItem_154 : decode cX11_readsItem 154 = .ok (.aload_n 0, 1) := by decide +kernel
theorem dX11_readsItem_155 : decode cX11_readsItem 155 = .ok (.getfield 19, 3) := by decide +kernel
theorem dX11_readsItem_158 : decode cX11_readsItem 158 = .ok (.iconst 3, 1) := by decide +kernel
theorem dX11_readsItem_159 : decode cX11_readsItem 159 = .ok (.iaload, 1) := by decide +kernel
theorem dX11_readsItem_160 : decode cX11_readsItem 160 = .ok (.bipush 10, 2) := by decide +kernel
theorem dX11_readsItem_162 : decode cX11_readsItem 162 = .ok (.if_icmp .ne 5, 3) := by decide +kernel
theorem dX11_readsItem_165 : decode cX11_readsItem 165 = .ok (.iconst 0, 1) := by decide +kernel
theorem dX11_readsItem_166 : decode cX11_readsItem 166 = .ok (.ireturn, 1) := by decide +kernel
theorem dX11_readsItem_167 : decode cX11_readsItem 167 = .ok (.aload_n 0, 1) := by decide +kernel
theorem dX11_readsItem_168 : decode cX11_readsItem 168 = .ok (.iconst 5, 1) := by decide +kernel
theorem dX11_readsItem_169 : decode cX11_readsItem 169 = .ok (.putfield 136, 3) := by decide +kernel
theorem dX11_readsItem_172 : decode cX11_readsItem 172 = .ok (.aload_n 0, 1) := by decide +kernel
theorem dX11_readsItem_173 : decode cX11_readsItem 173 = .ok (.getfield 100, 3) := by decide +kernel
theorem dX11_readsItem_176 : decode cX11_readsItem 176 = .ok (.aload_n 0, 1) := by decide +kernel
theorem dX11_readsItem_177 : decode cX11_readsItem 177 = .ok (.getfield 96, 3) := by decide +kernel
theorem dX11_readsItem_180 : decode cX11_readsItem 180 = .ok (.if_icmp .eq 17, 3) := by decide +kernel
theorem dX11_readsItem_183 : decode cX11_readsItem 183 = .ok (.aload_n 0, 1) := by decide +kernel
theorem dX11_readsItem_184 : decode cX11_readsItem 184 = .ok (.getfield 16, 3) := by decide +kernel
theorem dX11_readsItem_187 : decode cX11_readsItem 187 = .ok (.aload_n 0, 1) := by decide +kernel
theorem dX11_readsItem_188 : decode cX11_readsItem 188 = .ok (.getfield 100, 3) := by decide +kernel
theorem dX11_readsItem_191 : decode cX11_readsItem 191 = .ok (.iaload, 1) := by decide +kernel
theorem dX11_readsItem_192 : decode cX11_readsItem 192 = .ok (.bipush 59, 2) := by decide +kernel
theorem dX11_readsItem_194 : decode cX11_readsItem 194 = .ok (.if_icmp .eq 5, 3) := by decide +kernel
theorem dX11_readsItem_197 : decode cX11_readsItem 197 = .ok (.iconst 0, 1) := by decide +kernel
theorem dX11_readsItem_198 : decode cX11_readsItem 198 = .ok (.ireturn, 1) := by decide +kernel
theorem dX11_readsItem_199 : decode cX11_readsItem 199 = .ok (.aload_n 0, 1) := by decide +kernel
theorem dX11_readsItem_200 : decode cX11_readsItem 200 = .ok (.dup, 1) := by decide +kernel
theorem dX11_readsItem_201 : decode cX11_readsItem 201 = .ok (.getfield 100, 3) := by decide +kernel
theorem dX11_readsItem_204 : decode cX11_readsItem 204 = .ok (.iconst 1, 1) := by decide +kernel
theorem dX11_readsItem_205 : decode cX11_readsItem 205 = .ok (.iadd, 1) := by decide +kernel
theorem dX11_readsItem_206 : decode cX11_readsItem 206 = .ok (.putfield 100, 3) := by decide +kernel
theorem dX11_readsItem_209 : decode cX11_readsItem 209 = .ok (.iload_n 2, 1) := by decide +kernel
theorem dX11_readsItem_210 : decode cX11_readsItem 210 = .ok (.iconst 3, 1) := by decide +kernel
theorem dX11_readsItem_211 : decode cX11_readsItem 211 = .ok (.if_icmp .ge 18, 3) := by decide +kernel
theorem dX11_readsItem_214 : decode cX11_readsItem 214 = .ok (.aload_n 0, 1) := by decide +kernel
theorem dX11_readsItem_215 : decode cX11_readsItem 215 = .ok (.getfield 19, 3) := by decide +kernel
theorem dX11_readsItem_218 : decode cX11_readsItem 218 = .ok (.iload_n 2, 1) := by decide +kernel
theorem dX11_readsItem_219 : decode cX11_readsItem 219 = .ok (.aload_n 0, 1) := by decide +kernel
theorem dX11_readsItem_220 : decode cX11_readsItem 220 = .ok (.getfield 22, 3) := by decide +kernel
theorem dX11_readsItem_223 : decode cX11_readsItem 223 = .ok (.iconst 0, 1) := by decide +kernel
theorem dX11_readsItem_224 : decode cX11_readsItem 224 = .ok (.iaload, 1) := by decide +kernel
theorem dX11_readsItem_225 : decode cX11_readsItem 225 = .ok (.iastore, 1) := by decide +kernel
theorem dX11_readsItem_226 : decode cX11_readsItem 226 = .ok (.goto 41, 3) := by decide +kernel
theorem dX11_readsItem_229 : decode cX11_readsItem 229 = .ok (.aload_n 0, 1) := by decide +kernel
theorem dX11_readsItem_230 : decode cX11_readsItem 230 = .ok (.getfield 19, 3) := by decide +kernel
theorem dX11_readsItem_233 : decode cX11_readsItem 233 = .ok (.iload_n 2, 1) := by decide +kernel
theorem dX11_readsItem_234 : decode cX11_readsItem 234 = .ok (.iconst 3, 1) := by decide +kernel
theorem dX11_readsItem_235 : decode cX11_readsItem 235 = .ok (.isub, 1) := by decide +kernel
theorem dX11_readsItem_236 : decode cX11_readsItem 236 = .ok (.aload_n 0, 1) := by decide +kernel
theorem dX11_readsItem_237 : decode cX11_readsItem 237 = .ok (.getfield 22, 3) := by decide +kernel
theorem dX11_readsItem_240 : decode cX11_readsItem 240 = .ok (.iconst 0, 1) := by decide +kernel
theorem dX11_readsItem_241 : decode cX11_readsItem 241 = .ok (.iaload, 1) := by decide +kernel
theorem dX11_readsItem_242 : decode cX11_readsItem 242 = .ok (.aload_n 0, 1) := by decide +kernel
theorem dX11_readsItem_243 : decode cX11_readsItem 243 = .ok (.getfield 22, 3) := by decide +kernel
theorem dX11_readsItem_246 : decode cX11_readsItem 246 = .ok (.iconst 1, 1) := by decide +kernel
theorem dX11_readsItem_247 : decode cX11_readsItem 247 = .ok (.iaload, 1) := by decide +kernel
theorem dX11_readsItem_248 : decode cX11_readsItem 248 = .ok (.iload_n 2, 1) := by decide +kernel
theorem dX11_readsItem_249 : decode cX11_readsItem 249 = .ok (.iconst 4, 1) := by decide +kernel
theorem dX11_readsItem_250 : decode cX11_readsItem 250 = .ok (.if_icmp .ne 12, 3) := by decide +kernel
theorem dX11_readsItem_253 : decode cX11_readsItem 253 = .ok (.aload_n 0, 1) := by decide +kernel
theorem dX11_readsItem_254 : decode cX11_readsItem 254 = .ok (.getfield 22, 3) := by decide +kernel
theorem dX11_readsItem_257 : decode cX11_readsItem 257 = .ok (.iconst 2, 1) := by decide +kernel
theorem dX11_readsItem_258 : decode cX11_readsItem 258 = .ok (.iaload, 1) := by decide +kernel
theorem dX11_readsItem_259 : decode cX11_readsItem 259 = .ok (.goto 4, 3) := by decide +kernel
theorem dX11_readsItem_262 : decode cX11_readsItem 262 = .ok (.iconst 0, 1) := by decide +kernel
theorem dX11_readsItem_263 : decode cX11_readsItem 263 = .ok (.invokestatic 157, 3) := by decide +kernel
theorem dX11_readsItem_266 : decode cX11_readsItem 266 = .ok (.pop, 1) := by decide +kernel
theorem dX11_readsItem_267 : decode cX11_readsItem 267 = .ok (.aload_n 0, 1) := by decide +kernel
theorem dX11_readsItem_268 : decode cX11_readsItem 268 = .ok (.getfield 22, 3) := by decide +kernel
theorem dX11_readsItem_271 : decode cX11_readsItem 271 = .ok (.iconst 2, 1) := by decide +kernel
theorem dX11_readsItem_272 : decode cX11_readsItem 272 = .ok (.iload_n 2, 1) := by decide +kernel
theorem dX11_readsItem_273 : decode cX11_readsItem 273 = .ok (.iastore, 1) := by decide +kernel
theorem dX11_readsItem_274 : decode cX11_readsItem 274 = .ok (.iconst 1, 1) := by decide +kernel
theorem dX11_readsItem_275 : decode cX11_readsItem 275 = .ok (.ireturn, 1) := by decide +kernel
set_option maxRecDepth 20000 in
theorem s_X11_hasFault_X11_readsItem_wsX11_readsItem_r1 : ∀ w ∈ wsX11_readsItem_r1, w ∈ wsX11_hasFault := List.forall_mem_cons.mpr ⟨(k_wsX11_hasFault_wsX11_hasFault_r1 _ (List.mem_of_getElem? (i := 10) rfl)), List.forall_mem_cons.mpr ⟨(k_wsX11_hasFault_wsX11_hasFault_r1 _ (List.mem_of_getElem? (i := 11) rfl)), List.forall_mem_cons.mpr ⟨(k_wsX11_hasFault_wsX11_hasFault_r1 _ (List.mem_of_getElem? (i := 12) rfl)), List.forall_mem_cons.mpr ⟨(k_wsX11_hasFault_wsX11_hasFault_r1 _ (List.mem_of_getElem? (i := 0) rfl)), List.forall_mem_cons.mpr ⟨(k_wsX11_hasFault_wsX11_hasFault_r1 _ (List.mem_of_getElem? (i := 4) rfl)), List.forall_mem_cons.mpr ⟨(k_wsX11_hasFault_wsX11_hasFault_r1 _ (List.mem_of_getElem? (i := 1) rfl)), List.forall_mem_cons.mpr ⟨(k_wsX11_hasFault_wsX11_hasFault_r1 _ (List.mem_of_getElem? (i := 2) rfl)), List.forall_mem_cons.mpr ⟨(k_wsX11_hasFault_wsX11_hasFault_r1 _ (List.mem_of_getElem? (i := 13) rfl)), List.forall_mem_cons.mpr ⟨(k_wsX11_hasFault_wsX11_hasFault_r1 _ (List.mem_of_getElem? (i := 14) rfl)), List.forall_mem_cons.mpr ⟨(k_wsX11_hasFault_wsX11_hasFault_r1 _ (List.mem_of_getElem? (i := 15) rfl)), List.forall_mem_cons.mpr ⟨(k_wsX11_hasFault_wsX11_hasFault_r1 _ (List.mem_of_getElem? (i := 16) rfl)), List.forall_mem_cons.mpr ⟨(k_wsX11_hasFault_wsX11_hasFault_r1 _ (List.mem_of_getElem? (i := 8) rfl)), List.forall_mem_cons.mpr ⟨(k_wsX11_hasFault_wsX11_hasFault_r1 _ (List.mem_of_getElem? (i := 17) rfl)), List.forall_mem_cons.mpr ⟨(k_wsX11_hasFault_wsX11_hasFault_r1 _ (List.mem_of_getElem? (i := 18) rfl)), List.forall_mem_cons.mpr ⟨(k_wsX11_hasFault_wsX11_hasFault_r1 _ (List.mem_of_getElem? (i := 19) rfl)), List.forall_mem_cons.mpr ⟨(k_wsX11_hasFault_wsX11_hasFault_r1 _ (List.mem_of_getElem? (i := 20) rfl)), List.forall_mem_cons.mpr ⟨(k_wsX11_hasFault_wsX11_hasFault_r1 _ (List.mem_of_getElem? (i := 21) rfl)), List.forall_mem_cons.mpr ⟨(k_wsX11_hasFault_wsX11_hasFault_r1 _ (List.mem_of_getElem? (i := 22) rfl)), List.forall_mem_cons.mpr ⟨(k_wsX11_hasFault_wsX11_hasFault_r1 _ (List.mem_of_getElem? (i := 23) rfl)), List.forall_mem_cons.mpr ⟨(k_wsX11_hasFault_wsX11_hasFault_r2 _ (List.mem_of_getElem? (i := 0) rfl)), List.forall_mem_cons.mpr ⟨(k_wsX11_hasFault_wsX11_hasFault_r2 _ (List.mem_of_getElem? (i := 1) rfl)), List.forall_mem_cons.mpr ⟨(k_wsX11_hasFault_wsX11_hasFault_r2 _ (List.mem_of_getElem? (i := 2) rfl)), List.forall_mem_cons.mpr ⟨(k_wsX11_hasFault_wsX11_hasFault_r2 _ (List.mem_of_getElem? (i := 3) rfl)), List.forall_mem_cons.mpr ⟨(k_wsX11_hasFault_wsX11_hasFault_r2 _ (List.mem_of_getElem? (i := 4) rfl)), fun _ h => absurd h List.not_mem_nil⟩⟩⟩⟩⟩⟩⟩⟩⟩⟩⟩⟩⟩⟩⟩⟩⟩⟩⟩⟩⟩⟩⟩⟩
set_option maxRecDepth 20000 in
theorem s_X11_hasFault_X11_readsItem_wsX11_readsItem_r2 : ∀ w ∈ wsX11_readsItem_r2, w ∈ wsX11_hasFault := List.forall_mem_cons.mpr ⟨(k_wsX11_hasFault_wsX11_hasFault_r2 _ (List.mem_of_getElem? (i := 5) rfl)), List.forall_mem_cons.mpr ⟨(k_wsX11_hasFault_wsX11_hasFault_r2 _ (List.mem_of_getElem? (i := 6) rfl)), List.forall_mem_cons.mpr ⟨(k_wsX11_hasFault_wsX11_hasFault_r2 _ (List.mem_of_getElem? (i := 7) rfl)), List.forall_mem_cons.mpr ⟨(k_wsX11_hasFault_wsX11_hasFault_r2 _ (List.mem_of_getElem? (i := 8) rfl)), List.forall_mem_cons.mpr ⟨(k_wsX11_hasFault_wsX11_hasFault_r2 _ (List.mem_of_getElem? (i := 9) rfl)), List.forall_mem_cons.mpr ⟨(k_wsX11_hasFault_wsX11_hasFault_r2 _ (List.mem_of_getElem? (i := 10) rfl)), List.forall_mem_cons.mpr ⟨(k_wsX11_hasFault_wsX11_hasFault_r2 _ (List.mem_of_getElem? (i := 11) rfl)), List.forall_mem_cons.mpr ⟨(k_wsX11_hasFault_wsX11_hasFault_r2 _ (List.mem_of_getElem? (i := 12) rfl)), List.forall_mem_cons.mpr ⟨(k_wsX11_hasFault_wsX11_hasFault_r2 _ (List.mem_of_getElem? (i := 13) rfl)), List.forall_mem_cons.mpr ⟨(k_wsX11_hasFault_wsX11_hasFault_r2 _ (List.mem_of_getElem? (i := 14) rfl)), List.forall_mem_cons.mpr ⟨(k_wsX11_hasFault_wsX11_hasFault_r2 _ (List.mem_of_getElem? (i := 15) rfl)), List.forall_mem_cons.mpr ⟨(k_wsX11_hasFault_wsX11_hasFault_r2 _ (List.mem_of_getElem? (i := 16) rfl)), List.forall_mem_cons.mpr ⟨(k_wsX11_hasFault_wsX11_hasFault_r2 _ (List.mem_of_getElem? (i := 17) rfl)), List.forall_mem_cons.mpr ⟨(k_wsX11_hasFault_wsX11_hasFault_r2 _ (List.mem_of_getElem? (i := 18) rfl)), List.forall_mem_cons.mpr ⟨(k_wsX11_hasFault_wsX11_hasFault_r2 _ (List.mem_of_getElem? (i := 19) rfl)), List.forall_mem_cons.mpr ⟨(k_wsX11_hasFault_wsX11_hasFault_r2 _ (List.mem_of_getElem? (i := 20) rfl)), List.forall_mem_cons.mpr ⟨(k_wsX11_hasFault_wsX11_hasFault_r2 _ (List.mem_of_getElem? (i := 21) rfl)), List.forall_mem_cons.mpr ⟨(k_wsX11_hasFault_wsX11_hasFault_r2 _ (List.mem_of_getElem? (i := 22) rfl)), List.forall_mem_cons.mpr ⟨(k_wsX11_hasFault_wsX11_hasFault_r2 _ (List.mem_of_getElem? (i := 23) rfl)), List.forall_mem_cons.mpr ⟨(k_wsX11_hasFault_wsX11_hasFault_r3 _ (List.mem_of_getElem? (i := 0) rfl)), List.forall_mem_cons.mpr ⟨(k_wsX11_hasFault_wsX11_hasFault_r3 _ (List.mem_of_getElem? (i := 1) rfl)), List.forall_mem_cons.mpr ⟨(k_wsX11_hasFault_wsX11_hasFault_r3 _ (List.mem_of_getElem? (i := 2) rfl)), List.forall_mem_cons.mpr ⟨(k_wsX11_hasFault_wsX11_hasFault_r3 _ (List.mem_of_getElem? (i := 3) rfl)), List.forall_mem_cons.mpr ⟨(k_wsX11_hasFault_wsX11_hasFault_r3 _ (List.mem_of_getElem? (i := 4) rfl)), fun _ h => absurd h List.not_mem_nil⟩⟩⟩⟩⟩⟩⟩⟩⟩⟩⟩⟩⟩⟩⟩⟩⟩⟩⟩⟩⟩⟩⟩⟩
set_option maxRecDepth 20000 in
theorem s_X11_hasFault_X11_readsItem_wsX11_readsItem_r3 : ∀ w ∈ wsX11_readsItem_r3, w ∈ wsX11_hasFault := List.forall_mem_cons.mpr ⟨(k_wsX11_hasFault_wsX11_hasFault_r3 _ (List.mem_of_getElem? (i := 5) rfl)), fun _ h => absurd h List.not_mem_nil⟩
theorem ggX11_hasFault_X11_readsItem : GoodIn wsX11_hasFault wsX11_readsItem := goodIn_sub (fun w h => (List.mem_cons.mp h).elim (fun e => ft_me e (k_wsX11_hasFault_wsX11_hasFault_r1 _ (List.mem_of_getElem? (i := 9) rfl))) (fun h => (List.mem_append.mp h).elim (fun h => (List.mem_append.mp h).elim (fun h => s_X11_hasFault_X11_readsItem_wsX11_readsItem_r1 w h) (fun h => (List.mem_append.mp h).elim (fun h => s_X11_hasFault_X11_readsItem_wsX11_readsItem_r2 w h) (fun h => s_X11_hasFault_X11_readsItem_wsX11_readsItem_r3 w h))) (fun h => k_wsX11_hasFault_wsX110 w h))) gw_wsX11_readsItem
theorem gX11_hasFault_X11_readsItem : GoodIn wsX11_hasFault (wsV RX11 164 RX11 yX11_readsItem wsX11_readsItem) := goodIn_app (goodIn_sub (List.forall_mem_cons.mpr ⟨(k_wsX11_hasFault_wsX11_hasFault_r1 _ (List.mem_of_getElem? (i := 5) rfl)), List.forall_mem_cons.mpr ⟨(k_wsX11_hasFault_wsX11_hasFault_r1 _ (List.mem_of_getElem? (i := 6) rfl)), List.forall_mem_cons.mpr ⟨(k_wsX11_hasFault_wsX11_hasFault_r1 _ (List.mem_of_getElem? (i := 7) rfl)), List.forall_mem_cons.mpr ⟨(k_wsX11_hasFault_wsX11_hasFault_r1 _ (List.mem_of_getElem? (i := 8) rfl)), fun _ h => absurd h List.not_mem_nil⟩⟩⟩⟩) (by decide +kernel)) ggX11_hasFault_X11_readsItem
theorem dX11_hasFault_0 : decode cX11_hasFault 0 = .ok (.aload_n 0, 1) := by decide +kernel
theorem dX11_hasFault_1 : decode cX11_hasFault 1 = .ok (.getfield 19, 3) := by decide +kernel
theorem dX11_hasFault_4 : decode cX11_hasFault 4 = .ok (.iconst 0, 1) := by decide +kernel
theorem dX11_hasFault_5 : decode cX11_hasFault 5 = .ok (.sipush 200, 3) := by decide +kernel
theorem dX11_hasFault_8 : decode cX11_hasFault 8 = .ok (.iastore, 1) := by decide +kernel
theorem dX11_hasFault_9 : decode cX11_hasFault 9 = .ok (.aload_n 0, 1) := by decide +kernel
theorem dX11_hasFault_10 : decode cX11_hasFault 10 = .ok (.getfield 19, 3) := by decide +kernel
theorem dX11_hasFault_13 : decode cX11_hasFault 13 = .ok (.iconst 1, 1) := by decide +kernel
theorem dX11_hasFault_14 : decode cX11_hasFault 14 = .ok (.bipush 10, 2) := by decide +kernel
theorem dX11_hasFault_16 : decode cX11_hasFault 16 = .ok (.iastore, 1) := by decide +kernel
theorem dX11_hasFault_17 : decode cX11_hasFault 17 = .ok (.aload_n 0, 1) := by decide +kernel
theorem dX11_hasFault_18 : decode cX11_hasFault 18 = .ok (.getfield 19, 3) := by decide +kernel
theorem dX11_hasFault_21 : decode cX11_hasFault 21 = .ok (.iconst 2, 1) := by decide +kernel
theorem dX11_hasFault_22 : decode cX11_hasFault 22 = .ok (.sipush 12000, 3) := by decide +kernel
theorem dX11_hasFault_25 : decode cX11_hasFault 25 = .ok (.iastore, 1) := by decide +kernel
theorem dX11_hasFault_26 : decode cX11_hasFault 26 = .ok (.aload_n 0, 1) := by decide +kernel
theorem dX11_hasFault_27 : decode cX11_hasFault 27 = .ok (.getfield 19, 3) := by decide +kernel
theorem dX11_hasFault_30 : decode cX11_hasFault 30 = .ok (.iconst 3, 1) := by decide +kernel
theorem dX11_hasFault_31 : decode cX11_hasFault 31 = .ok (.iconst 0, 1) := by decide +kernel
theorem dX11_hasFault_32 : decode cX11_hasFault 32 = .ok (.iastore, 1) := by decide +kernel
theorem dX11_hasFault_33 : decode cX11_hasFault 33 = .ok (.aload_n 0, 1) := by decide +kernel
theorem dX11_hasFault_34 : decode cX11_hasFault 34 = .ok (.iconst 0, 1) := by decide +kernel
theorem dX11_hasFault_35 : decode cX11_hasFault 35 = .ok (.putfield 100, 3) := by decide +kernel
theorem dX11_hasFault_38 : decode cX11_hasFault 38 = .ok (.iconst 0, 1) := by decide +kernel
theorem dX11_hasFault_39 : decode cX11_hasFault 39 = .ok (.istore_n 1, 1) := by decide +kernel
theorem dX11_hasFault_40 : decode cX11_hasFault 40 = .ok (.aload_n 0, 1) := by decide +kernel
theorem dX11_hasFault_41 : decode cX11_hasFault 41 = .ok (.getfield 100, 3) := by decide +kernel
theorem dX11_hasFault_44 : decode cX11_hasFault 44 = .ok (.aload_n 0, 1) := by decide +kernel
theorem dX11_hasFault_45 : decode cX11_hasFault 45 = .ok (.getfield 96, 3) := by decide +kernel
theorem dX11_hasFault_48 : decode cX11_hasFault 48 = .ok (.if_icmp .ge 35, 3) := by decide +kernel
theorem dX11_hasFault_51 : decode cX11_hasFault 51 = .ok (.aload_n 0, 1) := by decide +kernel
theorem dX11_hasFault_52 : decode cX11_hasFault 52 = .ok (.aload_n 0, 1) := by decide +kernel
theorem dX11_hasFault_53 : decode cX11_hasFault 53 = .ok (.getfield 100, 3) := by decide +kernel
theorem dX11_hasFault_56 : decode cX11_hasFault 56 = .ok (.putfield 161, 3) := by decide +kernel
theorem dX11_hasFault_59 : decode cX11_hasFault 59 = .ok (.aload_n 0, 1) := by decide +kernel
theorem dX11_hasFault_60 : decode cX11_hasFault 60 = .ok (.iload_n 1, 1) := by decide +kernel
theorem dX11_hasFault_61 : decode cX11_hasFault 61 = .ok (.invokevirtual 164, 3) := by decide +kernel
theorem dX11_hasFault_64 : decode cX11_hasFault 64 = .ok (.ifCond .ne 5, 3) := by decide +kernel
theorem dX11_hasFault_67 : decode cX11_hasFault 67 = .ok (.iconst 1, 1) := by decide +kernel
theorem dX11_hasFault_68 : decode cX11_hasFault 68 = .ok (.ireturn, 1) := by decide +kernel
theorem dX11_hasFault_69 : decode cX11_hasFault 69 = .ok (.iload_n 1, 1) := by decide +kernel
theorem dX11_hasFault_70 : decode cX11_hasFault 70 = .ok (.iconst 1, 1) := by decide +kernel
theorem dX11_hasFault_71 : decode cX11_hasFault 71 = .ok (.aload_n 0, 1) := by decide +kernel
theorem dX11_hasFault_72 : decode cX11_hasFault 72 = .ok (.getfield 22, 3) := by decide +kernel
theorem dX11_hasFault_75 : decode cX11_hasFault 75 = .ok (.iconst 2, 1) := by decide +kernel
theorem dX11_hasFault_76 : decode cX11_hasFault 76 = .ok (.iaload, 1) := by decide +kernel
theorem dX11_hasFault_77 : decode cX11_hasFault 77 = .ok (.ishl, 1) := by decide +kernel
theorem dX11_hasFault_78 : decode cX11_hasFault 78 = .ok (.ior, 1) := by decide +kernel
theorem dX11_hasFault_79 : decode cX11_hasFault 79 = .ok (.istore_n 1, 1) := by decide +kernel
theorem dX11_hasFault_80 : decode cX11_hasFault 80 = .ok (.goto (-40), 3) := by decide +kernel
theorem dX11_hasFault_83 : decode cX11_hasFault 83 = .ok (.iconst 0, 1) := by decide +kernel
theorem dX11_hasFault_84 : decode cX11_hasFault 84 = .ok (.ireturn, 1) := by decide +kernel
theorem ggX11_fault_X11_in : GoodIn wsX11_fault wsX11_in := goodIn_sub (fun w h => (List.mem_cons.mp h).elim (fun e => ft_me e (k_wsX11_fault_wsX11_fault_r1 _ (List.mem_of_getElem? (i := 9) rfl))) (fun h => absurd h List.not_mem_nil)) gw_wsX11_in
theorem gX11_fault_X11_in : GoodIn wsX11_fault (va_wsS RX11 91 yX11_in wsX11_in) := goodIn_app (goodIn_sub (List.forall_mem_cons.mpr ⟨(k_wsX11_fault_wsX11_fault_r1 _ (List.mem_of_getElem? (i := 6) rfl)), List.forall_mem_cons.mpr ⟨(k_wsX11_fault_wsX11_fault_r1 _ (List.mem_of_getElem? (i := 7) rfl)), List.forall_mem_cons.mpr ⟨(k_wsX11_fault_wsX11_fault_r1 _ (List.mem_of_getElem? (i := 8) rfl)), fun _ h => absurd h List.not_mem_nil⟩⟩⟩) (by decide +kernel)) ggX11_fault_X11_in
set_option maxRecDepth 20000 in
theorem s_X11_fault_X11_hasFault_wsX11_hasFault_r1 : ∀ w ∈ wsX11_hasFault_r1, w ∈ wsX11_fault := List.forall_mem_cons.mpr ⟨(k_wsX11_fault_wsX11_fault_r1 _ (List.mem_of_getElem? (i := 14) rfl)), List.forall_mem_cons.mpr ⟨(k_wsX11_fault_wsX11_fault_r1 _ (List.mem_of_getElem? (i := 15) rfl)), List.forall_mem_cons.mpr ⟨(k_wsX11_fault_wsX11_fault_r1 _ (List.mem_of_getElem? (i := 16) rfl)), List.forall_mem_cons.mpr ⟨(k_wsX11_fault_wsX11_fault_r1 _ (List.mem_of_getElem? (i := 3) rfl)), List.forall_mem_cons.mpr ⟨(k_wsX11_fault_wsX11_fault_r1 _ (List.mem_of_getElem? (i := 17) rfl)), List.forall_mem_cons.mpr ⟨(k_wsX11_fault_wsX11_fault_r1 _ (List.mem_of_getElem? (i := 18) rfl)), List.forall_mem_cons.mpr ⟨(k_wsX11_fault_wsX11_fault_r1 _ (List.mem_of_getElem? (i := 19) rfl)), List.forall_mem_cons.mpr ⟨(k_wsX11_fault_wsX11_fault_r1 _ (List.mem_of_getElem? (i := 20) rfl)), List.forall_mem_cons.mpr ⟨(k_wsX11_fault_wsX11_fault_r1 _ (List.mem_of_getElem? (i := 8) rfl)), List.forall_mem_cons.mpr ⟨(k_wsX11_fault_wsX11_fault_r1 _ (List.mem_of_getElem? (i := 21) rfl)), List.forall_mem_cons.mpr ⟨(k_wsX11_fault_wsX11_fault_r1 _ (List.mem_of_getElem? (i := 4) rfl)), List.forall_mem_cons.mpr ⟨(k_wsX11_fault_wsX11_fault_r1 _ (List.mem_of_getElem? (i := 5) rfl)), List.forall_mem_cons.mpr ⟨(k_wsX11_fault_wsX11_fault_r1 _ (List.mem_of_getElem? (i := 22) rfl)), List.forall_mem_cons.mpr ⟨(k_wsX11_fault_wsX11_fault_r1 _ (List.mem_of_getElem? (i := 23) rfl)), List.forall_mem_cons.mpr ⟨(k_wsX11_fault_wsX11_fault_r2 _ (List.mem_of_getElem? (i := 0) rfl)), List.forall_mem_cons.mpr ⟨(k_wsX11_fault_wsX11_fault_r2 _ (List.mem_of_getElem? (i := 1) rfl)), List.forall_mem_cons.mpr ⟨(k_wsX11_fault_wsX11_fault_r2 _ (List.mem_of_getElem? (i := 2) rfl)), List.forall_mem_cons.mpr ⟨(k_wsX11_fault_wsX11_fault_r2 _ (List.mem_of_getElem? (i := 3) rfl)), List.forall_mem_cons.mpr ⟨(k_wsX11_fault_wsX11_fault_r2 _ (List.mem_of_getElem? (i := 4) rfl)), List.forall_mem_cons.mpr ⟨(k_wsX11_fault_wsX11_fault_r2 _ (List.mem_of_getElem? (i := 5) rfl)), List.forall_mem_cons.mpr ⟨(k_wsX11_fault_wsX11_fault_r1 _ (List.mem_of_getElem? (i := 6) rfl)), List.forall_mem_cons.mpr ⟨(k_wsX11_fault_wsX11_fault_r1 _ (List.mem_of_getElem? (i := 7) rfl)), List.forall_mem_cons.mpr ⟨(k_wsX11_fault_wsX11_fault_r1 _ (List.mem_of_getElem? (i := 9) rfl)), List.forall_mem_cons.mpr ⟨(k_wsX11_fault_wsX11_fault_r2 _ (List.mem_of_getElem? (i := 6) rfl)), fun _ h => absurd h List.not_mem_nil⟩⟩⟩⟩⟩⟩⟩⟩⟩⟩⟩⟩⟩⟩⟩⟩⟩⟩⟩⟩⟩⟩⟩⟩
set_option maxRecDepth 20000 in
theorem s_X11_fault_X11_hasFault_wsX11_hasFault_r2 : ∀ w ∈ wsX11_hasFault_r2, w ∈ wsX11_fault := List.forall_mem_cons.mpr ⟨(k_wsX11_fault_wsX11_fault_r2 _ (List.mem_of_getElem? (i := 7) rfl)), List.forall_mem_cons.mpr ⟨(k_wsX11_fault_wsX11_fault_r2 _ (List.mem_of_getElem? (i := 8) rfl)), List.forall_mem_cons.mpr ⟨(k_wsX11_fault_wsX11_fault_r2 _ (List.mem_of_getElem? (i := 9) rfl)), List.forall_mem_cons.mpr ⟨(k_wsX11_fault_wsX11_fault_r2 _ (List.mem_of_getElem? (i := 10) rfl)), List.forall_mem_cons.mpr ⟨(k_wsX11_fault_wsX11_fault_r2 _ (List.mem_of_getElem? (i := 11) rfl)), List.forall_mem_cons.mpr ⟨(k_wsX11_fault_wsX11_fault_r2 _ (List.mem_of_getElem? (i := 12) rfl)), List.forall_mem_cons.mpr ⟨(k_wsX11_fault_wsX11_fault_r2 _ (List.mem_of_getElem? (i := 13) rfl)), List.forall_mem_cons.mpr ⟨(k_wsX11_fault_wsX11_fault_r2 _ (List.mem_of_getElem? (i := 14) rfl)), List.forall_mem_cons.mpr ⟨(k_wsX11_fault_wsX11_fault_r2 _ (List.mem_of_getElem? (i := 15) rfl)), List.forall_mem_cons.mpr ⟨(k_wsX11_fault_wsX11_fault_r2 _ (List.mem_of_getElem? (i := 16) rfl)), List.forall_mem_cons.mpr ⟨(k_wsX11_fault_wsX11_fault_r2 _ (List.mem_of_getElem? (i := 17) rfl)), List.forall_mem_cons.mpr ⟨(k_wsX11_fault_wsX11_fault_r2 _ (List.mem_of_getElem? (i := 18) rfl)), List.forall_mem_cons.mpr ⟨(k_wsX11_fault_wsX11_fault_r2 _ (List.mem_of_getElem? (i := 19) rfl)), List.forall_mem_cons.mpr ⟨(k_wsX11_fault_wsX11_fault_r2 _ (List.mem_of_getElem? (i := 20) rfl)), List.forall_mem_cons.mpr ⟨(k_wsX11_fault_wsX11_fault_r2 _ (List.mem_of_getElem? (i := 21) rfl)), List.forall_mem_cons.mpr ⟨(k_wsX11_fault_wsX11_fault_r2 _ (List.mem_of_getElem? (i := 22) rfl)), List.forall_mem_cons.mpr ⟨(k_wsX11_fault_wsX11_fault_r2 _ (List.mem_of_getElem? (i := 23) rfl)), List.forall_mem_cons.mpr ⟨(k_wsX11_fault_wsX11_fault_r3 _ (List.mem_of_getElem? (i := 0) rfl)), List.forall_mem_cons.mpr ⟨(k_wsX11_fault_wsX11_fault_r3 _ (List.mem_of_getElem? (i := 1) rfl)), List.forall_mem_cons.mpr ⟨(k_wsX11_fault_wsX11_fault_r3 _ (List.mem_of_getElem? (i := 2) rfl)), List.forall_mem_cons.mpr ⟨(k_wsX11_fault_wsX11_fault_r3 _ (List.mem_of_getElem? (i := 3) rfl)), List.forall_mem_cons.mpr ⟨(k_wsX11_fault_wsX11_fault_r3 _ (List.mem_of_getElem? (i := 4) rfl)), List.forall_mem_cons.mpr ⟨(k_wsX11_fault_wsX11_fault_r3 _ (List.mem_of_getElem? (i := 5) rfl)), List.forall_mem_cons.mpr ⟨(k_wsX11_fault_wsX11_fault_r3 _ (List.mem_of_getElem? (i := 6) rfl)), fun _ h => absurd h List.not_mem_nil⟩⟩⟩⟩⟩⟩⟩⟩⟩⟩⟩⟩⟩⟩⟩⟩⟩⟩⟩⟩⟩⟩⟩⟩
set_option maxRecDepth 20000 in
theorem s_X11_fault_X11_hasFault_wsX11_hasFault_r3 : ∀ w ∈ wsX11_hasFault_r3, w ∈ wsX11_fault := List.forall_mem_cons.mpr ⟨(k_wsX11_fault_wsX11_fault_r3 _ (List.mem_of_getElem? (i := 7) rfl)), List.forall_mem_cons.mpr ⟨(k_wsX11_fault_wsX11_fault_r3 _ (List.mem_of_getElem? (i := 8) rfl)), List.forall_mem_cons.mpr ⟨(k_wsX11_fault_wsX11_fault_r3 _ (List.mem_of_getElem? (i := 9) rfl)), List.forall_mem_cons.mpr ⟨(k_wsX11_fault_wsX11_fault_r3 _ (List.mem_of_getElem? (i := 10) rfl)), List.forall_mem_cons.mpr ⟨(k_wsX11_fault_wsX11_fault_r3 _ (List.mem_of_getElem? (i := 11) rfl)), List.forall_mem_cons.mpr ⟨(k_wsX11_fault_wsX11_fault_r3 _ (List.mem_of_getElem? (i := 12) rfl)), fun _ h => absurd h List.not_mem_nil⟩⟩⟩⟩⟩⟩
theorem ggX11_fault_X11_hasFault : GoodIn wsX11_fault wsX11_hasFault := goodIn_sub (fun w h => (List.mem_cons.mp h).elim (fun e => ft_me e (k_wsX11_fault_wsX11_fault_r1 _ (List.mem_of_getElem? (i := 13) rfl))) (fun h => (List.mem_append.mp h).elim (fun h => (List.mem_append.mp h).elim (fun h => s_X11_fault_X11_hasFault_wsX11_hasFault_r1 w h) (fun h => (List.mem_append.mp h).elim (fun h => s_X11_fault_X11_hasFault_wsX11_hasFault_r2 w h) (fun h => s_X11_fault_X11_hasFault_wsX11_hasFault_r3 w h))) (fun h => k_wsX11_fault_wsX110 w h))) gw_wsX11_hasFault
theorem gX11_fault_X11_hasFault : GoodIn wsX11_fault (wsV RX11 169 RX11 yX11_hasFault wsX11_hasFault) := goodIn_app (goodIn_sub (List.forall_mem_cons.mpr ⟨(k_wsX11_fault_wsX11_fault_r1 _ (List.mem_of_getElem? (i := 10) rfl)), List.forall_mem_cons.mpr ⟨(k_wsX11_fault_wsX11_fault_r1 _ (List.mem_of_getElem? (i := 11) rfl)), List.forall_mem_cons.mpr ⟨(k_wsX11_fault_wsX11_fault_r1 _ (List.mem_of_getElem? (i := 12) rfl)), List.forall_mem_cons.mpr ⟨(k_wsX11_fault_wsX11_fault_r1 _ (List.mem_of_getElem? (i := 8) rfl)), fun _ h => absurd h List.not_mem_nil⟩⟩⟩⟩) (by decide +kernel)) ggX11_fault_X11_hasFault
theorem dX11_fault_0 : decode cX11_fault 0 = .ok (.iload_n 1, 1) := by decide +kernel
theorem dX11_fault_1 : decode cX11_fault 1 = .ok (.i2l, 1) := by decide +kernel
theorem dX11_fault_2 : decode cX11_fault 2 = .ok (.lconst 0, 1) := by decide +kernel
theorem dX11_fault_3 : decode cX11_fault 3 = .ok (.ldc2_w 167, 3) := by decide +kernel
theorem dX11_fault_6 : decode cX11_fault 6 = .ok (.invokestatic 91, 3) := by decide +kernel
theorem dX11_fault_9 : decode cX11_fault 9 = .ok (.ifCond .ne 6, 3) := by decide +kernel
theorem dX11_fault_12 : decode cX11_fault 12 = .ok (.ldc 95, 2) := by decide +kernel
theorem dX11_fault_14 : decode cX11_fault 14 = .ok (.ireturn, 1) := by decide +kernel
theorem dX11_fault_15 : decode cX11_fault 15 = .ok (.aload_n 0, 1) := by decide +kernel
theorem dX11_fault_16 : decode cX11_fault 16 = .ok (.invokevirtual 169, 3) := by decide +kernel
theorem dX11_fault_19 : decode cX11_fault 19 = .ok (.ifCond .ne 8, 3) := by decide +kernel
theorem dX11_fault_22 : decode cX11_fault 22 = .ok (.ldc 173, 2) := by decide +kernel
theorem dX11_fault_24 : decode cX11_fault 24 = .ok (.goto 30, 3) := by decide +kernel
theorem dX11_fault_27 : decode cX11_fault 27 = .ok (.iload_n 1, 1) := by decide +kernel
theorem dX11_fault_28 : decode cX11_fault 28 = .ok (.ifCond .ne 10, 3) := by decide +kernel
theorem dX11_fault_31 : decode cX11_fault 31 = .ok (.aload_n 0, 1) := by decide +kernel
theorem dX11_fault_32 : decode cX11_fault 32 = .ok (.getfield 161, 3) := by decide +kernel
theorem dX11_fault_35 : decode cX11_fault 35 = .ok (.goto 19, 3) := by decide +kernel
theorem dX11_fault_38 : decode cX11_fault 38 = .ok (.iload_n 1, 1) := by decide +kernel
theorem dX11_fault_39 : decode cX11_fault 39 = .ok (.iconst 1, 1) := by decide +kernel
theorem dX11_fault_40 : decode cX11_fault 40 = .ok (.if_icmp .ne 10, 3) := by decide +kernel
theorem dX11_fault_43 : decode cX11_fault 43 = .ok (.aload_n 0, 1) := by decide +kernel
theorem dX11_fault_44 : decode cX11_fault 44 = .ok (.getfield 136, 3) := by decide +kernel
theorem dX11_fault_47 : decode cX11_fault 47 = .ok (.goto 7, 3) := by decide +kernel
theorem dX11_fault_50 : decode cX11_fault 50 = .ok (.aload_n 0, 1) := by decide +kernel
theorem dX11_fault_51 : decode cX11_fault 51 = .ok (.getfield 139, 3) := by decide +kernel
theorem dX11_fault_54 : decode cX11_fault 54 = .ok (.ireturn, 1) := by decide +kernel
set_option maxRecDepth 20000 in
theorem s_X11_lay_X11_hasFault_wsX11_hasFault_r1 : ∀ w ∈ wsX11_hasFault_r1, w ∈ wsX11_lay := List.forall_mem_cons.mpr ⟨(k_wsX11_lay_wsX11_lay_r1 _ (List.mem_of_getElem? (i := 2) rfl)), List.forall_mem_cons.mpr ⟨(k_wsX11_lay_wsX11_lay_r1 _ (List.mem_of_getElem? (i := 8) rfl)), List.forall_mem_cons.mpr ⟨(k_wsX11_lay_wsX11_lay_r1 _ (List.mem_of_getElem? (i := 9) rfl)), List.forall_mem_cons.mpr ⟨(k_wsX11_lay_wsX11_lay_r1 _ (List.mem_of_getElem? (i := 10) rfl)), List.forall_mem_cons.mpr ⟨(k_wsX11_lay_wsX11_lay_r1 _ (List.mem_of_getElem? (i := 11) rfl)), List.forall_mem_cons.mpr ⟨(k_wsX11_lay_wsX11_lay_r1 _ (List.mem_of_getElem? (i := 12) rfl)), List.forall_mem_cons.mpr ⟨(k_wsX11_lay_wsX11_lay_r1 _ (List.mem_of_getElem? (i := 13) rfl)), List.forall_mem_cons.mpr ⟨(k_wsX11_lay_wsX11_lay_r1 _ (List.mem_of_getElem? (i := 14) rfl)), List.forall_mem_cons.mpr ⟨(k_wsX11_lay_wsX11_lay_r1 _ (List.mem_of_getElem? (i := 6) rfl)), List.forall_mem_cons.mpr ⟨(k_wsX11_lay_wsX11_lay_r1 _ (List.mem_of_getElem? (i := 15) rfl)), List.forall_mem_cons.mpr ⟨(k_wsX11_lay_wsX11_lay_r1 _ (List.mem_of_getElem? (i := 16) rfl)), List.forall_mem_cons.mpr ⟨(k_wsX11_lay_wsX11_lay_r1 _ (List.mem_of_getElem? (i := 17) rfl)), List.forall_mem_cons.mpr ⟨(k_wsX11_lay_wsX11_lay_r1 _ (List.mem_of_getElem? (i := 18) rfl)), List.forall_mem_cons.mpr ⟨(k_wsX11_lay_wsX11_lay_r1 _ (List.mem_of_getElem? (i := 19) rfl)), List.forall_mem_cons.mpr ⟨(k_wsX11_lay_wsX11_lay_r1 _ (List.mem_of_getElem? (i := 20) rfl)), List.forall_mem_cons.mpr ⟨(k_wsX11_lay_wsX11_lay_r1 _ (List.mem_of_getElem? (i := 21) rfl)), List.forall_mem_cons.mpr ⟨(k_wsX11_lay_wsX11_lay_r1 _ (List.mem_of_getElem? (i := 22) rfl)), List.forall_mem_cons.mpr ⟨(k_wsX11_lay_wsX11_lay_r1 _ (List.mem_of_getElem? (i := 23) rfl)), List.forall_mem_cons.mpr ⟨(k_wsX11_lay_wsX11_lay_r2 _ (List.mem_of_getElem? (i := 0) rfl)), List.forall_mem_cons.mpr ⟨(k_wsX11_lay_wsX11_lay_r2 _ (List.mem_of_getElem? (i := 1) rfl)), List.forall_mem_cons.mpr ⟨(k_wsX11_lay_wsX11_lay_r2 _ (List.mem_of_getElem? (i := 2) rfl)), List.forall_mem_cons.mpr ⟨(k_wsX11_lay_wsX11_lay_r2 _ (List.mem_of_getElem? (i := 3) rfl)), List.forall_mem_cons.mpr ⟨(k_wsX11_lay_wsX11_lay_r2 _ (List.mem_of_getElem? (i := 4) rfl)), List.forall_mem_cons.mpr ⟨(k_wsX11_lay_wsX11_lay_r2 _ (List.mem_of_getElem? (i := 5) rfl)), fun _ h => absurd h List.not_mem_nil⟩⟩⟩⟩⟩⟩⟩⟩⟩⟩⟩⟩⟩⟩⟩⟩⟩⟩⟩⟩⟩⟩⟩⟩
set_option maxRecDepth 20000 in
theorem s_X11_lay_X11_hasFault_wsX11_hasFault_r2 : ∀ w ∈ wsX11_hasFault_r2, w ∈ wsX11_lay := List.forall_mem_cons.mpr ⟨(k_wsX11_lay_wsX11_lay_r2 _ (List.mem_of_getElem? (i := 6) rfl)), List.forall_mem_cons.mpr ⟨(k_wsX11_lay_wsX11_lay_r2 _ (List.mem_of_getElem? (i := 7) rfl)), List.forall_mem_cons.mpr ⟨(k_wsX11_lay_wsX11_lay_r2 _ (List.mem_of_getElem? (i := 8) rfl)), List.forall_mem_cons.mpr ⟨(k_wsX11_lay_wsX11_lay_r2 _ (List.mem_of_getElem? (i := 9) rfl)), List.forall_mem_cons.mpr ⟨(k_wsX11_lay_wsX11_lay_r2 _ (List.mem_of_getElem? (i := 10) rfl)), List.forall_mem_cons.mpr ⟨(k_wsX11_lay_wsX11_lay_r2 _ (List.mem_of_getElem? (i := 11) rfl)), List.forall_mem_cons.mpr ⟨(k_wsX11_lay_wsX11_lay_r2 _ (List.mem_of_getElem? (i := 12) rfl)), List.forall_mem_cons.mpr ⟨(k_wsX11_lay_wsX11_lay_r2 _ (List.mem_of_getElem? (i := 13) rfl)), List.forall_mem_cons.mpr ⟨(k_wsX11_lay_wsX11_lay_r2 _ (List.mem_of_getElem? (i := 14) rfl)), List.forall_mem_cons.mpr ⟨(k_wsX11_lay_wsX11_lay_r2 _ (List.mem_of_getElem? (i := 15) rfl)), List.forall_mem_cons.mpr ⟨(k_wsX11_lay_wsX11_lay_r2 _ (List.mem_of_getElem? (i := 16) rfl)), List.forall_mem_cons.mpr ⟨(k_wsX11_lay_wsX11_lay_r2 _ (List.mem_of_getElem? (i := 17) rfl)), List.forall_mem_cons.mpr ⟨(k_wsX11_lay_wsX11_lay_r2 _ (List.mem_of_getElem? (i := 18) rfl)), List.forall_mem_cons.mpr ⟨(k_wsX11_lay_wsX11_lay_r2 _ (List.mem_of_getElem? (i := 19) rfl)), List.forall_mem_cons.mpr ⟨(k_wsX11_lay_wsX11_lay_r2 _ (List.mem_of_getElem? (i := 20) rfl)), List.forall_mem_cons.mpr ⟨(k_wsX11_lay_wsX11_lay_r2 _ (List.mem_of_getElem? (i := 21) rfl)), List.forall_mem_cons.mpr ⟨(k_wsX11_lay_wsX11_lay_r2 _ (List.mem_of_getElem? (i := 22) rfl)), List.forall_mem_cons.mpr ⟨(k_wsX11_lay_wsX11_lay_r2 _ (List.mem_of_getElem? (i := 23) rfl)), List.forall_mem_cons.mpr ⟨(k_wsX11_lay_wsX11_lay_r3 _ (List.mem_of_getElem? (i := 0) rfl)), List.forall_mem_cons.mpr ⟨(k_wsX11_lay_wsX11_lay_r3 _ (List.mem_of_getElem? (i := 1) rfl)), List.forall_mem_cons.mpr ⟨(k_wsX11_lay_wsX11_lay_r3 _ (List.mem_of_getElem? (i := 2) rfl)), List.forall_mem_cons.mpr ⟨(k_wsX11_lay_wsX11_lay_r3 _ (List.mem_of_getElem? (i := 3) rfl)), List.forall_mem_cons.mpr ⟨(k_wsX11_lay_wsX11_lay_r3 _ (List.mem_of_getElem? (i := 4) rfl)), List.forall_mem_cons.mpr ⟨(k_wsX11_lay_wsX11_lay_r3 _ (List.mem_of_getElem? (i := 5) rfl)), fun _ h => absurd h List.not_mem_nil⟩⟩⟩⟩⟩⟩⟩⟩⟩⟩⟩⟩⟩⟩⟩⟩⟩⟩⟩⟩⟩⟩⟩⟩
set_option maxRecDepth 20000 in
theorem s_X11_lay_X11_hasFault_wsX11_hasFault_r3 : ∀ w ∈ wsX11_hasFault_r3, w ∈ wsX11_lay := List.forall_mem_cons.mpr ⟨(k_wsX11_lay_wsX11_lay_r3 _ (List.mem_of_getElem? (i := 6) rfl)), List.forall_mem_cons.mpr ⟨(k_wsX11_lay_wsX11_lay_r3 _ (List.mem_of_getElem? (i := 7) rfl)), List.forall_mem_cons.mpr ⟨(k_wsX11_lay_wsX11_lay_r3 _ (List.mem_of_getElem? (i := 8) rfl)), List.forall_mem_cons.mpr ⟨(k_wsX11_lay_wsX11_lay_r3 _ (List.mem_of_getElem? (i := 9) rfl)), List.forall_mem_cons.mpr ⟨(k_wsX11_lay_wsX11_lay_r3 _ (List.mem_of_getElem? (i := 10) rfl)), List.forall_mem_cons.mpr ⟨(k_wsX11_lay_wsX11_lay_r3 _ (List.mem_of_getElem? (i := 11) rfl)), fun _ h => absurd h List.not_mem_nil⟩⟩⟩⟩⟩⟩
theorem ggX11_lay_X11_hasFault : GoodIn wsX11_lay wsX11_hasFault := goodIn_sub (fun w h => (List.mem_cons.mp h).elim (fun e => ft_me e (k_wsX11_lay_wsX11_lay_r1 _ (List.mem_of_getElem? (i := 7) rfl))) (fun h => (List.mem_append.mp h).elim (fun h => (List.mem_append.mp h).elim (fun h => s_X11_lay_X11_hasFault_wsX11_hasFault_r1 w h) (fun h => (List.mem_append.mp h).elim (fun h => s_X11_lay_X11_hasFault_wsX11_hasFault_r2 w h) (fun h => s_X11_lay_X11_hasFault_wsX11_hasFault_r3 w h))) (fun h => k_wsX11_lay_wsX110 w h))) gw_wsX11_hasFault
theorem gX11_lay_X11_hasFault : GoodIn wsX11_lay (wsV RX11 169 RX11 yX11_hasFault wsX11_hasFault) := goodIn_app (goodIn_sub (List.forall_mem_cons.mpr ⟨(k_wsX11_lay_wsX11_lay_r1 _ (List.mem_of_getElem? (i := 3) rfl)), List.forall_mem_cons.mpr ⟨(k_wsX11_lay_wsX11_lay_r1 _ (List.mem_of_getElem? (i := 4) rfl)), List.forall_mem_cons.mpr ⟨(k_wsX11_lay_wsX11_lay_r1 _ (List.mem_of_getElem? (i := 5) rfl)), List.forall_mem_cons.mpr ⟨(k_wsX11_lay_wsX11_lay_r1 _ (List.mem_of_getElem? (i := 6) rfl)), fun _ h => absurd h List.not_mem_nil⟩⟩⟩⟩) (by decide +kernel)) ggX11_lay_X11_hasFault
theorem ggX11_lay_X11_change : GoodIn wsX11_lay wsX11_change := goodIn_sub (fun w h => (List.mem_cons.mp h).elim (fun e => ft_me e (k_wsX11_lay_wsX11_lay_r3 _ (List.mem_of_getElem? (i := 15) rfl))) (fun h => (List.mem_append.mp h).elim (fun h => (List.forall_mem_cons.mpr ⟨(k_wsX11_lay_wsX11_lay_r3 _ (List.mem_of_getElem? (i := 16) rfl)), List.forall_mem_cons.mpr ⟨(k_wsX11_lay_wsX11_lay_r3 _ (List.mem_of_getElem? (i := 17) rfl)), List.forall_mem_cons.mpr ⟨(k_wsX11_lay_wsX11_lay_r1 _ (List.mem_of_getElem? (i := 1) rfl)), fun _ h => absurd h List.not_mem_nil⟩⟩⟩) w h) (fun h => k_wsX11_lay_wsX110 w h))) gw_wsX11_change
theorem gX11_lay_X11_change : GoodIn wsX11_lay (wsV RX11 174 RX11 yX11_change wsX11_change) := goodIn_app (goodIn_sub (List.forall_mem_cons.mpr ⟨(k_wsX11_lay_wsX11_lay_r3 _ (List.mem_of_getElem? (i := 12) rfl)), List.forall_mem_cons.mpr ⟨(k_wsX11_lay_wsX11_lay_r3 _ (List.mem_of_getElem? (i := 13) rfl)), List.forall_mem_cons.mpr ⟨(k_wsX11_lay_wsX11_lay_r3 _ (List.mem_of_getElem? (i := 14) rfl)), List.forall_mem_cons.mpr ⟨(k_wsX11_lay_wsX11_lay_r1 _ (List.mem_of_getElem? (i := 6) rfl)), fun _ h => absurd h List.not_mem_nil⟩⟩⟩⟩) (by decide +kernel)) ggX11_lay_X11_change
theorem dX11_lay_0 : decode cX11_lay 0 = .ok (.aload_n 0, 1) := by decide +kernel
theorem dX11_lay_1 : decode cX11_lay 1 = .ok (.invokevirtual 169, 3) := by decide +kernel
theorem dX11_lay_4 : decode cX11_lay 4 = .ok (.ifCond .eq 6, 3) := by decide +kernel
theorem dX11_lay_7 : decode cX11_lay 7 = .ok (.ldc 86, 2) := by decide +kernel
theorem dX11_lay_9 : decode cX11_lay 9 = .ok (.ireturn, 1) := by decide +kernel
theorem dX11_lay_10 : decode cX11_lay 10 = .ok (.aload_n 0, 1) := by decide +kernel
theorem dX11_lay_11 : decode cX11_lay 11 = .ok (.invokevirtual 174, 3) := by decide +kernel
theorem dX11_lay_14 : decode cX11_lay 14 = .ok (.iconst 0, 1) := by decide +kernel
theorem dX11_lay_15 : decode cX11_lay 15 = .ok (.istore_n 1, 1) := by decide +kernel
theorem dX11_lay_16 : decode cX11_lay 16 = .ok (.iload_n 1, 1) := by decide +kernel
theorem dX11_lay_17 : decode cX11_lay 17 = .ok (.bipush 44, 2) := by decide +kernel
theorem dX11_lay_19 : decode cX11_lay 19 = .ok (.if_icmp .ge 39, 3) := by decide +kernel
theorem dX11_lay_22 : decode cX11_lay 22 = .ok (.aload_n 0, 1) := by decide +kernel
theorem dX11_lay_23 : decode cX11_lay 23 = .ok (.getfield 7, 3) := by decide +kernel
theorem dX11_lay_26 : decode cX11_lay 26 = .ok (.iload_n 1, 1) := by decide +kernel
theorem dX11_lay_27 : decode cX11_lay 27 = .ok (.iload_n 1, 1) := by decide +kernel
theorem dX11_lay_28 : decode cX11_lay 28 = .ok (.iconst 4, 1) := by decide +kernel
theorem dX11_lay_29 : decode cX11_lay 29 = .ok (.iconst 4, 1) := by decide +kernel
theorem dX11_lay_30 : decode cX11_lay 30 = .ok (.aload_n 0, 1) := by decide +kernel
theorem dX11_lay_31 : decode cX11_lay 31 = .ok (.getfield 19, 3) := by decide +kernel
theorem dX11_lay_34 : decode cX11_lay 34 = .ok (.iconst 3, 1) := by decide +kernel
theorem dX11_lay_35 : decode cX11_lay 35 = .ok (.iaload, 1) := by decide +kernel
theorem dX11_lay_36 : decode cX11_lay 36 = .ok (.imul, 1) := by decide +kernel
theorem dX11_lay_37 : decode cX11_lay 37 = .ok (.iadd, 1) := by decide +kernel
theorem dX11_lay_38 : decode cX11_lay 38 = .ok (.if_icmp .ge 12, 3) := by decide +kernel
theorem dX11_lay_41 : decode cX11_lay 41 = .ok (.aload_n 0, 1) := by decide +kernel
theorem dX11_lay_42 : decode cX11_lay 42 = .ok (.getfield 19, 3) := by decide +kernel
theorem dX11_lay_45 : decode cX11_lay 45 = .ok (.iload_n 1, 1) := by decide +kernel
theorem dX11_lay_46 : decode cX11_lay 46 = .ok (.iaload, 1) := by decide +kernel
theorem dX11_lay_47 : decode cX11_lay 47 = .ok (.goto 4, 3) := by decide +kernel
theorem dX11_lay_50 : decode cX11_lay 50 = .ok (.iconst 0, 1) := by decide +kernel
theorem dX11_lay_51 : decode cX11_lay 51 = .ok (.iastore, 1) := by decide +kernel
theorem dX11_lay_52 : decode cX11_lay 52 = .ok (.iinc 1 1, 3) := by decide +kernel
theorem dX11_lay_55 : decode cX11_lay 55 = .ok (.goto (-39), 3) := by decide +kernel
theorem dX11_lay_58 : decode cX11_lay 58 = .ok (.aload_n 0, 1) := by decide +kernel
theorem dX11_lay_59 : decode cX11_lay 59 = .ok (.getfield 7, 3) := by decide +kernel
theorem dX11_lay_62 : decode cX11_lay 62 = .ok (.iconst 3, 1) := by decide +kernel
theorem dX11_lay_63 : decode cX11_lay 63 = .ok (.iaload, 1) := by decide +kernel
theorem dX11_lay_64 : decode cX11_lay 64 = .ok (.ireturn, 1) := by decide +kernel
theorem ggX11_partAt_X11_at : GoodIn wsX11_partAt wsX11_at := goodIn_sub (fun w h => (List.mem_cons.mp h).elim (fun e => ft_me e (List.mem_cons_of_mem _ (List.mem_append_left _ (List.mem_of_getElem? (i := 5) rfl)))) (fun h => (List.mem_append.mp h).elim (fun h => (List.forall_mem_cons.mpr ⟨(List.mem_cons_of_mem _ (List.mem_append_left _ (List.mem_of_getElem? (i := 0) rfl))), fun _ h => absurd h List.not_mem_nil⟩) w h) (fun h => k_wsX11_partAt_wsX110 w h))) gw_wsX11_at
theorem gX11_partAt_X11_at : GoodIn wsX11_partAt (wsV RX11 177 RX11 yX11_at wsX11_at) := goodIn_app (goodIn_sub (List.forall_mem_cons.mpr ⟨(List.mem_cons_of_mem _ (List.mem_append_left _ (List.mem_of_getElem? (i := 1) rfl))), List.forall_mem_cons.mpr ⟨(List.mem_cons_of_mem _ (List.mem_append_left _ (List.mem_of_getElem? (i := 2) rfl))), List.forall_mem_cons.mpr ⟨(List.mem_cons_of_mem _ (List.mem_append_left _ (List.mem_of_getElem? (i := 3) rfl))), List.forall_mem_cons.mpr ⟨(List.mem_cons_of_mem _ (List.mem_append_left _ (List.mem_of_getElem? (i := 4) rfl))), fun _ h => absurd h List.not_mem_nil⟩⟩⟩⟩) (by decide +kernel)) ggX11_partAt_X11_at
theorem dX11_partAt_0 : decode cX11_partAt 0 = .ok (.iconst (-1), 1) := by decide +kernel
theorem dX11_partAt_1 : decode cX11_partAt 1 = .ok (.istore_n 2, 1) := by decide +kernel
theorem dX11_partAt_2 : decode cX11_partAt 2 = .ok (.iconst 0, 1) := by decide +kernel
theorem dX11_partAt_3 : decode cX11_partAt 3 = .ok (.istore_n 3, 1) := by decide +kernel
theorem dX11_partAt_4 : decode cX11_partAt 4 = .ok (.iload_n 3, 1) := by decide +kernel
theorem dX11_partAt_5 : decode cX11_partAt 5 = .ok (.aload_n 0, 1) := by decide +kernel
theorem dX11_partAt_6 : decode cX11_partAt 6 = .ok (.getfield 7, 3) := by decide +kernel
theorem dX11_partAt_9 : decode cX11_partAt 9 = .ok (.iconst 3, 1) := by decide +kernel
theorem dX11_partAt_10 : decode cX11_partAt 10 = .ok (.iaload, 1) := by decide +kernel
theorem dX11_partAt_11 : decode cX11_partAt 11 = .ok (.if_icmp .ge 25, 3) := by decide +kernel
theorem dX11_partAt_14 : decode cX11_partAt 14 = .ok (.aload_n 0, 1) := by decide +kernel
theorem dX11_partAt_15 : decode cX11_partAt 15 = .ok (.iload_n 3, 1) := by decide +kernel
theorem dX11_partAt_16 : decode cX11_partAt 16 = .ok (.iconst 1, 1) := by decide +kernel
theorem dX11_partAt_17 : decode cX11_partAt 17 = .ok (.invokevirtual 177, 3) := by decide +kernel
theorem dX11_partAt_20 : decode cX11_partAt 20 = .ok (.iload_n 1, 1) := by decide +kernel
theorem dX11_partAt_21 : decode cX11_partAt 21 = .ok (.if_icmp .ne 7, 3) := by decide +kernel
theorem dX11_partAt_24 : decode cX11_partAt 24 = .ok (.iload_n 3, 1) := by decide +kernel
theorem dX11_partAt_25 : decode cX11_partAt 25 = .ok (.goto 4, 3) := by decide +kernel
theorem dX11_partAt_28 : decode cX11_partAt 28 = .ok (.iload_n 2, 1) := by decide +kernel
theorem dX11_partAt_29 : decode cX11_partAt 29 = .ok (.istore_n 2, 1) := by decide +kernel
theorem dX11_partAt_30 : decode cX11_partAt 30 = .ok (.iinc 3 1, 3) := by decide +kernel
theorem dX11_partAt_33 : decode cX11_partAt 33 = .ok (.goto (-29), 3) := by decide +kernel
theorem dX11_partAt_36 : decode cX11_partAt 36 = .ok (.iload_n 2, 1) := by decide +kernel
theorem dX11_partAt_37 : decode cX11_partAt 37 = .ok (.ireturn, 1) := by decide +kernel
theorem ggX11_addPart_X11_in : GoodIn wsX11_addPart wsX11_in := goodIn_sub (fun w h => (List.mem_cons.mp h).elim (fun e => ft_me e (k_wsX11_addPart_wsX11_addPart_r1 _ (List.mem_of_getElem? (i := 12) rfl))) (fun h => absurd h List.not_mem_nil)) gw_wsX11_in
theorem gX11_addPart_X11_in : GoodIn wsX11_addPart (va_wsS RX11 91 yX11_in wsX11_in) := goodIn_app (goodIn_sub (List.forall_mem_cons.mpr ⟨(k_wsX11_addPart_wsX11_addPart_r1 _ (List.mem_of_getElem? (i := 9) rfl)), List.forall_mem_cons.mpr ⟨(k_wsX11_addPart_wsX11_addPart_r1 _ (List.mem_of_getElem? (i := 10) rfl)), List.forall_mem_cons.mpr ⟨(k_wsX11_addPart_wsX11_addPart_r1 _ (List.mem_of_getElem? (i := 11) rfl)), fun _ h => absurd h List.not_mem_nil⟩⟩⟩) (by decide +kernel)) ggX11_addPart_X11_in
theorem ggX11_addPart_X11_partAt : GoodIn wsX11_addPart wsX11_partAt := goodIn_sub (fun w h => (List.mem_cons.mp h).elim (fun e => ft_me e (k_wsX11_addPart_wsX11_addPart_r1 _ (List.mem_of_getElem? (i := 16) rfl))) (fun h => (List.mem_append.mp h).elim (fun h => (List.forall_mem_cons.mpr ⟨(k_wsX11_addPart_wsX11_addPart_r1 _ (List.mem_of_getElem? (i := 1) rfl)), List.forall_mem_cons.mpr ⟨(k_wsX11_addPart_wsX11_addPart_r1 _ (List.mem_of_getElem? (i := 17) rfl)), List.forall_mem_cons.mpr ⟨(k_wsX11_addPart_wsX11_addPart_r1 _ (List.mem_of_getElem? (i := 18) rfl)), List.forall_mem_cons.mpr ⟨(k_wsX11_addPart_wsX11_addPart_r1 _ (List.mem_of_getElem? (i := 19) rfl)), List.forall_mem_cons.mpr ⟨(k_wsX11_addPart_wsX11_addPart_r1 _ (List.mem_of_getElem? (i := 11) rfl)), List.forall_mem_cons.mpr ⟨(k_wsX11_addPart_wsX11_addPart_r1 _ (List.mem_of_getElem? (i := 20) rfl)), fun _ h => absurd h List.not_mem_nil⟩⟩⟩⟩⟩⟩) w h) (fun h => k_wsX11_addPart_wsX110 w h))) gw_wsX11_partAt
theorem gX11_addPart_X11_partAt : GoodIn wsX11_addPart (wsV RX11 180 RX11 yX11_partAt wsX11_partAt) := goodIn_app (goodIn_sub (List.forall_mem_cons.mpr ⟨(k_wsX11_addPart_wsX11_addPart_r1 _ (List.mem_of_getElem? (i := 13) rfl)), List.forall_mem_cons.mpr ⟨(k_wsX11_addPart_wsX11_addPart_r1 _ (List.mem_of_getElem? (i := 14) rfl)), List.forall_mem_cons.mpr ⟨(k_wsX11_addPart_wsX11_addPart_r1 _ (List.mem_of_getElem? (i := 15) rfl)), List.forall_mem_cons.mpr ⟨(k_wsX11_addPart_wsX11_addPart_r1 _ (List.mem_of_getElem? (i := 11) rfl)), fun _ h => absurd h List.not_mem_nil⟩⟩⟩⟩) (by decide +kernel)) ggX11_addPart_X11_partAt
theorem ggX11_addPart_X11_change : GoodIn wsX11_addPart wsX11_change := goodIn_sub (fun w h => (List.mem_cons.mp h).elim (fun e => ft_me e (k_wsX11_addPart_wsX11_addPart_r2 _ (List.mem_of_getElem? (i := 0) rfl))) (fun h => (List.mem_append.mp h).elim (fun h => (List.forall_mem_cons.mpr ⟨(k_wsX11_addPart_wsX11_addPart_r2 _ (List.mem_of_getElem? (i := 1) rfl)), List.forall_mem_cons.mpr ⟨(k_wsX11_addPart_wsX11_addPart_r2 _ (List.mem_of_getElem? (i := 2) rfl)), List.forall_mem_cons.mpr ⟨(k_wsX11_addPart_wsX11_addPart_r1 _ (List.mem_of_getElem? (i := 1) rfl)), fun _ h => absurd h List.not_mem_nil⟩⟩⟩) w h) (fun h => k_wsX11_addPart_wsX110 w h))) gw_wsX11_change
theorem gX11_addPart_X11_change : GoodIn wsX11_addPart (wsV RX11 174 RX11 yX11_change wsX11_change) := goodIn_app (goodIn_sub (List.forall_mem_cons.mpr ⟨(k_wsX11_addPart_wsX11_addPart_r1 _ (List.mem_of_getElem? (i := 21) rfl)), List.forall_mem_cons.mpr ⟨(k_wsX11_addPart_wsX11_addPart_r1 _ (List.mem_of_getElem? (i := 22) rfl)), List.forall_mem_cons.mpr ⟨(k_wsX11_addPart_wsX11_addPart_r1 _ (List.mem_of_getElem? (i := 23) rfl)), List.forall_mem_cons.mpr ⟨(k_wsX11_addPart_wsX11_addPart_r1 _ (List.mem_of_getElem? (i := 11) rfl)), fun _ h => absurd h List.not_mem_nil⟩⟩⟩⟩) (by decide +kernel)) ggX11_addPart_X11_change
theorem ggX11_addPart_X11_comes : GoodIn wsX11_addPart wsX11_comes := goodIn_sub (fun w h => (List.mem_cons.mp h).elim (fun e => ft_me e (k_wsX11_addPart_wsX11_addPart_r2 _ (List.mem_of_getElem? (i := 5) rfl))) (fun h => absurd h List.not_mem_nil)) gw_wsX11_comes
theorem gX11_addPart_X11_comes : GoodIn wsX11_addPart (va_wsS RX11 157 yX11_comes wsX11_comes) := goodIn_app (goodIn_sub (List.forall_mem_cons.mpr ⟨(k_wsX11_addPart_wsX11_addPart_r2 _ (List.mem_of_getElem? (i := 3) rfl)), List.forall_mem_cons.mpr ⟨(k_wsX11_addPart_wsX11_addPart_r2 _ (List.mem_of_getElem? (i := 4) rfl)), List.forall_mem_cons.mpr ⟨(k_wsX11_addPart_wsX11_addPart_r1 _ (List.mem_of_getElem? (i := 11) rfl)), fun _ h => absurd h List.not_mem_nil⟩⟩⟩) (by decide +kernel)) ggX11_addPart_X11_comes
theorem dX11_addPart_0 : decode cX11_addPart 0 = .ok (.iload_n 1, 1) := by decide +kernel
theorem dX11_addPart_1 : decode cX11_addPart 1 = .ok (.i2l, 1) := by decide +kernel
theorem dX11_addPart_2 : decode cX11_addPart 2 = .ok (.lconst 0, 1) := by decide +kernel
theorem dX11_addPart_3 : decode cX11_addPart 3 = .ok (.ldc2_w 167, 3) := by decide +kernel
theorem dX11_addPart_6 : decode cX11_addPart 6 = .ok (.invokestatic 91, 3) := by decide +kernel
theorem dX11_addPart_9 : decode cX11_addPart 9 = .ok (.ifCond .eq 51, 3) := by decide +kernel
theorem dX11_addPart_12 : decode cX11_addPart 12 = .ok (.iload_n 2, 1) := by decide +kernel
theorem dX11_addPart_13 : decode cX11_addPart 13 = .ok (.i2l, 1) := by decide +kernel
theorem dX11_addPart_14 : decode cX11_addPart 14 = .ok (.lconst 1, 1) := by decide +kernel
theorem dX11_addPart_15 : decode cX11_addPart 15 = .ok (.aload_n 0, 1) := by decide +kernel
theorem dX11_addPart_16 : decode cX11_addPart 16 = .ok (.getfield 7, 3) := by decide +kernel
theorem dX11_addPart_19 : decode cX11_addPart 19 = .ok (.iconst 0, 1) := by decide +kernel
theorem dX11_addPart_20 : decode cX11_addPart 20 = .ok (.iaload, 1) := by decide +kernel
theorem dX11_addPart_21 : decode cX11_addPart 21 = .ok (.iconst 1, 1) := by decide +kernel
theorem dX11_addPart_22 : decode cX11_addPart 22 = .ok (.isub, 1) := by decide +kernel
theorem dX11_addPart_23 : decode cX11_addPart 23 = .ok (.i2l, 1) := by decide +kernel
theorem dX11_addPart_24 : decode cX11_addPart 24 = .ok (.invokestatic 91, 3) := by decide +kernel
theorem dX11_addPart_27 : decode cX11_addPart 27 = .ok (.ifCond .eq 33, 3) := by decide +kernel
theorem dX11_addPart_30 : decode cX11_addPart 30 = .ok (.iload_n 1, 1) := by decide +kernel
theorem dX11_addPart_31 : decode cX11_addPart 31 = .ok (.iconst 1, 1) := by decide +kernel
theorem dX11_addPart_32 : decode cX11_addPart 32 = .ok (.if_icmp .ne 19, 3) := by decide +kernel
theorem dX11_addPart_35 : decode cX11_addPart 35 = .ok (.iload 4, 2) := by decide +kernel
theorem dX11_addPart_37 : decode cX11_addPart 37 = .ok (.i2l, 1) := by decide +kernel
theorem dX11_addPart_38 : decode cX11_addPart 38 = .ok (.lconst 1, 1) := by decide +kernel
theorem dX11_addPart_39 : decode cX11_addPart 39 = .ok (.ldc2_w 126, 3) := by decide +kernel
theorem dX11_addPart_42 : decode cX11_addPart 42 = .ok (.invokestatic 91, 3) := by decide +kernel
theorem dX11_addPart_45 : decode cX11_addPart 45 = .ok (.ifCond .eq 15, 3) := by decide +kernel
theorem dX11_addPart_48 : decode cX11_addPart 48 = .ok (.goto 8, 3) := by decide +kernel
theorem dX11_addPart_51 : decode cX11_addPart 51 = .ok (.iload 4, 2) := by decide +kernel
theorem dX11_addPart_53 : decode cX11_addPart 53 = .ok (.ifCond .ne 7, 3) := by decide +kernel
theorem dX11_addPart_56 : decode cX11_addPart 56 = .ok (.iconst 1, 1) := by decide +kernel
theorem dX11_addPart_57 : decode cX11_addPart 57 = .ok (.goto 4, 3) := by decide +kernel
theorem dX11_addPart_60 : decode cX11_addPart 60 = .ok (.iconst 0, 1) := by decide +kernel
theorem dX11_addPart_61 : decode cX11_addPart 61 = .ok (.istore 5, 2) := by decide +kernel
theorem dX11_addPart_63 : decode cX11_addPart 63 = .ok (.iload 5, 2) := by decide +kernel
theorem dX11_addPart_65 : decode cX11_addPart 65 = .ok (.ifCond .eq 36, 3) := by decide +kernel
theorem dX11_addPart_68 : decode cX11_addPart 68 = .ok (.iload_n 3, 1) := by decide +kernel
theorem dX11_addPart_69 : decode cX11_addPart 69 = .ok (.i2l, 1) := by decide +kernel
theorem dX11_addPart_70 : decode cX11_addPart 70 = .ok (.iload_n 1, 1) := by decide +kernel
theorem dX11_addPart_71 : decode cX11_addPart 71 = .ok (.ifCond .ne 9, 3) := by decide +kernel
theorem dX11_addPart_74 : decode cX11_addPart 74 = .ok (.ldc2_w 128, 3) := by decide +kernel
theorem dX11_addPart_77 : decode cX11_addPart 77 = .ok (.goto 4, 3) := by decide +kernel
theorem dX11_addPart_80 : decode cX11_addPart 80 = .ok (.lconst 0, 1) := by decide +kernel
theorem dX11_addPart_81 : decode cX11_addPart 81 = .ok (.iload_n 1, 1) := by decide +kernel
theorem dX11_addPart_82 : decode cX11_addPart 82 = .ok (.iconst 2, 1) := by decide +kernel
theorem dX11_addPart_83 : decode cX11_addPart 83 = .ok (.if_icmp .ne 9, 3) := by decide +kernel
theorem dX11_addPart_86 : decode cX11_addPart 86 = .ok (.ldc2_w 122, 3) := by decide +kernel
theorem dX11_addPart_89 : decode cX11_addPart 89 = .ok (.goto 6, 3) := by decide +kernel
theorem dX11_addPart_92 : decode cX11_addPart 92 = .ok (.ldc2_w 130, 3) := by decide +kernel
theorem dX11_addPart_95 : decode cX11_addPart 95 = .ok (.invokestatic 91, 3) := by decide +kernel
theorem dX11_addPart_98 : decode cX11_addPart 98 = .ok (.ifCond .ne 6, 3) := by decide +kernel
theorem dX11_addPart_101 : decode cX11_addPart 101 = .ok (.ldc 95, 2) := by decide +kernel
theorem dX11_addPart_103 : decode cX11_addPart 103 = .ok (.ireturn, 1) := by decide +kernel
theorem dX11_addPart_104 : decode cX11_addPart 104 = .ok (.aload_n 0, 1) := by decide +kernel
theorem dX11_addPart_105 : decode cX11_addPart 105 = .ok (.iload_n 2, 1) := by decide +kernel
theorem dX11_addPart_106 : decode cX11_addPart 106 = .ok (.invokevirtual 180, 3) := by decide +kernel
theorem dX11_addPart_109 : decode cX11_addPart 109 = .ok (.ifCond .lt 6, 3) := by decide +kernel
theorem dX11_addPart_112 : decode cX11_addPart 112 = .ok (.ldc 86, 2) := by decide +kernel
theorem dX11_addPart_114 : decode cX11_addPart 114 = .ok (.ireturn, 1) := by decide +kernel
theorem dX11_addPart_115 : decode cX11_addPart 115 = .ok (.aload_n 0, 1) := by decide +kernel
theorem dX11_addPart_116 : decode cX11_addPart 116 = .ok (.getfield 7, 3) := by decide +kernel
theorem dX11_addPart_119 : decode cX11_addPart 119 = .ok (.iconst 3, 1) := by decide +kernel
theorem dX11_addPart_120 : decode cX11_addPart 120 = .ok (.iaload, 1) := by decide +kernel
theorem dX11_addPart_121 : decode cX11_addPart 121 = .ok (.bipush 10, 2) := by decide +kernel
theorem dX11_addPart_123 : decode cX11_addPart 123 = .ok (.if_icmp .ne 6, 3) := by decide +kernel
theorem dX11_addPart_126 : decode cX11_addPart 126 = .ok (.ldc 99, 2) := by decide +kernel
theorem dX11_addPart_128 : decode cX11_addPart 128 = .ok (.ireturn, 1) := by decide +kernel
theorem dX11_addPart_129 : decode cX11_addPart 129 = .ok (.aload_n 0, 1) := by decide +kernel
theorem dX11_addPart_130 : decode cX11_addPart 130 = .ok (.invokevirtual 174, 3) := by decide +kernel
theorem dX11_addPart_133 : decode cX11_addPart 133 = .ok (.aload_n 0, 1) := by decide +kernel
theorem dX11_addPart_134 : decode cX11_addPart 134 = .ok (.getfield 7, 3) := by decide +kernel
theorem dX11_addPart_137 : decode cX11_addPart 137 = .ok (.iload_n 1, 1) := by decide +kernel
theorem dX11_addPart_138 : decode cX11_addPart 138 = .ok (.iload_n 2, 1) := by decide +kernel
theorem dX11_addPart_139 : decode cX11_addPart 139 = .ok (.iload_n 3, 1) := by decide +kernel
theorem dX11_addPart_140 : decode cX11_addPart 140 = .ok (.iload 4, 2) := by decide +kernel
theorem dX11_addPart_142 : decode cX11_addPart 142 = .ok (.invokestatic 157, 3) := by decide +kernel
theorem dX11_addPart_145 : decode cX11_addPart 145 = .ok (.ireturn, 1) := by decide +kernel
theorem ggX11_isPart_X11_in : GoodIn wsX11_isPart wsX11_in := goodIn_sub (fun w h => (List.mem_cons.mp h).elim (fun e => ft_me e (List.mem_cons_of_mem _ (List.mem_append_left _ (List.mem_of_getElem? (i := 4) rfl)))) (fun h => absurd h List.not_mem_nil)) gw_wsX11_in
theorem gX11_isPart_X11_in : GoodIn wsX11_isPart (va_wsS RX11 91 yX11_in wsX11_in) := goodIn_app (goodIn_sub (List.forall_mem_cons.mpr ⟨(List.mem_cons_of_mem _ (List.mem_append_left _ (List.mem_of_getElem? (i := 1) rfl))), List.forall_mem_cons.mpr ⟨(List.mem_cons_of_mem _ (List.mem_append_left _ (List.mem_of_getElem? (i := 2) rfl))), List.forall_mem_cons.mpr ⟨(List.mem_cons_of_mem _ (List.mem_append_left _ (List.mem_of_getElem? (i := 3) rfl))), fun _ h => absurd h List.not_mem_nil⟩⟩⟩) (by decide +kernel)) ggX11_isPart_X11_in
theorem dX11_isPart_0 : decode cX11_isPart 0 = .ok (.iload_n 1, 1) := by decide +kernel
theorem dX11_isPart_1 : decode cX11_isPart 1 = .ok (.i2l, 1) := by decide +kernel
theorem dX11_isPart_2 : decode cX11_isPart 2 = .ok (.lconst 0, 1) := by decide +kernel
theorem dX11_isPart_3 : decode cX11_isPart 3 = .ok (.aload_n 0, 1) := by decide +kernel
theorem dX11_isPart_4 : decode cX11_isPart 4 = .ok (.getfield 7, 3) := by decide +kernel
theorem dX11_isPart_7 : decode cX11_isPart 7 = .ok (.iconst 3, 1) := by decide +kernel
theorem dX11_isPart_8 : decode cX11_isPart 8 = .ok (.iaload, 1) := by decide +kernel
theorem dX11_isPart_9 : decode cX11_isPart 9 = .ok (.iconst 1, 1) := by decide +kernel
theorem dX11_isPart_10 : decode cX11_isPart 10 = .ok (.isub, 1) := by decide +kernel
theorem dX11_isPart_11 : decode cX11_isPart 11 = .ok (.i2l, 1) := by decide +kernel
theorem dX11_isPart_12 : decode cX11_isPart 12 = .ok (.invokestatic 91, 3) := by decide +kernel
theorem dX11_isPart_15 : decode cX11_isPart 15 = .ok (.ireturn, 1) := by decide +kernel
theorem ggX11_removePart_X11_isPart : GoodIn wsX11_removePart wsX11_isPart := goodIn_sub (fun w h => (List.mem_cons.mp h).elim (fun e => ft_me e (List.mem_cons_of_mem _ (List.mem_append_left _ (List.mem_of_getElem? (i := 6) rfl)))) (fun h => (List.mem_append.mp h).elim (fun h => (List.forall_mem_cons.mpr ⟨(List.mem_cons_of_mem _ (List.mem_append_left _ (List.mem_of_getElem? (i := 1) rfl))), List.forall_mem_cons.mpr ⟨(List.mem_cons_of_mem _ (List.mem_append_left _ (List.mem_of_getElem? (i := 7) rfl))), List.forall_mem_cons.mpr ⟨(List.mem_cons_of_mem _ (List.mem_append_left _ (List.mem_of_getElem? (i := 8) rfl))), List.forall_mem_cons.mpr ⟨(List.mem_cons_of_mem _ (List.mem_append_left _ (List.mem_of_getElem? (i := 5) rfl))), List.forall_mem_cons.mpr ⟨(List.mem_cons_of_mem _ (List.mem_append_left _ (List.mem_of_getElem? (i := 9) rfl))), fun _ h => absurd h List.not_mem_nil⟩⟩⟩⟩⟩) w h) (fun h => k_wsX11_removePart_wsX110 w h))) gw_wsX11_isPart
theorem gX11_removePart_X11_isPart : GoodIn wsX11_removePart (wsV RX11 183 RX11 yX11_isPart wsX11_isPart) := goodIn_app (goodIn_sub (List.forall_mem_cons.mpr ⟨(List.mem_cons_of_mem _ (List.mem_append_left _ (List.mem_of_getElem? (i := 2) rfl))), List.forall_mem_cons.mpr ⟨(List.mem_cons_of_mem _ (List.mem_append_left _ (List.mem_of_getElem? (i := 3) rfl))), List.forall_mem_cons.mpr ⟨(List.mem_cons_of_mem _ (List.mem_append_left _ (List.mem_of_getElem? (i := 4) rfl))), List.forall_mem_cons.mpr ⟨(List.mem_cons_of_mem _ (List.mem_append_left _ (List.mem_of_getElem? (i := 5) rfl))), fun _ h => absurd h List.not_mem_nil⟩⟩⟩⟩) (by decide +kernel)) ggX11_removePart_X11_isPart
theorem ggX11_removePart_X11_change : GoodIn wsX11_removePart wsX11_change := goodIn_sub (fun w h => (List.mem_cons.mp h).elim (fun e => ft_me e (List.mem_cons_of_mem _ (List.mem_append_left _ (List.mem_of_getElem? (i := 13) rfl)))) (fun h => (List.mem_append.mp h).elim (fun h => (List.forall_mem_cons.mpr ⟨(List.mem_cons_of_mem _ (List.mem_append_left _ (List.mem_of_getElem? (i := 14) rfl))), List.forall_mem_cons.mpr ⟨(List.mem_cons_of_mem _ (List.mem_append_left _ (List.mem_of_getElem? (i := 15) rfl))), List.forall_mem_cons.mpr ⟨(List.mem_cons_of_mem _ (List.mem_append_left _ (List.mem_of_getElem? (i := 1) rfl))), fun _ h => absurd h List.not_mem_nil⟩⟩⟩) w h) (fun h => k_wsX11_removePart_wsX110 w h))) gw_wsX11_change
theorem gX11_removePart_X11_change : GoodIn wsX11_removePart (wsV RX11 174 RX11 yX11_change wsX11_change) := goodIn_app (goodIn_sub (List.forall_mem_cons.mpr ⟨(List.mem_cons_of_mem _ (List.mem_append_left _ (List.mem_of_getElem? (i := 10) rfl))), List.forall_mem_cons.mpr ⟨(List.mem_cons_of_mem _ (List.mem_append_left _ (List.mem_of_getElem? (i := 11) rfl))), List.forall_mem_cons.mpr ⟨(List.mem_cons_of_mem _ (List.mem_append_left _ (List.mem_of_getElem? (i := 12) rfl))), List.forall_mem_cons.mpr ⟨(List.mem_cons_of_mem _ (List.mem_append_left _ (List.mem_of_getElem? (i := 5) rfl))), fun _ h => absurd h List.not_mem_nil⟩⟩⟩⟩) (by decide +kernel)) ggX11_removePart_X11_change
theorem dX11_removePart_0 : decode cX11_removePart 0 = .ok (.aload_n 0, 1) := by decide +kernel
theorem dX11_removePart_1 : decode cX11_removePart 1 = .ok (.iload_n 1, 1) := by decide +kernel
theorem dX11_removePart_2 : decode cX11_removePart 2 = .ok (.invokevirtual 183, 3) := by decide +kernel
theorem dX11_removePart_5 : decode cX11_removePart 5 = .ok (.ifCond .ne 6, 3) := by decide +kernel
theorem dX11_removePart_8 : decode cX11_removePart 8 = .ok (.ldc 95, 2) := by decide +kernel
theorem dX11_removePart_10 : decode cX11_removePart 10 = .ok (.ireturn, 1) := by decide +kernel
theorem dX11_removePart_11 : decode cX11_removePart 11 = .ok (.aload_n 0, 1) := by decide +kernel
theorem dX11_removePart_12 : decode cX11_removePart 12 = .ok (.invokevirtual 174, 3) := by decide +kernel
theorem dX11_removePart_15 : decode cX11_removePart 15 = .ok (.aload_n 0, 1) := by decide +kernel
theorem dX11_removePart_16 : decode cX11_removePart 16 = .ok (.getfield 7, 3) := by decide +kernel
theorem dX11_removePart_19 : decode cX11_removePart 19 = .ok (.iconst 3, 1) := by decide +kernel
theorem dX11_removePart_20 : decode cX11_removePart 20 = .ok (.dup2, 1) := by decide +kernel
theorem dX11_removePart_21 : decode cX11_removePart 21 = .ok (.iaload, 1) := by decide +kernel
theorem dX11_removePart_22 : decode cX11_removePart 22 = .ok (.iconst 1, 1) := by decide +kernel
theorem dX11_removePart_23 : decode cX11_removePart 23 = .ok (.isub, 1) := by decide +kernel
theorem dX11_removePart_24 : decode cX11_removePart 24 = .ok (.iastore, 1) := by decide +kernel
theorem dX11_removePart_25 : decode cX11_removePart 25 = .ok (.iconst 4, 1) := by decide +kernel
theorem dX11_removePart_26 : decode cX11_removePart 26 = .ok (.iconst 4, 1) := by decide +kernel
theorem dX11_removePart_27 : decode cX11_removePart 27 = .ok (.iload_n 1, 1) := by decide +kernel
theorem dX11_removePart_28 : decode cX11_removePart 28 = .ok (.imul, 1) := by decide +kernel
theorem dX11_removePart_29 : decode cX11_removePart 29 = .ok (.iadd, 1) := by decide +kernel
theorem dX11_removePart_30 : decode cX11_removePart 30 = .ok (.istore_n 2, 1) := by decide +kernel
theorem dX11_removePart_31 : decode cX11_removePart 31 = .ok (.iload_n 2, 1) := by decide +kernel
theorem dX11_removePart_32 : decode cX11_removePart 32 = .ok (.iconst 4, 1) := by decide +kernel
theorem dX11_removePart_33 : decode cX11_removePart 33 = .ok (.iconst 4, 1) := by decide +kernel
theorem dX11_removePart_34 : decode cX11_removePart 34 = .ok (.aload_n 0, 1) := by decide +kernel
theorem dX11_removePart_35 : decode cX11_removePart 35 = .ok (.getfield 7, 3) := by decide +kernel
theorem dX11_removePart_38 : decode cX11_removePart 38 = .ok (.iconst 3, 1) := by decide +kernel
theorem dX11_removePart_39 : decode cX11_removePart 39 = .ok (.iaload, 1) := by decide +kernel
theorem dX11_removePart_40 : decode cX11_removePart 40 = .ok (.imul, 1) := by decide +kernel
theorem dX11_removePart_41 : decode cX11_removePart 41 = .ok (.iadd, 1) := by decide +kernel
theorem dX11_removePart_42 : decode cX11_removePart 42 = .ok (.if_icmp .ge 23, 3) := by decide +kernel
theorem dX11_removePart_45 : decode cX11_removePart 45 = .ok (.aload_n 0, 1) := by decide +kernel
theorem dX11_removePart_46 : decode cX11_removePart 46 = .ok (.getfield 7, 3) := by decide +kernel
theorem dX11_removePart_49 : decode cX11_removePart 49 = .ok (.iload_n 2, 1) := by decide +kernel
theorem dX11_removePart_50 : decode cX11_removePart 50 = .ok (.aload_n 0, 1) := by decide +kernel
theorem dX11_removePart_51 : decode cX11_removePart 51 = .ok (.getfield 7, 3) := by decide +kernel
theorem dX11_removePart_54 : decode cX11_removePart 54 = .ok (.iload_n 2, 1) := by decide +kernel
theorem dX11_removePart_55 : decode cX11_removePart 55 = .ok (.iconst 4, 1) := by decide +kernel
theorem dX11_removePart_56 : decode cX11_removePart 56 = .ok (.iadd, 1) := by decide +kernel
theorem dX11_removePart_57 : decode cX11_removePart 57 = .ok (.iaload, 1) := by decide +kernel
theorem dX11_removePart_58 : decode cX11_removePart 58 = .ok (.iastore, 1) := by decide +kernel
theorem dX11_removePart_59 : decode cX11_removePart 59 = .ok (.iinc 2 1, 3) := by decide +kernel
theorem dX11_removePart_62 : decode cX11_removePart 62 = .ok (.goto (-31), 3) := by decide +kernel
theorem dX11_removePart_65 : decode cX11_removePart 65 = .ok (.aload_n 0, 1) := by decide +kernel
theorem dX11_removePart_66 : decode cX11_removePart 66 = .ok (.getfield 7, 3) := by decide +kernel
theorem dX11_removePart_69 : decode cX11_removePart 69 = .ok (.iconst 3, 1) := by decide +kernel
theorem dX11_removePart_70 : decode cX11_removePart 70 = .ok (.iaload, 1) := by decide +kernel
theorem dX11_removePart_71 : decode cX11_removePart 71 = .ok (.ireturn, 1) := by decide +kernel
theorem ggX11_set_X11_in : GoodIn wsX11_set wsX11_in := goodIn_sub (fun w h => (List.mem_cons.mp h).elim (fun e => ft_me e (k_wsX11_set_wsX11_set_r1 _ (List.mem_of_getElem? (i := 6) rfl))) (fun h => absurd h List.not_mem_nil)) gw_wsX11_in
theorem gX11_set_X11_in : GoodIn wsX11_set (va_wsS RX11 91 yX11_in wsX11_in) := goodIn_app (goodIn_sub (List.forall_mem_cons.mpr ⟨(k_wsX11_set_wsX11_set_r1 _ (List.mem_of_getElem? (i := 3) rfl)), List.forall_mem_cons.mpr ⟨(k_wsX11_set_wsX11_set_r1 _ (List.mem_of_getElem? (i := 4) rfl)), List.forall_mem_cons.mpr ⟨(k_wsX11_set_wsX11_set_r1 _ (List.mem_of_getElem? (i := 5) rfl)), fun _ h => absurd h List.not_mem_nil⟩⟩⟩) (by decide +kernel)) ggX11_set_X11_in
theorem ggX11_set_X11_leastOf : GoodIn wsX11_set wsX11_leastOf := goodIn_sub (fun w h => (List.mem_cons.mp h).elim (fun e => ft_me e (k_wsX11_set_wsX11_set_r1 _ (List.mem_of_getElem? (i := 9) rfl))) (fun h => absurd h List.not_mem_nil)) gw_wsX11_leastOf
theorem gX11_set_X11_leastOf : GoodIn wsX11_set (va_wsS RX11 188 yX11_leastOf wsX11_leastOf) := goodIn_app (goodIn_sub (List.forall_mem_cons.mpr ⟨(k_wsX11_set_wsX11_set_r1 _ (List.mem_of_getElem? (i := 7) rfl)), List.forall_mem_cons.mpr ⟨(k_wsX11_set_wsX11_set_r1 _ (List.mem_of_getElem? (i := 8) rfl)), List.forall_mem_cons.mpr ⟨(k_wsX11_set_wsX11_set_r1 _ (List.mem_of_getElem? (i := 5) rfl)), fun _ h => absurd h List.not_mem_nil⟩⟩⟩) (by decide +kernel)) ggX11_set_X11_leastOf
theorem ggX11_set_X11_mostOf : GoodIn wsX11_set wsX11_mostOf := goodIn_sub (fun w h => (List.mem_cons.mp h).elim (fun e => ft_me e (k_wsX11_set_wsX11_set_r1 _ (List.mem_of_getElem? (i := 12) rfl))) (fun h => (List.forall_mem_cons.mpr ⟨(k_wsX11_set_wsX11_set_r1 _ (List.mem_of_getElem? (i := 13) rfl)), List.forall_mem_cons.mpr ⟨(k_wsX11_set_wsX11_set_r1 _ (List.mem_of_getElem? (i := 14) rfl)), fun _ h => absurd h List.not_mem_nil⟩⟩) w h)) gw_wsX11_mostOf
theorem gX11_set_X11_mostOf : GoodIn wsX11_set (va_wsS RX11 191 yX11_mostOf wsX11_mostOf) := goodIn_app (goodIn_sub (List.forall_mem_cons.mpr ⟨(k_wsX11_set_wsX11_set_r1 _ (List.mem_of_getElem? (i := 10) rfl)), List.forall_mem_cons.mpr ⟨(k_wsX11_set_wsX11_set_r1 _ (List.mem_of_getElem? (i := 11) rfl)), List.forall_mem_cons.mpr ⟨(k_wsX11_set_wsX11_set_r1 _ (List.mem_of_getElem? (i := 5) rfl)), fun _ h => absurd h List.not_mem_nil⟩⟩⟩) (by decide +kernel)) ggX11_set_X11_mostOf
theorem ggX11_set_X11_change : GoodIn wsX11_set wsX11_change := goodIn_sub (fun w h => (List.mem_cons.mp h).elim (fun e => ft_me e (k_wsX11_set_wsX11_set_r1 _ (List.mem_of_getElem? (i := 18) rfl))) (fun h => (List.mem_append.mp h).elim (fun h => (List.forall_mem_cons.mpr ⟨(k_wsX11_set_wsX11_set_r1 _ (List.mem_of_getElem? (i := 19) rfl)), List.forall_mem_cons.mpr ⟨(k_wsX11_set_wsX11_set_r1 _ (List.mem_of_getElem? (i := 20) rfl)), List.forall_mem_cons.mpr ⟨(k_wsX11_set_wsX11_set_r1 _ (List.mem_of_getElem? (i := 2) rfl)), fun _ h => absurd h List.not_mem_nil⟩⟩⟩) w h) (fun h => k_wsX11_set_wsX110 w h))) gw_wsX11_change
theorem gX11_set_X11_change : GoodIn wsX11_set (wsV RX11 174 RX11 yX11_change wsX11_change) := goodIn_app (goodIn_sub (List.forall_mem_cons.mpr ⟨(k_wsX11_set_wsX11_set_r1 _ (List.mem_of_getElem? (i := 15) rfl)), List.forall_mem_cons.mpr ⟨(k_wsX11_set_wsX11_set_r1 _ (List.mem_of_getElem? (i := 16) rfl)), List.forall_mem_cons.mpr ⟨(k_wsX11_set_wsX11_set_r1 _ (List.mem_of_getElem? (i := 17) rfl)), List.forall_mem_cons.mpr ⟨(k_wsX11_set_wsX11_set_r1 _ (List.mem_of_getElem? (i := 5) rfl)), fun _ h => absurd h List.not_mem_nil⟩⟩⟩⟩) (by decide +kernel)) ggX11_set_X11_change
theorem ggX11_set_X11_setting : GoodIn wsX11_set wsX11_setting := goodIn_sub (fun w h => (List.mem_cons.mp h).elim (fun e => ft_me e (k_wsX11_set_wsX11_set_r2 _ (List.mem_of_getElem? (i := 0) rfl))) (fun h => (List.mem_append.mp h).elim (fun h => (List.forall_mem_cons.mpr ⟨(k_wsX11_set_wsX11_set_r1 _ (List.mem_of_getElem? (i := 2) rfl)), fun _ h => absurd h List.not_mem_nil⟩) w h) (fun h => k_wsX11_set_wsX110 w h))) gw_wsX11_setting
theorem gX11_set_X11_setting : GoodIn wsX11_set (wsV RX11 194 RX11 yX11_setting wsX11_setting) := goodIn_app (goodIn_sub (List.forall_mem_cons.mpr ⟨(k_wsX11_set_wsX11_set_r1 _ (List.mem_of_getElem? (i := 21) rfl)), List.forall_mem_cons.mpr ⟨(k_wsX11_set_wsX11_set_r1 _ (List.mem_of_getElem? (i := 22) rfl)), List.forall_mem_cons.mpr ⟨(k_wsX11_set_wsX11_set_r1 _ (List.mem_of_getElem? (i := 23) rfl)), List.forall_mem_cons.mpr ⟨(k_wsX11_set_wsX11_set_r1 _ (List.mem_of_getElem? (i := 5) rfl)), fun _ h => absurd h List.not_mem_nil⟩⟩⟩⟩) (by decide +kernel)) ggX11_set_X11_setting
theorem dX11_set_0 : decode cX11_set 0 = .ok (.iload_n 1, 1) := by decide +kernel
theorem dX11_set_1 : decode cX11_set 1 = .ok (.i2l, 1) := by decide +kernel
theorem dX11_set_2 : decode cX11_set 2 = .ok (.lconst 0, 1) := by decide +kernel
theorem dX11_set_3 : decode cX11_set 3 = .ok (.ldc2_w 186, 3) := by decide +kernel
theorem dX11_set_6 : decode cX11_set 6 = .ok (.invokestatic 91, 3) := by decide +kernel
theorem dX11_set_9 : decode cX11_set 9 = .ok (.ifCond .eq 21, 3) := by decide +kernel
theorem dX11_set_12 : decode cX11_set 12 = .ok (.iload_n 2, 1) := by decide +kernel
theorem dX11_set_13 : decode cX11_set 13 = .ok (.i2l, 1) := by decide +kernel
theorem dX11_set_14 : decode cX11_set 14 = .ok (.iload_n 1, 1) := by decide +kernel
theorem dX11_set_15 : decode cX11_set 15 = .ok (.invokestatic 188, 3) := by decide +kernel
theorem dX11_set_18 : decode cX11_set 18 = .ok (.i2l, 1) := by decide +kernel
theorem dX11_set_19 : decode cX11_set 19 = .ok (.iload_n 1, 1) := by decide +kernel
theorem dX11_set_20 : decode cX11_set 20 = .ok (.invokestatic 191, 3) := by decide +kernel
theorem dX11_set_23 : decode cX11_set 23 = .ok (.i2l, 1) := by decide +kernel
theorem dX11_set_24 : decode cX11_set 24 = .ok (.invokestatic 91, 3) := by decide +kernel
theorem dX11_set_27 : decode cX11_set 27 = .ok (.ifCond .ne 6, 3) := by decide +kernel
theorem dX11_set_30 : decode cX11_set 30 = .ok (.ldc 95, 2) := by decide +kernel
theorem dX11_set_32 : decode cX11_set 32 = .ok (.ireturn, 1) := by decide +kernel
theorem dX11_set_33 : decode cX11_set 33 = .ok (.aload_n 0, 1) := by decide +kernel
theorem dX11_set_34 : decode cX11_set 34 = .ok (.invokevirtual 174, 3) := by decide +kernel
theorem dX11_set_37 : decode cX11_set 37 = .ok (.aload_n 0, 1) := by decide +kernel
theorem dX11_set_38 : decode cX11_set 38 = .ok (.iload_n 1, 1) := by decide +kernel
theorem dX11_set_39 : decode cX11_set 39 = .ok (.invokevirtual 194, 3) := by decide +kernel
theorem dX11_set_42 : decode cX11_set 42 = .ok (.istore_n 3, 1) := by decide +kernel
theorem dX11_set_43 : decode cX11_set 43 = .ok (.aload_n 0, 1) := by decide +kernel
theorem dX11_set_44 : decode cX11_set 44 = .ok (.getfield 7, 3) := by decide +kernel
theorem dX11_set_47 : decode cX11_set 47 = .ok (.bipush 44, 2) := by decide +kernel
theorem dX11_set_49 : decode cX11_set 49 = .ok (.iload_n 1, 1) := by decide +kernel
theorem dX11_set_50 : decode cX11_set 50 = .ok (.iadd, 1) := by decide +kernel
theorem dX11_set_51 : decode cX11_set 51 = .ok (.iload_n 2, 1) := by decide +kernel
theorem dX11_set_52 : decode cX11_set 52 = .ok (.iastore, 1) := by decide +kernel
theorem dX11_set_53 : decode cX11_set 53 = .ok (.iload_n 3, 1) := by decide +kernel
theorem dX11_set_54 : decode cX11_set 54 = .ok (.ireturn, 1) := by decide +kernel
theorem ggX11_count_X11_in : GoodIn wsX11_count wsX11_in := goodIn_sub (fun w h => (List.mem_cons.mp h).elim (fun e => ft_me e (List.mem_cons_of_mem _ (List.mem_append_left _ (List.mem_of_getElem? (i := 8) rfl)))) (fun h => absurd h List.not_mem_nil)) gw_wsX11_in
theorem gX11_count_X11_in : GoodIn wsX11_count (va_wsS RX11 91 yX11_in wsX11_in) := goodIn_app (goodIn_sub (List.forall_mem_cons.mpr ⟨(List.mem_cons_of_mem _ (List.mem_append_left _ (List.mem_of_getElem? (i := 5) rfl))), List.forall_mem_cons.mpr ⟨(List.mem_cons_of_mem _ (List.mem_append_left _ (List.mem_of_getElem? (i := 6) rfl))), List.forall_mem_cons.mpr ⟨(List.mem_cons_of_mem _ (List.mem_append_left _ (List.mem_of_getElem? (i := 7) rfl))), fun _ h => absurd h List.not_mem_nil⟩⟩⟩) (by decide +kernel)) ggX11_count_X11_in
theorem ggX11_count_X11_setting : GoodIn wsX11_count wsX11_setting := goodIn_sub (fun w h => (List.mem_cons.mp h).elim (fun e => ft_me e (List.mem_cons_of_mem _ (List.mem_append_left _ (List.mem_of_getElem? (i := 12) rfl)))) (fun h => (List.mem_append.mp h).elim (fun h => (List.forall_mem_cons.mpr ⟨(List.mem_cons_of_mem _ (List.mem_append_left _ (List.mem_of_getElem? (i := 2) rfl))), fun _ h => absurd h List.not_mem_nil⟩) w h) (fun h => k_wsX11_count_wsX110 w h))) gw_wsX11_setting
theorem gX11_count_X11_setting : GoodIn wsX11_count (wsV RX11 194 RX11 yX11_setting wsX11_setting) := goodIn_app (goodIn_sub (List.forall_mem_cons.mpr ⟨(List.mem_cons_of_mem _ (List.mem_append_left _ (List.mem_of_getElem? (i := 9) rfl))), List.forall_mem_cons.mpr ⟨(List.mem_cons_of_mem _ (List.mem_append_left _ (List.mem_of_getElem? (i := 10) rfl))), List.forall_mem_cons.mpr ⟨(List.mem_cons_of_mem _ (List.mem_append_left _ (List.mem_of_getElem? (i := 11) rfl))), List.forall_mem_cons.mpr ⟨(List.mem_cons_of_mem _ (List.mem_append_left _ (List.mem_of_getElem? (i := 7) rfl))), fun _ h => absurd h List.not_mem_nil⟩⟩⟩⟩) (by decide +kernel)) ggX11_count_X11_setting
theorem ggX11_count_X11_samples : GoodIn wsX11_count wsX11_samples := goodIn_sub (fun w h => (List.mem_cons.mp h).elim (fun e => ft_me e (List.mem_cons_of_mem _ (List.mem_append_left _ (List.mem_of_getElem? (i := 16) rfl)))) (fun h => (List.mem_append.mp h).elim (fun h => (List.forall_mem_cons.mpr ⟨(List.mem_cons_of_mem _ (List.mem_append_left _ (List.mem_of_getElem? (i := 2) rfl))), fun _ h => absurd h List.not_mem_nil⟩) w h) (fun h => k_wsX11_count_wsX110 w h))) gw_wsX11_samples
theorem gX11_count_X11_samples : GoodIn wsX11_count (wsV RX11 199 RX11 yX11_samples wsX11_samples) := goodIn_app (goodIn_sub (List.forall_mem_cons.mpr ⟨(List.mem_cons_of_mem _ (List.mem_append_left _ (List.mem_of_getElem? (i := 13) rfl))), List.forall_mem_cons.mpr ⟨(List.mem_cons_of_mem _ (List.mem_append_left _ (List.mem_of_getElem? (i := 14) rfl))), List.forall_mem_cons.mpr ⟨(List.mem_cons_of_mem _ (List.mem_append_left _ (List.mem_of_getElem? (i := 15) rfl))), List.forall_mem_cons.mpr ⟨(List.mem_cons_of_mem _ (List.mem_append_left _ (List.mem_of_getElem? (i := 7) rfl))), fun _ h => absurd h List.not_mem_nil⟩⟩⟩⟩) (by decide +kernel)) ggX11_count_X11_samples
theorem dX11_count_0 : decode cX11_count 0 = .ok (.iload_n 1, 1) := by decide +kernel
theorem dX11_count_1 : decode cX11_count 1 = .ok (.i2l, 1) := by decide +kernel
theorem dX11_count_2 : decode cX11_count 2 = .ok (.lconst 0, 1) := by decide +kernel
theorem dX11_count_3 : decode cX11_count 3 = .ok (.ldc2_w 197, 3) := by decide +kernel
theorem dX11_count_6 : decode cX11_count 6 = .ok (.invokestatic 91, 3) := by decide +kernel
theorem dX11_count_9 : decode cX11_count 9 = .ok (.ifCond .ne 6, 3) := by decide +kernel
theorem dX11_count_12 : decode cX11_count 12 = .ok (.ldc 95, 2) := by decide +kernel
theorem dX11_count_14 : decode cX11_count 14 = .ok (.ireturn, 1) := by decide +kernel
theorem dX11_count_15 : decode cX11_count 15 = .ok (.iload_n 1, 1) := by decide +kernel
theorem dX11_count_16 : decode cX11_count 16 = .ok (.bipush 10, 2) := by decide +kernel
theorem dX11_count_18 : decode cX11_count 18 = .ok (.if_icmp .gt 9, 3) := by decide +kernel
theorem dX11_count_21 : decode cX11_count 21 = .ok (.aload_n 0, 1) := by decide +kernel
theorem dX11_count_22 : decode cX11_count 22 = .ok (.iload_n 1, 1) := by decide +kernel
theorem dX11_count_23 : decode cX11_count 23 = .ok (.invokevirtual 194, 3) := by decide +kernel
theorem dX11_count_26 : decode cX11_count 26 = .ok (.ireturn, 1) := by decide +kernel
theorem dX11_count_27 : decode cX11_count 27 = .ok (.iload_n 1, 1) := by decide +kernel
theorem dX11_count_28 : decode cX11_count 28 = .ok (.bipush 15, 2) := by decide +kernel
theorem dX11_count_30 : decode cX11_count 30 = .ok (.if_icmp .ge 15, 3) := by decide +kernel
theorem dX11_count_33 : decode cX11_count 33 = .ok (.aload_n 0, 1) := by decide +kernel
theorem dX11_count_34 : decode cX11_count 34 = .ok (.getfield 7, 3) := by decide +kernel
theorem dX11_count_37 : decode cX11_count 37 = .ok (.iload_n 1, 1) := by decide +kernel
theorem dX11_count_38 : decode cX11_count 38 = .ok (.bipush 11, 2) := by decide +kernel
theorem dX11_count_40 : decode cX11_count 40 = .ok (.isub, 1) := by decide +kernel
theorem dX11_count_41 : decode cX11_count 41 = .ok (.iaload, 1) := by decide +kernel
theorem dX11_count_42 : decode cX11_count 42 = .ok (.goto 49, 3) := by decide +kernel
theorem dX11_count_45 : decode cX11_count 45 = .ok (.iload_n 1, 1) := by decide +kernel
theorem dX11_count_46 : decode cX11_count 46 = .ok (.bipush 15, 2) := by decide +kernel
theorem dX11_count_48 : decode cX11_count 48 = .ok (.if_icmp .ne 10, 3) := by decide +kernel
theorem dX11_count_51 : decode cX11_count 51 = .ok (.aload_n 0, 1) := by decide +kernel
theorem dX11_count_52 : decode cX11_count 52 = .ok (.invokevirtual 199, 3) := by decide +kernel
theorem dX11_count_55 : decode cX11_count 55 = .ok (.goto 36, 3) := by decide +kernel
theorem dX11_count_58 : decode cX11_count 58 = .ok (.iload_n 1, 1) := by decide +kernel
theorem dX11_count_59 : decode cX11_count 59 = .ok (.bipush 16, 2) := by decide +kernel
theorem dX11_count_61 : decode cX11_count 61 = .ok (.if_icmp .ne 13, 3) := by decide +kernel
theorem dX11_count_64 : decode cX11_count 64 = .ok (.aload_n 0, 1) := by decide +kernel
theorem dX11_count_65 : decode cX11_count 65 = .ok (.getfield 7, 3) := by decide +kernel
theorem dX11_count_68 : decode cX11_count 68 = .ok (.bipush 55, 2) := by decide +kernel
theorem dX11_count_70 : decode cX11_count 70 = .ok (.iaload, 1) := by decide +kernel
theorem dX11_count_71 : decode cX11_count 71 = .ok (.goto 20, 3) := by decide +kernel
theorem dX11_count_74 : decode cX11_count 74 = .ok (.iload_n 1, 1) := by decide +kernel
theorem dX11_count_75 : decode cX11_count 75 = .ok (.bipush 17, 2) := by decide +kernel
theorem dX11_count_77 : decode cX11_count 77 = .ok (.if_icmp .ne 10, 3) := by decide +kernel
theorem dX11_count_80 : decode cX11_count 80 = .ok (.aload_n 0, 1) := by decide +kernel
theorem dX11_count_81 : decode cX11_count 81 = .ok (.getfield 82, 3) := by decide +kernel
theorem dX11_count_84 : decode cX11_count 84 = .ok (.goto 7, 3) := by decide +kernel
theorem dX11_count_87 : decode cX11_count 87 = .ok (.aload_n 0, 1) := by decide +kernel
theorem dX11_count_88 : decode cX11_count 88 = .ok (.getfield 96, 3) := by decide +kernel
theorem dX11_count_91 : decode cX11_count 91 = .ok (.ireturn, 1) := by decide +kernel
theorem ggX11_fadeAt_X11_at : GoodIn wsX11_fadeAt wsX11_at := goodIn_sub (fun w h => (List.mem_cons.mp h).elim (fun e => ft_me e (List.mem_cons_of_mem _ (List.mem_append_left _ (List.mem_of_getElem? (i := 5) rfl)))) (fun h => (List.mem_append.mp h).elim (fun h => (List.forall_mem_cons.mpr ⟨(List.mem_cons_of_mem _ (List.mem_append_left _ (List.mem_of_getElem? (i := 0) rfl))), fun _ h => absurd h List.not_mem_nil⟩) w h) (fun h => k_wsX11_fadeAt_wsX110 w h))) gw_wsX11_at
theorem gX11_fadeAt_X11_at : GoodIn wsX11_fadeAt (wsV RX11 177 RX11 yX11_at wsX11_at) := goodIn_app (goodIn_sub (List.forall_mem_cons.mpr ⟨(List.mem_cons_of_mem _ (List.mem_append_left _ (List.mem_of_getElem? (i := 1) rfl))), List.forall_mem_cons.mpr ⟨(List.mem_cons_of_mem _ (List.mem_append_left _ (List.mem_of_getElem? (i := 2) rfl))), List.forall_mem_cons.mpr ⟨(List.mem_cons_of_mem _ (List.mem_append_left _ (List.mem_of_getElem? (i := 3) rfl))), List.forall_mem_cons.mpr ⟨(List.mem_cons_of_mem _ (List.mem_append_left _ (List.mem_of_getElem? (i := 4) rfl))), fun _ h => absurd h List.not_mem_nil⟩⟩⟩⟩) (by decide +kernel)) ggX11_fadeAt_X11_at
theorem dX11_fadeAt_0 : decode cX11_fadeAt 0 = .ok (.aload_n 0, 1) := by decide +kernel
theorem dX11_fadeAt_1 : decode cX11_fadeAt 1 = .ok (.getfield 7, 3) := by decide +kernel
theorem dX11_fadeAt_4 : decode cX11_fadeAt 4 = .ok (.iconst 1, 1) := by decide +kernel
theorem dX11_fadeAt_5 : decode cX11_fadeAt 5 = .ok (.iaload, 1) := by decide +kernel
theorem dX11_fadeAt_6 : decode cX11_fadeAt 6 = .ok (.istore_n 2, 1) := by decide +kernel
theorem dX11_fadeAt_7 : decode cX11_fadeAt 7 = .ok (.iconst 0, 1) := by decide +kernel
theorem dX11_fadeAt_8 : decode cX11_fadeAt 8 = .ok (.istore_n 3, 1) := by decide +kernel
theorem dX11_fadeAt_9 : decode cX11_fadeAt 9 = .ok (.iload_n 3, 1) := by decide +kernel
theorem dX11_fadeAt_10 : decode cX11_fadeAt 10 = .ok (.aload_n 0, 1) := by decide +kernel
theorem dX11_fadeAt_11 : decode cX11_fadeAt 11 = .ok (.getfield 7, 3) := by decide +kernel
theorem dX11_fadeAt_14 : decode cX11_fadeAt 14 = .ok (.iconst 3, 1) := by decide +kernel
theorem dX11_fadeAt_15 : decode cX11_fadeAt 15 = .ok (.iaload, 1) := by decide +kernel
theorem dX11_fadeAt_16 : decode cX11_fadeAt 16 = .ok (.if_icmp .ge 40, 3) := by decide +kernel
theorem dX11_fadeAt_19 : decode cX11_fadeAt 19 = .ok (.aload_n 0, 1) := by decide +kernel
theorem dX11_fadeAt_20 : decode cX11_fadeAt 20 = .ok (.iload_n 3, 1) := by decide +kernel
theorem dX11_fadeAt_21 : decode cX11_fadeAt 21 = .ok (.iconst 0, 1) := by decide +kernel
theorem dX11_fadeAt_22 : decode cX11_fadeAt 22 = .ok (.invokevirtual 177, 3) := by decide +kernel
theorem dX11_fadeAt_25 : decode cX11_fadeAt 25 = .ok (.iconst 2, 1) := by decide +kernel
theorem dX11_fadeAt_26 : decode cX11_fadeAt 26 = .ok (.if_icmp .ne 22, 3) := by decide +kernel
theorem dX11_fadeAt_29 : decode cX11_fadeAt 29 = .ok (.aload_n 0, 1) := by decide +kernel
theorem dX11_fadeAt_30 : decode cX11_fadeAt 30 = .ok (.iload_n 3, 1) := by decide +kernel
theorem dX11_fadeAt_31 : decode cX11_fadeAt 31 = .ok (.iconst 1, 1) := by decide +kernel
theorem dX11_fadeAt_32 : decode cX11_fadeAt 32 = .ok (.invokevirtual 177, 3) := by decide +kernel
theorem dX11_fadeAt_35 : decode cX11_fadeAt 35 = .ok (.iload_n 1, 1) := by decide +kernel
theorem dX11_fadeAt_36 : decode cX11_fadeAt 36 = .ok (.if_icmp .gt 12, 3) := by decide +kernel
theorem dX11_fadeAt_39 : decode cX11_fadeAt 39 = .ok (.aload_n 0, 1) := by decide +kernel
theorem dX11_fadeAt_40 : decode cX11_fadeAt 40 = .ok (.iload_n 3, 1) := by decide +kernel
theorem dX11_fadeAt_41 : decode cX11_fadeAt 41 = .ok (.iconst 2, 1) := by decide +kernel
theorem dX11_fadeAt_42 : decode cX11_fadeAt 42 = .ok (.invokevirtual 177, 3) := by decide +kernel
theorem dX11_fadeAt_45 : decode cX11_fadeAt 45 = .ok (.goto 4, 3) := by decide +kernel
theorem dX11_fadeAt_48 : decode cX11_fadeAt 48 = .ok (.iload_n 2, 1) := by decide +kernel
theorem dX11_fadeAt_49 : decode cX11_fadeAt 49 = .ok (.istore_n 2, 1) := by decide +kernel
theorem dX11_fadeAt_50 : decode cX11_fadeAt 50 = .ok (.iinc 3 1, 3) := by decide +kernel
theorem dX11_fadeAt_53 : decode cX11_fadeAt 53 = .ok (.goto (-44), 3) := by decide +kernel
theorem dX11_fadeAt_56 : decode cX11_fadeAt 56 = .ok (.iload_n 2, 1) := by decide +kernel
theorem dX11_fadeAt_57 : decode cX11_fadeAt 57 = .ok (.ireturn, 1) := by decide +kernel
theorem ggX11_lineLoss_X11_in : GoodIn wsX11_lineLoss wsX11_in := goodIn_sub (fun w h => (List.mem_cons.mp h).elim (fun e => ft_me e (List.mem_cons_of_mem _ (List.mem_append_left _ (List.mem_of_getElem? (i := 5) rfl)))) (fun h => absurd h List.not_mem_nil)) gw_wsX11_in
theorem gX11_lineLoss_X11_in : GoodIn wsX11_lineLoss (va_wsS RX11 91 yX11_in wsX11_in) := goodIn_app (goodIn_sub (List.forall_mem_cons.mpr ⟨(List.mem_cons_of_mem _ (List.mem_append_left _ (List.mem_of_getElem? (i := 2) rfl))), List.forall_mem_cons.mpr ⟨(List.mem_cons_of_mem _ (List.mem_append_left _ (List.mem_of_getElem? (i := 3) rfl))), List.forall_mem_cons.mpr ⟨(List.mem_cons_of_mem _ (List.mem_append_left _ (List.mem_of_getElem? (i := 4) rfl))), fun _ h => absurd h List.not_mem_nil⟩⟩⟩) (by decide +kernel)) ggX11_lineLoss_X11_in
theorem ggX11_lineLoss_X11_fadeAt : GoodIn wsX11_lineLoss wsX11_fadeAt := goodIn_sub (fun w h => (List.mem_cons.mp h).elim (fun e => ft_me e (List.mem_cons_of_mem _ (List.mem_append_left _ (List.mem_of_getElem? (i := 9) rfl)))) (fun h => (List.mem_append.mp h).elim (fun h => (List.forall_mem_cons.mpr ⟨(List.mem_cons_of_mem _ (List.mem_append_left _ (List.mem_of_getElem? (i := 0) rfl))), List.forall_mem_cons.mpr ⟨(List.mem_cons_of_mem _ (List.mem_append_left _ (List.mem_of_getElem? (i := 10) rfl))), List.forall_mem_cons.mpr ⟨(List.mem_cons_of_mem _ (List.mem_append_left _ (List.mem_of_getElem? (i := 11) rfl))), List.forall_mem_cons.mpr ⟨(List.mem_cons_of_mem _ (List.mem_append_left _ (List.mem_of_getElem? (i := 12) rfl))), List.forall_mem_cons.mpr ⟨(List.mem_cons_of_mem _ (List.mem_append_left _ (List.mem_of_getElem? (i := 4) rfl))), List.forall_mem_cons.mpr ⟨(List.mem_cons_of_mem _ (List.mem_append_left _ (List.mem_of_getElem? (i := 13) rfl))), fun _ h => absurd h List.not_mem_nil⟩⟩⟩⟩⟩⟩) w h) (fun h => k_wsX11_lineLoss_wsX110 w h))) gw_wsX11_fadeAt
theorem gX11_lineLoss_X11_fadeAt : GoodIn wsX11_lineLoss (wsV RX11 202 RX11 yX11_fadeAt wsX11_fadeAt) := goodIn_app (goodIn_sub (List.forall_mem_cons.mpr ⟨(List.mem_cons_of_mem _ (List.mem_append_left _ (List.mem_of_getElem? (i := 6) rfl))), List.forall_mem_cons.mpr ⟨(List.mem_cons_of_mem _ (List.mem_append_left _ (List.mem_of_getElem? (i := 7) rfl))), List.forall_mem_cons.mpr ⟨(List.mem_cons_of_mem _ (List.mem_append_left _ (List.mem_of_getElem? (i := 8) rfl))), List.forall_mem_cons.mpr ⟨(List.mem_cons_of_mem _ (List.mem_append_left _ (List.mem_of_getElem? (i := 4) rfl))), fun _ h => absurd h List.not_mem_nil⟩⟩⟩⟩) (by decide +kernel)) ggX11_lineLoss_X11_fadeAt
theorem ggX11_lineLoss_X11_at : GoodIn wsX11_lineLoss wsX11_at := goodIn_sub (fun w h => (List.mem_cons.mp h).elim (fun e => ft_me e (List.mem_cons_of_mem _ (List.mem_append_left _ (List.mem_of_getElem? (i := 13) rfl)))) (fun h => (List.mem_append.mp h).elim (fun h => (List.forall_mem_cons.mpr ⟨(List.mem_cons_of_mem _ (List.mem_append_left _ (List.mem_of_getElem? (i := 0) rfl))), fun _ h => absurd h List.not_mem_nil⟩) w h) (fun h => k_wsX11_lineLoss_wsX110 w h))) gw_wsX11_at
theorem gX11_lineLoss_X11_at : GoodIn wsX11_lineLoss (wsV RX11 177 RX11 yX11_at wsX11_at) := goodIn_app (goodIn_sub (List.forall_mem_cons.mpr ⟨(List.mem_cons_of_mem _ (List.mem_append_left _ (List.mem_of_getElem? (i := 10) rfl))), List.forall_mem_cons.mpr ⟨(List.mem_cons_of_mem _ (List.mem_append_left _ (List.mem_of_getElem? (i := 11) rfl))), List.forall_mem_cons.mpr ⟨(List.mem_cons_of_mem _ (List.mem_append_left _ (List.mem_of_getElem? (i := 12) rfl))), List.forall_mem_cons.mpr ⟨(List.mem_cons_of_mem _ (List.mem_append_left _ (List.mem_of_getElem? (i := 4) rfl))), fun _ h => absurd h List.not_mem_nil⟩⟩⟩⟩) (by decide +kernel)) ggX11_lineLoss_X11_at
theorem dX11_lineLoss_0 : decode cX11_lineLoss 0 = .ok (.iload_n 1, 1) := by decide +kernel
theorem dX11_lineLoss_1 : decode cX11_lineLoss 1 = .ok (.i2l, 1) := by decide +kernel
theorem dX11_lineLoss_2 : decode cX11_lineLoss 2 = .ok (.lconst 0, 1) := by decide +kernel
theorem dX11_lineLoss_3 : decode cX11_lineLoss 3 = .ok (.aload_n 0, 1) := by decide +kernel
theorem dX11_lineLoss_4 : decode cX11_lineLoss 4 = .ok (.getfield 7, 3) := by decide +kernel
theorem dX11_lineLoss_7 : decode cX11_lineLoss 7 = .ok (.iconst 0, 1) := by decide +kernel
theorem dX11_lineLoss_8 : decode cX11_lineLoss 8 = .ok (.iaload, 1) := by decide +kernel
theorem dX11_lineLoss_9 : decode cX11_lineLoss 9 = .ok (.i2l, 1) := by decide +kernel
theorem dX11_lineLoss_10 : decode cX11_lineLoss 10 = .ok (.invokestatic 91, 3) := by decide +kernel
theorem dX11_lineLoss_13 : decode cX11_lineLoss 13 = .ok (.ifCond .ne 6, 3) := by decide +kernel
theorem dX11_lineLoss_16 : decode cX11_lineLoss 16 = .ok (.ldc 95, 2) := by decide +kernel
theorem dX11_lineLoss_18 : decode cX11_lineLoss 18 = .ok (.ireturn, 1) := by decide +kernel
theorem dX11_lineLoss_19 : decode cX11_lineLoss 19 = .ok (.iconst 0, 1) := by decide +kernel
theorem dX11_lineLoss_20 : decode cX11_lineLoss 20 = .ok (.istore_n 2, 1) := by decide +kernel
theorem dX11_lineLoss_21 : decode cX11_lineLoss 21 = .ok (.iconst 0, 1) := by decide +kernel
theorem dX11_lineLoss_22 : decode cX11_lineLoss 22 = .ok (.istore_n 3, 1) := by decide +kernel
theorem dX11_lineLoss_23 : decode cX11_lineLoss 23 = .ok (.iload_n 3, 1) := by decide +kernel
theorem dX11_lineLoss_24 : decode cX11_lineLoss 24 = .ok (.iload_n 1, 1) := by decide +kernel
theorem dX11_lineLoss_25 : decode cX11_lineLoss 25 = .ok (.if_icmp .ge 17, 3) := by decide +kernel
theorem dX11_lineLoss_28 : decode cX11_lineLoss 28 = .ok (.iload_n 2, 1) := by decide +kernel
theorem dX11_lineLoss_29 : decode cX11_lineLoss 29 = .ok (.aload_n 0, 1) := by decide +kernel
theorem dX11_lineLoss_30 : decode cX11_lineLoss 30 = .ok (.iload_n 3, 1) := by decide +kernel
theorem dX11_lineLoss_31 : decode cX11_lineLoss 31 = .ok (.invokevirtual 202, 3) := by decide +kernel
theorem dX11_lineLoss_34 : decode cX11_lineLoss 34 = .ok (.iadd, 1) := by decide +kernel
theorem dX11_lineLoss_35 : decode cX11_lineLoss 35 = .ok (.istore_n 2, 1) := by decide +kernel
theorem dX11_lineLoss_36 : decode cX11_lineLoss 36 = .ok (.iinc 3 1, 3) := by decide +kernel
theorem dX11_lineLoss_39 : decode cX11_lineLoss 39 = .ok (.goto (-16), 3) := by decide +kernel
theorem dX11_lineLoss_42 : decode cX11_lineLoss 42 = .ok (.iconst 0, 1) := by decide +kernel
theorem dX11_lineLoss_43 : decode cX11_lineLoss 43 = .ok (.istore_n 3, 1) := by decide +kernel
theorem dX11_lineLoss_44 : decode cX11_lineLoss 44 = .ok (.iload_n 3, 1) := by decide +kernel
theorem dX11_lineLoss_45 : decode cX11_lineLoss 45 = .ok (.aload_n 0, 1) := by decide +kernel
theorem dX11_lineLoss_46 : decode cX11_lineLoss 46 = .ok (.getfield 7, 3) := by decide +kernel
theorem dX11_lineLoss_49 : decode cX11_lineLoss 49 = .ok (.iconst 3, 1) := by decide +kernel
theorem dX11_lineLoss_50 : decode cX11_lineLoss 50 = .ok (.iaload, 1) := by decide +kernel
theorem dX11_lineLoss_51 : decode cX11_lineLoss 51 = .ok (.if_icmp .ge 42, 3) := by decide +kernel
theorem dX11_lineLoss_54 : decode cX11_lineLoss 54 = .ok (.iload_n 2, 1) := by decide +kernel
theorem dX11_lineLoss_55 : decode cX11_lineLoss 55 = .ok (.aload_n 0, 1) := by decide +kernel
theorem dX11_lineLoss_56 : decode cX11_lineLoss 56 = .ok (.iload_n 3, 1) := by decide +kernel
theorem dX11_lineLoss_57 : decode cX11_lineLoss 57 = .ok (.iconst 0, 1) := by decide +kernel
theorem dX11_lineLoss_58 : decode cX11_lineLoss 58 = .ok (.invokevirtual 177, 3) := by decide +kernel
theorem dX11_lineLoss_61 : decode cX11_lineLoss 61 = .ok (.iconst 2, 1) := by decide +kernel
theorem dX11_lineLoss_62 : decode cX11_lineLoss 62 = .ok (.if_icmp .ge 22, 3) := by decide +kernel
theorem dX11_lineLoss_65 : decode cX11_lineLoss 65 = .ok (.aload_n 0, 1) := by decide +kernel
theorem dX11_lineLoss_66 : decode cX11_lineLoss 66 = .ok (.iload_n 3, 1) := by decide +kernel
theorem dX11_lineLoss_67 : decode cX11_lineLoss 67 = .ok (.iconst 1, 1) := by decide +kernel
theorem dX11_lineLoss_68 : decode cX11_lineLoss 68 = .ok (.invokevirtual 177, 3) := by decide +kernel
theorem dX11_lineLoss_71 : decode cX11_lineLoss 71 = .ok (.iload_n 1, 1) := by decide +kernel
theorem dX11_lineLoss_72 : decode cX11_lineLoss 72 = .ok (.if_icmp .ge 12, 3) := by decide +kernel
theorem dX11_lineLoss_75 : decode cX11_lineLoss 75 = .ok (.aload_n 0, 1) := by decide +kernel
theorem dX11_lineLoss_76 : decode cX11_lineLoss 76 = .ok (.iload_n 3, 1) := by decide +kernel
theorem dX11_lineLoss_77 : decode cX11_lineLoss 77 = .ok (.iconst 2, 1) := by decide +kernel
theorem dX11_lineLoss_78 : decode cX11_lineLoss 78 = .ok (.invokevirtual 177, 3) := by decide +kernel
theorem dX11_lineLoss_81 : decode cX11_lineLoss 81 = .ok (.goto 4, 3) := by decide +kernel
theorem dX11_lineLoss_84 : decode cX11_lineLoss 84 = .ok (.iconst 0, 1) := by decide +kernel
theorem dX11_lineLoss_85 : decode cX11_lineLoss 85 = .ok (.iadd, 1) := by decide +kernel
theorem dX11_lineLoss_86 : decode cX11_lineLoss 86 = .ok (.istore_n 2, 1) := by decide +kernel
theorem dX11_lineLoss_87 : decode cX11_lineLoss 87 = .ok (.iinc 3 1, 3) := by decide +kernel
theorem dX11_lineLoss_90 : decode cX11_lineLoss 90 = .ok (.goto (-46), 3) := by decide +kernel
theorem dX11_lineLoss_93 : decode cX11_lineLoss 93 = .ok (.iload_n 2, 1) := by decide +kernel
theorem dX11_lineLoss_94 : decode cX11_lineLoss 94 = .ok (.ireturn, 1) := by decide +kernel
theorem ggX11_layFlashes_X11_at : GoodIn wsX11_layFlashes wsX11_at := goodIn_sub (fun w h => (List.mem_cons.mp h).elim (fun e => ft_me e (List.mem_cons_of_mem _ (List.mem_append_left _ (List.mem_of_getElem? (i := 9) rfl)))) (fun h => (List.mem_append.mp h).elim (fun h => (List.forall_mem_cons.mpr ⟨(List.mem_cons_of_mem _ (List.mem_append_left _ (List.mem_of_getElem? (i := 1) rfl))), fun _ h => absurd h List.not_mem_nil⟩) w h) (fun h => k_wsX11_layFlashes_wsX110 w h))) gw_wsX11_at
theorem gX11_layFlashes_X11_at : GoodIn wsX11_layFlashes (wsV RX11 177 RX11 yX11_at wsX11_at) := goodIn_app (goodIn_sub (List.forall_mem_cons.mpr ⟨(List.mem_cons_of_mem _ (List.mem_append_left _ (List.mem_of_getElem? (i := 5) rfl))), List.forall_mem_cons.mpr ⟨(List.mem_cons_of_mem _ (List.mem_append_left _ (List.mem_of_getElem? (i := 6) rfl))), List.forall_mem_cons.mpr ⟨(List.mem_cons_of_mem _ (List.mem_append_left _ (List.mem_of_getElem? (i := 7) rfl))), List.forall_mem_cons.mpr ⟨(List.mem_cons_of_mem _ (List.mem_append_left _ (List.mem_of_getElem? (i := 8) rfl))), fun _ h => absurd h List.not_mem_nil⟩⟩⟩⟩) (by decide +kernel)) ggX11_layFlashes_X11_at
theorem ggX11_layFlashes_X11_setting : GoodIn wsX11_layFlashes wsX11_setting := goodIn_sub (fun w h => (List.mem_cons.mp h).elim (fun e => ft_me e (List.mem_cons_of_mem _ (List.mem_append_left _ (List.mem_of_getElem? (i := 13) rfl)))) (fun h => (List.mem_append.mp h).elim (fun h => (List.forall_mem_cons.mpr ⟨(List.mem_cons_of_mem _ (List.mem_append_left _ (List.mem_of_getElem? (i := 1) rfl))), fun _ h => absurd h List.not_mem_nil⟩) w h) (fun h => k_wsX11_layFlashes_wsX110 w h))) gw_wsX11_setting
theorem gX11_layFlashes_X11_setting : GoodIn wsX11_layFlashes (wsV RX11 194 RX11 yX11_setting wsX11_setting) := goodIn_app (goodIn_sub (List.forall_mem_cons.mpr ⟨(List.mem_cons_of_mem _ (List.mem_append_left _ (List.mem_of_getElem? (i := 10) rfl))), List.forall_mem_cons.mpr ⟨(List.mem_cons_of_mem _ (List.mem_append_left _ (List.mem_of_getElem? (i := 11) rfl))), List.forall_mem_cons.mpr ⟨(List.mem_cons_of_mem _ (List.mem_append_left _ (List.mem_of_getElem? (i := 12) rfl))), List.forall_mem_cons.mpr ⟨(List.mem_cons_of_mem _ (List.mem_append_left _ (List.mem_of_getElem? (i := 8) rfl))), fun _ h => absurd h List.not_mem_nil⟩⟩⟩⟩) (by decide +kernel)) ggX11_layFlashes_X11_setting
theorem ggX11_layFlashes_X11_ghostComes : GoodIn wsX11_layFlashes wsX11_ghostComes := goodIn_sub (fun w h => (List.mem_cons.mp h).elim (fun e => ft_me e (List.mem_cons_of_mem _ (List.mem_append_left _ (List.mem_of_getElem? (i := 17) rfl)))) (fun h => (List.mem_append.mp h).elim (fun h => (List.forall_mem_cons.mpr ⟨(List.mem_cons_of_mem _ (List.mem_append_left _ (List.mem_of_getElem? (i := 4) rfl))), List.forall_mem_cons.mpr ⟨(List.mem_cons_of_mem _ (List.mem_append_left _ (List.mem_of_getElem? (i := 18) rfl))), List.forall_mem_cons.mpr ⟨(List.mem_cons_of_mem _ (List.mem_append_left _ (List.mem_of_getElem? (i := 19) rfl))), List.forall_mem_cons.mpr ⟨(List.mem_cons_of_mem _ (List.mem_append_left _ (List.mem_of_getElem? (i := 20) rfl))), List.forall_mem_cons.mpr ⟨(List.mem_cons_of_mem _ (List.mem_append_left _ (List.mem_of_getElem? (i := 21) rfl))), fun _ h => absurd h List.not_mem_nil⟩⟩⟩⟩⟩) w h) (fun h => k_wsX11_layFlashes_wsX110 w h))) gw_wsX11_ghostComes
theorem gX11_layFlashes_X11_ghostComes : GoodIn wsX11_layFlashes (wsV RX11 211 RX11 yX11_ghostComes wsX11_ghostComes) := goodIn_app (goodIn_sub (List.forall_mem_cons.mpr ⟨(List.mem_cons_of_mem _ (List.mem_append_left _ (List.mem_of_getElem? (i := 14) rfl))), List.forall_mem_cons.mpr ⟨(List.mem_cons_of_mem _ (List.mem_append_left _ (List.mem_of_getElem? (i := 15) rfl))), List.forall_mem_cons.mpr ⟨(List.mem_cons_of_mem _ (List.mem_append_left _ (List.mem_of_getElem? (i := 16) rfl))), List.forall_mem_cons.mpr ⟨(List.mem_cons_of_mem _ (List.mem_append_left _ (List.mem_of_getElem? (i := 8) rfl))), fun _ h => absurd h List.not_mem_nil⟩⟩⟩⟩) (by decide +kernel)) ggX11_layFlashes_X11_ghostComes
theorem dX11_layFlashes_0 : decode cX11_layFlashes 0 = .ok (.aload_n 0, 1) := by decide +kernel
theorem dX11_layFlashes_1 : decode cX11_layFlashes 1 = .ok (.iconst 0, 1) := by decide +kernel
theorem dX11_layFlashes_2 : decode cX11_layFlashes 2 = .ok (.putfield 205, 3) := by decide +kernel
theorem dX11_layFlashes_5 : decode cX11_layFlashes 5 = .ok (.iconst 0, 1) := by decide +kernel
theorem dX11_layFlashes_6 : decode cX11_layFlashes 6 = .ok (.istore_n 1, 1) := by decide +kernel
theorem dX11_layFlashes_7 : decode cX11_layFlashes 7 = .ok (.iload_n 1, 1) := by decide +kernel
theorem dX11_layFlashes_8 : decode cX11_layFlashes 8 = .ok (.aload_n 0, 1) := by decide +kernel
theorem dX11_layFlashes_9 : decode cX11_layFlashes 9 = .ok (.getfield 7, 3) := by decide +kernel
theorem dX11_layFlashes_12 : decode cX11_layFlashes 12 = .ok (.iconst 3, 1) := by decide +kernel
theorem dX11_layFlashes_13 : decode cX11_layFlashes 13 = .ok (.iaload, 1) := by decide +kernel
theorem dX11_layFlashes_14 : decode cX11_layFlashes 14 = .ok (.if_icmp .ge 59, 3) := by decide +kernel
theorem dX11_layFlashes_17 : decode cX11_layFlashes 17 = .ok (.aload_n 0, 1) := by decide +kernel
theorem dX11_layFlashes_18 : decode cX11_layFlashes 18 = .ok (.iload_n 1, 1) := by decide +kernel
theorem dX11_layFlashes_19 : decode cX11_layFlashes 19 = .ok (.iconst 0, 1) := by decide +kernel
theorem dX11_layFlashes_20 : decode cX11_layFlashes 20 = .ok (.invokevirtual 177, 3) := by decide +kernel
theorem dX11_layFlashes_23 : decode cX11_layFlashes 23 = .ok (.iconst 1, 1) := by decide +kernel
theorem dX11_layFlashes_24 : decode cX11_layFlashes 24 = .ok (.if_icmp .ne 43, 3) := by decide +kernel
theorem dX11_layFlashes_27 : decode cX11_layFlashes 27 = .ok (.aload_n 0, 1) := by decide +kernel
theorem dX11_layFlashes_28 : decode cX11_layFlashes 28 = .ok (.getfield 34, 3) := by decide +kernel
theorem dX11_layFlashes_31 : decode cX11_layFlashes 31 = .ok (.aload_n 0, 1) := by decide +kernel
theorem dX11_layFlashes_32 : decode cX11_layFlashes 32 = .ok (.getfield 205, 3) := by decide +kernel
theorem dX11_layFlashes_35 : decode cX11_layFlashes 35 = .ok (.aload_n 0, 1) := by decide +kernel
theorem dX11_layFlashes_36 : decode cX11_layFlashes 36 = .ok (.iload_n 1, 1) := by decide +kernel
theorem dX11_layFlashes_37 : decode cX11_layFlashes 37 = .ok (.iconst 1, 1) := by decide +kernel
theorem dX11_layFlashes_38 : decode cX11_layFlashes 38 = .ok (.invokevirtual 177, 3) := by decide +kernel
theorem dX11_layFlashes_41 : decode cX11_layFlashes 41 = .ok (.iastore, 1) := by decide +kernel
theorem dX11_layFlashes_42 : decode cX11_layFlashes 42 = .ok (.aload_n 0, 1) := by decide +kernel
theorem dX11_layFlashes_43 : decode cX11_layFlashes 43 = .ok (.getfield 37, 3) := by decide +kernel
theorem dX11_layFlashes_46 : decode cX11_layFlashes 46 = .ok (.aload_n 0, 1) := by decide +kernel
theorem dX11_layFlashes_47 : decode cX11_layFlashes 47 = .ok (.getfield 205, 3) := by decide +kernel
theorem dX11_layFlashes_50 : decode cX11_layFlashes 50 = .ok (.aload_n 0, 1) := by decide +kernel
theorem dX11_layFlashes_51 : decode cX11_layFlashes 51 = .ok (.iload_n 1, 1) := by decide +kernel
theorem dX11_layFlashes_52 : decode cX11_layFlashes 52 = .ok (.iconst 3, 1) := by decide +kernel
theorem dX11_layFlashes_53 : decode cX11_layFlashes 53 = .ok (.invokevirtual 177, 3) := by decide +kernel
theorem dX11_layFlashes_56 : decode cX11_layFlashes 56 = .ok (.iastore, 1) := by decide +kernel
theorem dX11_layFlashes_57 : decode cX11_layFlashes 57 = .ok (.aload_n 0, 1) := by decide +kernel
theorem dX11_layFlashes_58 : decode cX11_layFlashes 58 = .ok (.dup, 1) := by decide +kernel
theorem dX11_layFlashes_59 : decode cX11_layFlashes 59 = .ok (.getfield 205, 3) := by decide +kernel
theorem dX11_layFlashes_62 : decode cX11_layFlashes 62 = .ok (.iconst 1, 1) := by decide +kernel
theorem dX11_layFlashes_63 : decode cX11_layFlashes 63 = .ok (.iadd, 1) := by decide +kernel
theorem dX11_layFlashes_64 : decode cX11_layFlashes 64 = .ok (.putfield 205, 3) := by decide +kernel
theorem dX11_layFlashes_67 : decode cX11_layFlashes 67 = .ok (.iinc 1 1, 3) := by decide +kernel
theorem dX11_layFlashes_70 : decode cX11_layFlashes 70 = .ok (.goto (-63), 3) := by decide +kernel
theorem dX11_layFlashes_73 : decode cX11_layFlashes 73 = .ok (.aload_n 0, 1) := by decide +kernel
theorem dX11_layFlashes_74 : decode cX11_layFlashes 74 = .ok (.getfield 7, 3) := by decide +kernel
theorem dX11_layFlashes_77 : decode cX11_layFlashes 77 = .ok (.iconst 2, 1) := by decide +kernel
theorem dX11_layFlashes_78 : decode cX11_layFlashes 78 = .ok (.iaload, 1) := by decide +kernel
theorem dX11_layFlashes_79 : decode cX11_layFlashes 79 = .ok (.ifCond .le 43, 3) := by decide +kernel
theorem dX11_layFlashes_82 : decode cX11_layFlashes 82 = .ok (.aload_n 0, 1) := by decide +kernel
theorem dX11_layFlashes_83 : decode cX11_layFlashes 83 = .ok (.getfield 34, 3) := by decide +kernel
theorem dX11_layFlashes_86 : decode cX11_layFlashes 86 = .ok (.aload_n 0, 1) := by decide +kernel
theorem dX11_layFlashes_87 : decode cX11_layFlashes 87 = .ok (.getfield 205, 3) := by decide +kernel
theorem dX11_layFlashes_90 : decode cX11_layFlashes 90 = .ok (.aload_n 0, 1) := by decide +kernel
theorem dX11_layFlashes_91 : decode cX11_layFlashes 91 = .ok (.getfield 7, 3) := by decide +kernel
theorem dX11_layFlashes_94 : decode cX11_layFlashes 94 = .ok (.iconst 0, 1) := by decide +kernel
theorem dX11_layFlashes_95 : decode cX11_layFlashes 95 = .ok (.iaload, 1) := by decide +kernel
theorem dX11_layFlashes_96 : decode cX11_layFlashes 96 = .ok (.iastore, 1) := by decide +kernel
theorem dX11_layFlashes_97 : decode cX11_layFlashes 97 = .ok (.aload_n 0, 1) := by decide +kernel
theorem dX11_layFlashes_98 : decode cX11_layFlashes 98 = .ok (.getfield 37, 3) := by decide +kernel
theorem dX11_layFlashes_101 : decode cX11_layFlashes 101 = .ok (.aload_n 0, 1) := by decide +kernel
theorem dX11_layFlashes_102 : decode cX11_layFlashes 102 = .ok (.getfield 205, 3) := by decide +kernel
theorem dX11_layFlashes_105 : decode cX11_layFlashes 105 = .ok (.aload_n 0, 1) := by decide +kernel
theorem dX11_layFlashes_106 : decode cX11_layFlashes 106 = .ok (.getfield 7, 3) := by decide +kernel
theorem dX11_layFlashes_109 : decode cX11_layFlashes 109 = .ok (.iconst 2, 1) := by decide +kernel
theorem dX11_layFlashes_110 : decode cX11_layFlashes 110 = .ok (.iaload, 1) := by decide +kernel
theorem dX11_layFlashes_111 : decode cX11_layFlashes 111 = .ok (.iastore, 1) := by decide +kernel
theorem dX11_layFlashes_112 : decode cX11_layFlashes 112 = .ok (.aload_n 0, 1) := by decide +kernel
theorem dX11_layFlashes_113 : decode cX11_layFlashes 113 = .ok (.dup, 1) := by decide +kernel
theorem dX11_layFlashes_114 : decode cX11_layFlashes 114 = .ok (.getfield 205, 3) := by decide +kernel
theorem dX11_layFlashes_117 : decode cX11_layFlashes 117 = .ok (.iconst 1, 1) := by decide +kernel
theorem dX11_layFlashes_118 : decode cX11_layFlashes 118 = .ok (.iadd, 1) := by decide +kernel
theorem dX11_layFlashes_119 : decode cX11_layFlashes 119 = .ok (.putfield 205, 3) := by decide +kernel
theorem dX11_layFlashes_122 : decode cX11_layFlashes 122 = .ok (.aload_n 0, 1) := by decide +kernel
theorem dX11_layFlashes_123 : decode cX11_layFlashes 123 = .ok (.iconst 0, 1) := by decide +kernel
theorem dX11_layFlashes_124 : decode cX11_layFlashes 124 = .ok (.putfield 208, 3) := by decide +kernel
theorem dX11_layFlashes_127 : decode cX11_layFlashes 127 = .ok (.iconst 0, 1) := by decide +kernel
theorem dX11_layFlashes_128 : decode cX11_layFlashes 128 = .ok (.istore_n 1, 1) := by decide +kernel
theorem dX11_layFlashes_129 : decode cX11_layFlashes 129 = .ok (.iload_n 1, 1) := by decide +kernel
theorem dX11_layFlashes_130 : decode cX11_layFlashes 130 = .ok (.aload_n 0, 1) := by decide +kernel
theorem dX11_layFlashes_131 : decode cX11_layFlashes 131 = .ok (.getfield 205, 3) := by decide +kernel
theorem dX11_layFlashes_134 : decode cX11_layFlashes 134 = .ok (.if_icmp .ge 85, 3) := by decide +kernel
theorem dX11_layFlashes_137 : decode cX11_layFlashes 137 = .ok (.iload_n 1, 1) := by decide +kernel
theorem dX11_layFlashes_138 : decode cX11_layFlashes 138 = .ok (.iconst 1, 1) := by decide +kernel
theorem dX11_layFlashes_139 : decode cX11_layFlashes 139 = .ok (.iadd, 1) := by decide +kernel
theorem dX11_layFlashes_140 : decode cX11_layFlashes 140 = .ok (.istore_n 2, 1) := by decide +kernel
theorem dX11_layFlashes_141 : decode cX11_layFlashes 141 = .ok (.iload_n 2, 1) := by decide +kernel
theorem dX11_layFlashes_142 : decode cX11_layFlashes 142 = .ok (.aload_n 0, 1) := by decide +kernel
theorem dX11_layFlashes_143 : decode cX11_layFlashes 143 = .ok (.getfield 205, 3) := by decide +kernel
theorem dX11_layFlashes_146 : decode cX11_layFlashes 146 = .ok (.if_icmp .ge 67, 3) := by decide +kernel
theorem dX11_layFlashes_149 : decode cX11_layFlashes 149 = .ok (.aload_n 0, 1) := by decide +kernel
theorem dX11_layFlashes_150 : decode cX11_layFlashes 150 = .ok (.getfield 37, 3) := by decide +kernel
theorem dX11_layFlashes_153 : decode cX11_layFlashes 153 = .ok (.iload_n 1, 1) := by decide +kernel
theorem dX11_layFlashes_154 : decode cX11_layFlashes 154 = .ok (.iaload, 1) := by decide +kernel
theorem dX11_layFlashes_155 : decode cX11_layFlashes 155 = .ok (.aload_n 0, 1) := by decide +kernel
theorem dX11_layFlashes_156 : decode cX11_layFlashes 156 = .ok (.getfield 37, 3) := by decide +kernel
theorem dX11_layFlashes_159 : decode cX11_layFlashes 159 = .ok (.iload_n 2, 1) := by decide +kernel
theorem dX11_layFlashes_160 : decode cX11_layFlashes 160 = .ok (.iaload, 1) := by decide +kernel
theorem dX11_layFlashes_161 : decode cX11_layFlashes 161 = .ok (.iadd, 1) := by decide +kernel
theorem dX11_layFlashes_162 : decode cX11_layFlashes 162 = .ok (.iconst 2, 1) := by decide +kernel
theorem dX11_layFlashes_163 : decode cX11_layFlashes 163 = .ok (.idiv, 1) := by decide +kernel
theorem dX11_layFlashes_164 : decode cX11_layFlashes 164 = .ok (.aload_n 0, 1) := by decide +kernel
theorem dX11_layFlashes_165 : decode cX11_layFlashes 165 = .ok (.iconst 2, 1) := by decide +kernel
theorem dX11_layFlashes_166 : decode cX11_layFlashes 166 = .ok (.invokevirtual 194, 3) := by decide +kernel
theorem dX11_layFlashes_169 : decode cX11_layFlashes 169 = .ok (.isub, 1) := by decide +kernel
theorem dX11_layFlashes_170 : decode cX11_layFlashes 170 = .ok (.istore_n 3, 1) := by decide +kernel
theorem dX11_layFlashes_171 : decode cX11_layFlashes 171 = .ok (.iload_n 3, 1) := by decide +kernel
theorem dX11_layFlashes_172 : decode cX11_layFlashes 172 = .ok (.ifCond .le 35, 3) := by decide +kernel
theorem dX11_layFlashes_175 : decode cX11_layFlashes 175 = .ok (.aload_n 0, 1) := by decide +kernel
theorem dX11_layFlashes_176 : decode cX11_layFlashes 176 = .ok (.iconst 2, 1) := by decide +kernel
theorem dX11_layFlashes_177 : decode cX11_layFlashes 177 = .ok (.aload_n 0, 1) := by decide +kernel
theorem dX11_layFlashes_178 : decode cX11_layFlashes 178 = .ok (.getfield 34, 3) := by decide +kernel
theorem dX11_layFlashes_181 : decode cX11_layFlashes 181 = .ok (.iload_n 2, 1) := by decide +kernel
theorem dX11_layFlashes_182 : decode cX11_layFlashes 182 = .ok (.iaload, 1) := by decide +kernel
theorem dX11_layFlashes_183 : decode cX11_layFlashes 183 = .ok (.imul, 1) := by decide +kernel
theorem dX11_layFlashes_184 : decode cX11_layFlashes 184 = .ok (.aload_n 0, 1) := by decide +kernel
theorem dX11_layFlashes_185 : decode cX11_layFlashes 185 = .ok (.getfield 34, 3) := by decide +kernel
theorem dX11_layFlashes_188 : decode cX11_layFlashes 188 = .ok (.iload_n 1, 1) := by decide +kernel
theorem dX11_layFlashes_189 : decode cX11_layFlashes 189 = .ok (.iaload, 1) := by decide +kernel
theorem dX11_layFlashes_190 : decode cX11_layFlashes 190 = .ok (.isub, 1) := by decide +kernel
theorem dX11_layFlashes_191 : decode cX11_layFlashes 191 = .ok (.iload_n 3, 1) := by decide +kernel
theorem dX11_layFlashes_192 : decode cX11_layFlashes 192 = .ok (.aload_n 0, 1) := by decide +kernel
theorem dX11_layFlashes_193 : decode cX11_layFlashes 193 = .ok (.getfield 34, 3) := by decide +kernel
theorem dX11_layFlashes_196 : decode cX11_layFlashes 196 = .ok (.iload_n 1, 1) := by decide +kernel
theorem dX11_layFlashes_197 : decode cX11_layFlashes 197 = .ok (.iaload, 1) := by decide +kernel
theorem dX11_layFlashes_198 : decode cX11_layFlashes 198 = .ok (.aload_n 0, 1) := by decide +kernel
theorem dX11_layFlashes_199 : decode cX11_layFlashes 199 = .ok (.getfield 34, 3) := by decide +kernel
theorem dX11_layFlashes_202 : decode cX11_layFlashes 202 = .ok (.iload_n 2, 1) := by decide +kernel
theorem dX11_layFlashes_203 : decode cX11_layFlashes 203 = .ok (.iaload, 1) := by decide +kernel
theorem dX11_layFlashes_204 : decode cX11_layFlashes 204 = .ok (.invokevirtual 211, 3) := by decide +kernel
theorem dX11_layFlashes_207 : decode cX11_layFlashes 207 = .ok (.iinc 2 1, 3) := by decide +kernel
theorem dX11_layFlashes_210 : decode cX11_layFlashes 210 = .ok (.goto (-69), 3) := by decide +kernel
theorem dX11_layFlashes_213 : decode cX11_layFlashes 213 = .ok (.iinc 1 1, 3) := by decide +kernel
theorem dX11_layFlashes_216 : decode cX11_layFlashes 216 = .ok (.goto (-87), 3) := by decide +kernel
theorem dX11_layFlashes_219 : decode cX11_layFlashes 219 = .ok (.return_, 1) := by decide +kernel
theorem dX11_ghostComes_0 : decode cX11_ghostComes 0 = .ok (.aload_n 0, 1) := by decide +kernel
theorem dX11_ghostComes_1 : decode cX11_ghostComes 1 = .ok (.getfield 208, 3) := by decide +kernel
theorem dX11_ghostComes_4 : decode cX11_ghostComes 4 = .ok (.istore 5, 2) := by decide +kernel
theorem dX11_ghostComes_6 : decode cX11_ghostComes 6 = .ok (.iload 5, 2) := by decide +kernel
theorem dX11_ghostComes_8 : decode cX11_ghostComes 8 = .ok (.ifCond .le 112, 3) := by decide +kernel
theorem dX11_ghostComes_11 : decode cX11_ghostComes 11 = .ok (.aload_n 0, 1) := by decide +kernel
theorem dX11_ghostComes_12 : decode cX11_ghostComes 12 = .ok (.getfield 40, 3) := by decide +kernel
theorem dX11_ghostComes_15 : decode cX11_ghostComes 15 = .ok (.iload 5, 2) := by decide +kernel
theorem dX11_ghostComes_17 : decode cX11_ghostComes 17 = .ok (.iconst 1, 1) := by decide +kernel
theorem dX11_ghostComes_18 : decode cX11_ghostComes 18 = .ok (.isub, 1) := by decide +kernel
theorem dX11_ghostComes_19 : decode cX11_ghostComes 19 = .ok (.iaload, 1) := by decide +kernel
theorem dX11_ghostComes_20 : decode cX11_ghostComes 20 = .ok (.iload_n 1, 1) := by decide +kernel
theorem dX11_ghostComes_21 : decode cX11_ghostComes 21 = .ok (.if_icmp .gt 29, 3) := by decide +kernel
theorem dX11_ghostComes_24 : decode cX11_ghostComes 24 = .ok (.aload_n 0, 1) := by decide +kernel
theorem dX11_ghostComes_25 : decode cX11_ghostComes 25 = .ok (.getfield 40, 3) := by decide +kernel
theorem dX11_ghostComes_28 : decode cX11_ghostComes 28 = .ok (.iload 5, 2) := by decide +kernel
theorem dX11_ghostComes_30 : decode cX11_ghostComes 30 = .ok (.iconst 1, 1) := by decide +kernel
theorem dX11_ghostComes_31 : decode cX11_ghostComes 31 = .ok (.isub, 1) := by decide +kernel
theorem dX11_ghostComes_32 : decode cX11_ghostComes 32 = .ok (.iaload, 1) := by decide +kernel
theorem dX11_ghostComes_33 : decode cX11_ghostComes 33 = .ok (.iload_n 1, 1) := by decide +kernel
theorem dX11_ghostComes_34 : decode cX11_ghostComes 34 = .ok (.if_icmp .ne 86, 3) := by decide +kernel
theorem dX11_ghostComes_37 : decode cX11_ghostComes 37 = .ok (.aload_n 0, 1) := by decide +kernel
theorem dX11_ghostComes_38 : decode cX11_ghostComes 38 = .ok (.getfield 46, 3) := by decide +kernel
theorem dX11_ghostComes_41 : decode cX11_ghostComes 41 = .ok (.iload 5, 2) := by decide +kernel
theorem dX11_ghostComes_43 : decode cX11_ghostComes 43 = .ok (.iconst 1, 1) := by decide +kernel
theorem dX11_ghostComes_44 : decode cX11_ghostComes 44 = .ok (.isub, 1) := by decide +kernel
theorem dX11_ghostComes_45 : decode cX11_ghostComes 45 = .ok (.iaload, 1) := by decide +kernel
theorem dX11_ghostComes_46 : decode cX11_ghostComes 46 = .ok (.iload_n 3, 1) := by decide +kernel
theorem dX11_ghostComes_47 : decode cX11_ghostComes 47 = .ok (.if_icmp .le 73, 3) := by decide +kernel
theorem dX11_ghostComes_50 : decode cX11_ghostComes 50 = .ok (.aload_n 0, 1) := by decide +kernel
theorem dX11_ghostComes_51 : decode cX11_ghostComes 51 = .ok (.getfield 40, 3) := by decide +kernel
theorem dX11_ghostComes_54 : decode cX11_ghostComes 54 = .ok (.iload 5, 2) := by decide +kernel
theorem dX11_ghostComes_56 : decode cX11_ghostComes 56 = .ok (.aload_n 0, 1) := by decide +kernel
theorem dX11_ghostComes_57 : decode cX11_ghostComes 57 = .ok (.getfield 40, 3) := by decide +kernel
theorem dX11_ghostComes_60 : decode cX11_ghostComes 60 = .ok (.iload 5, 2) := by decide +kernel
theorem dX11_ghostComes_62 : decode cX11_ghostComes 62 = .ok (.iconst 1, 1) := by decide +kernel
theorem dX11_ghostComes_63 : decode cX11_ghostComes 63 = .ok (.isub, 1) := by decide +kernel
theorem dX11_ghostComes_64 : decode cX11_ghostComes 64 = .ok (.iaload, 1) := by decide +kernel
theorem dX11_ghostComes_65 : decode cX11_ghostComes 65 = .ok (.iastore, 1) := by decide +kernel
theorem dX11_ghostComes_66 : decode cX11_ghostComes 66 = .ok (.aload_n 0, 1) := by decide +kernel
theorem dX11_ghostComes_67 : decode cX11_ghostComes 67 = .ok (.getfield 43, 3) := by decide +kernel
theorem dX11_ghostComes_70 : decode cX11_ghostComes 70 = .ok (.iload 5, 2) := by decide +kernel
theorem dX11_ghostComes_72 : decode cX11_ghostComes 72 = .ok (.aload_n 0, 1) := by decide +kernel
theorem dX11_ghostComes_73 : decode cX11_ghostComes 73 = .ok (.getfield 43, 3) := by decide +kernel
theorem dX11_ghostComes_76 : decode cX11_ghostComes 76 = .ok (.iload 5, 2) := by decide +kernel
theorem dX11_ghostComes_78 : decode cX11_ghostComes 78 = .ok (.iconst 1, 1) := by decide +kernel
theorem dX11_ghostComes_79 : decode cX11_ghostComes 79 = .ok (.isub, 1) := by decide +kernel
theorem dX11_ghostComes_80 : decode cX11_ghostComes 80 = .ok (.iaload, 1) := by decide +kernel
theorem dX11_ghostComes_81 : decode cX11_ghostComes 81 = .ok (.iastore, 1) := by decide +kernel
theorem dX11_ghostComes_82 : decode cX11_ghostComes 82 = .ok (.aload_n 0, 1) := by decide +kernel
theorem dX11_ghostComes_83 : decode cX11_ghostComes 83 = .ok (.getfield 46, 3) := by decide +kernel
theorem dX11_ghostComes_86 : decode cX11_ghostComes 86 = .ok (.iload 5, 2) := by decide +kernel
theorem dX11_ghostComes_88 : decode cX11_ghostComes 88 = .ok (.aload_n 0, 1) := by decide +kernel
theorem dX11_ghostComes_89 : decode cX11_ghostComes 89 = .ok (.getfield 46, 3) := by decide +kernel
theorem dX11_ghostComes_92 : decode cX11_ghostComes 92 = .ok (.iload 5, 2) := by decide +kernel
theorem dX11_ghostComes_94 : decode cX11_ghostComes 94 = .ok (.iconst 1, 1) := by decide +kernel
theorem dX11_ghostComes_95 : decode cX11_ghostComes 95 = .ok (.isub, 1) := by decide +kernel
theorem dX11_ghostComes_96 : decode cX11_ghostComes 96 = .ok (.iaload, 1) := by decide +kernel
theorem dX11_ghostComes_97 : decode cX11_ghostComes 97 = .ok (.iastore, 1) := by decide +kernel
theorem dX11_ghostComes_98 : decode cX11_ghostComes 98 = .ok (.aload_n 0, 1) := by decide +kernel
theorem dX11_ghostComes_99 : decode cX11_ghostComes 99 = .ok (.getfield 49, 3) := by decide +kernel
theorem dX11_ghostComes_102 : decode cX11_ghostComes 102 = .ok (.iload 5, 2) := by decide +kernel
theorem dX11_ghostComes_104 : decode cX11_ghostComes 104 = .ok (.aload_n 0, 1) := by decide +kernel
theorem dX11_ghostComes_105 : decode cX11_ghostComes 105 = .ok (.getfield 49, 3) := by decide +kernel
theorem dX11_ghostComes_108 : decode cX11_ghostComes 108 = .ok (.iload 5, 2) := by decide +kernel
theorem dX11_ghostComes_110 : decode cX11_ghostComes 110 = .ok (.iconst 1, 1) := by decide +kernel
theorem dX11_ghostComes_111 : decode cX11_ghostComes 111 = .ok (.isub, 1) := by decide +kernel
theorem dX11_ghostComes_112 : decode cX11_ghostComes 112 = .ok (.iaload, 1) := by decide +kernel
theorem dX11_ghostComes_113 : decode cX11_ghostComes 113 = .ok (.iastore, 1) := by decide +kernel
theorem dX11_ghostComes_114 : decode cX11_ghostComes 114 = .ok (.iinc 5 (-1), 3) := by decide +kernel
theorem dX11_ghostComes_117 : decode cX11_ghostComes 117 = .ok (.goto (-111), 3) := by decide +kernel
theorem dX11_ghostComes_120 : decode cX11_ghostComes 120 = .ok (.aload_n 0, 1) := by decide +kernel
theorem dX11_ghostComes_121 : decode cX11_ghostComes 121 = .ok (.getfield 40, 3) := by decide +kernel
theorem dX11_ghostComes_124 : decode cX11_ghostComes 124 = .ok (.iload 5, 2) := by decide +kernel
theorem dX11_ghostComes_126 : decode cX11_ghostComes 126 = .ok (.iload_n 1, 1) := by decide +kernel
theorem dX11_ghostComes_127 : decode cX11_ghostComes 127 = .ok (.iastore, 1) := by decide +kernel
theorem dX11_ghostComes_128 : decode cX11_ghostComes 128 = .ok (.aload_n 0, 1) := by decide +kernel
theorem dX11_ghostComes_129 : decode cX11_ghostComes 129 = .ok (.getfield 43, 3) := by decide +kernel
theorem dX11_ghostComes_132 : decode cX11_ghostComes 132 = .ok (.iload 5, 2) := by decide +kernel
theorem dX11_ghostComes_134 : decode cX11_ghostComes 134 = .ok (.iload_n 2, 1) := by decide +kernel
theorem dX11_ghostComes_135 : decode cX11_ghostComes 135 = .ok (.iastore, 1) := by decide +kernel
theorem dX11_ghostComes_136 : decode cX11_ghostComes 136 = .ok (.aload_n 0, 1) := by decide +kernel
theorem dX11_ghostComes_137 : decode cX11_ghostComes 137 = .ok (.getfield 46, 3) := by decide +kernel
theorem dX11_ghostComes_140 : decode cX11_ghostComes 140 = .ok (.iload 5, 2) := by decide +kernel
theorem dX11_ghostComes_142 : decode cX11_ghostComes 142 = .ok (.iload_n 3, 1) := by decide +kernel
theorem dX11_ghostComes_143 : decode cX11_ghostComes 143 = .ok (.iastore, 1) := by decide +kernel
theorem dX11_ghostComes_144 : decode cX11_ghostComes 144 = .ok (.aload_n 0, 1) := by decide +kernel
theorem dX11_ghostComes_145 : decode cX11_ghostComes 145 = .ok (.getfield 49, 3) := by decide +kernel
theorem dX11_ghostComes_148 : decode cX11_ghostComes 148 = .ok (.iload 5, 2) := by decide +kernel
theorem dX11_ghostComes_150 : decode cX11_ghostComes 150 = .ok (.iload 4, 2) := by decide +kernel
theorem dX11_ghostComes_152 : decode cX11_ghostComes 152 = .ok (.iastore, 1) := by decide +kernel
theorem dX11_ghostComes_153 : decode cX11_ghostComes 153 = .ok (.aload_n 0, 1) := by decide +kernel
theorem dX11_ghostComes_154 : decode cX11_ghostComes 154 = .ok (.dup, 1) := by decide +kernel
theorem dX11_ghostComes_155 : decode cX11_ghostComes 155 = .ok (.getfield 208, 3) := by decide +kernel
theorem dX11_ghostComes_158 : decode cX11_ghostComes 158 = .ok (.iconst 1, 1) := by decide +kernel
theorem dX11_ghostComes_159 : decode cX11_ghostComes 159 = .ok (.iadd, 1) := by decide +kernel
theorem dX11_ghostComes_160 : decode cX11_ghostComes 160 = .ok (.putfield 208, 3) := by decide +kernel
theorem dX11_ghostComes_163 : decode cX11_ghostComes 163 = .ok (.return_, 1) := by decide +kernel
theorem ggX11_peakOf_X11_setting : GoodIn wsX11_peakOf wsX11_setting := goodIn_sub (fun w h => (List.mem_cons.mp h).elim (fun e => ft_me e (List.mem_cons_of_mem _ (List.mem_append_left _ (List.mem_of_getElem? (i := 4) rfl)))) (fun h => (List.mem_append.mp h).elim (fun h => (List.forall_mem_cons.mpr ⟨(List.mem_cons_of_mem _ (List.mem_append_left _ (List.mem_of_getElem? (i := 5) rfl))), fun _ h => absurd h List.not_mem_nil⟩) w h) (fun h => k_wsX11_peakOf_wsX110 w h))) gw_wsX11_setting
theorem gX11_peakOf_X11_setting : GoodIn wsX11_peakOf (wsV RX11 194 RX11 yX11_setting wsX11_setting) := goodIn_app (goodIn_sub (List.forall_mem_cons.mpr ⟨(List.mem_cons_of_mem _ (List.mem_append_left _ (List.mem_of_getElem? (i := 0) rfl))), List.forall_mem_cons.mpr ⟨(List.mem_cons_of_mem _ (List.mem_append_left _ (List.mem_of_getElem? (i := 1) rfl))), List.forall_mem_cons.mpr ⟨(List.mem_cons_of_mem _ (List.mem_append_left _ (List.mem_of_getElem? (i := 2) rfl))), List.forall_mem_cons.mpr ⟨(List.mem_cons_of_mem _ (List.mem_append_left _ (List.mem_of_getElem? (i := 3) rfl))), fun _ h => absurd h List.not_mem_nil⟩⟩⟩⟩) (by decide +kernel)) ggX11_peakOf_X11_setting
theorem dX11_peakOf_0 : decode cX11_peakOf 0 = .ok (.iload_n 3, 1) := by decide +kernel
theorem dX11_peakOf_1 : decode cX11_peakOf 1 = .ok (.iload_n 1, 1) := by decide +kernel
theorem dX11_peakOf_2 : decode cX11_peakOf 2 = .ok (.isub, 1) := by decide +kernel
theorem dX11_peakOf_3 : decode cX11_peakOf 3 = .ok (.aload_n 0, 1) := by decide +kernel
theorem dX11_peakOf_4 : decode cX11_peakOf 4 = .ok (.iconst 0, 1) := by decide +kernel
theorem dX11_peakOf_5 : decode cX11_peakOf 5 = .ok (.invokevirtual 194, 3) := by decide +kernel
theorem dX11_peakOf_8 : decode cX11_peakOf 8 = .ok (.isub, 1) := by decide +kernel
theorem dX11_peakOf_9 : decode cX11_peakOf 9 = .ok (.iconst 1, 1) := by decide +kernel
end
section
theorem dJ9_floorMod_7cf53_0 : decode cJ9_floorMod_7cf53 0 = .ok (.iload_n 0, 1) := by decide +kernel
theorem dJ9_floorMod_7cf53_1 : decode cJ9_floorMod_7cf53 1 = .ok (.iload_n 1, 1) := by decide +kernel
theorem dJ9_floorMod_7cf53_2 : decode cJ9_floorMod_7cf53 2 = .ok (.irem, 1) := by decide +kernel
theorem dJ9_floorMod_7cf53_3 : decode cJ9_floorMod_7cf53 3 = .ok (.istore_n 2, 1) := by decide +kernel
theorem dJ9_floorMod_7cf53_4 : decode cJ9_floorMod_7cf53 4 = .ok (.iload_n 0, 1) := by decide +kernel
theorem dJ9_floorMod_7cf53_5 : decode cJ9_floorMod_7cf53 5 = .ok (.iload_n 1, 1) := by decide +kernel
theorem dJ9_floorMod_7cf53_6 : decode cJ9_floorMod_7cf53 6 = .ok (.ixor, 1) := by decide +kernel
theorem dJ9_floorMod_7cf53_7 : decode cJ9_floorMod_7cf53 7 = .ok (.ifCond .ge 11, 3) := by decide +kernel
theorem dJ9_floorMod_7cf53_10 : decode cJ9_floorMod_7cf53 10 = .ok (.iload_n 2, 1) := by decide +kernel
theorem dJ9_floorMod_7cf53_11 : decode cJ9_floorMod_7cf53 11 = .ok (.ifCond .eq 7, 3) := by decide +kernel
theorem dJ9_floorMod_7cf53_14 : decode cJ9_floorMod_7cf53 14 = .ok (.iload_n 2, 1) := by decide +kernel
theorem dJ9_floorMod_7cf53_15 : decode cJ9_floorMod_7cf53 15 = .ok (.iload_n 1, 1) := by decide +kernel
theorem dJ9_floorMod_7cf53_16 : decode cJ9_floorMod_7cf53 16 = .ok (.iadd, 1) := by decide +kernel
theorem dJ9_floorMod_7cf53_17 : decode cJ9_floorMod_7cf53 17 = .ok (.ireturn, 1) := by decide +kernel
theorem dJ9_floorMod_7cf53_18 : decode cJ9_floorMod_7cf53 18 = .ok (.iload_n 2, 1) := by decide +kernel
theorem dJ9_floorMod_7cf53_19 : decode cJ9_floorMod_7cf53 19 = .ok (.ireturn, 1) := by decide +kernel
theorem dJ9_abs_0f7a4_0 : decode cJ9_abs_0f7a4 0 = .ok (.iload_n 0, 1) := by decide +kernel
theorem dJ9_abs_0f7a4_1 : decode cJ9_abs_0f7a4 1 = .ok (.ifCond .ge 8, 3) := by decide +kernel
theorem dJ9_abs_0f7a4_4 : decode cJ9_abs_0f7a4 4 = .ok (.iload_n 0, 1) := by decide +kernel
theorem dJ9_abs_0f7a4_5 : decode cJ9_abs_0f7a4 5 = .ok (.ineg, 1) := by decide +kernel
theorem dJ9_abs_0f7a4_6 : decode cJ9_abs_0f7a4 6 = .ok (.goto 4, 3) := by decide +kernel
theorem dJ9_abs_0f7a4_9 : decode cJ9_abs_0f7a4 9 = .ok (.iload_n 0, 1) := by decide +kernel
theorem dJ9_abs_0f7a4_10 : decode cJ9_abs_0f7a4 10 = .ok (.ireturn, 1) := by decide +kernel
theorem dJ9_max_7cf53_0 : decode cJ9_max_7cf53 0 = .ok (.iload_n 0, 1) := by decide +kernel
theorem dJ9_max_7cf53_1 : decode cJ9_max_7cf53 1 = .ok (.iload_n 1, 1) := by decide +kernel
theorem dJ9_max_7cf53_2 : decode cJ9_max_7cf53 2 = .ok (.if_icmp .lt 7, 3) := by decide +kernel
theorem dJ9_max_7cf53_5 : decode cJ9_max_7cf53 5 = .ok (.iload_n 0, 1) := by decide +kernel
theorem dJ9_max_7cf53_6 : decode cJ9_max_7cf53 6 = .ok (.goto 4, 3) := by decide +kernel
theorem dJ9_max_7cf53_9 : decode cJ9_max_7cf53 9 = .ok (.iload_n 1, 1) := by decide +kernel
theorem dJ9_max_7cf53_10 : decode cJ9_max_7cf53 10 = .ok (.ireturn, 1) := by decide +kernel
theorem dJ9_min_7cf53_0 : decode cJ9_min_7cf53 0 = .ok (.iload_n 0, 1) := by decide +kernel
theorem dJ9_min_7cf53_1 : decode cJ9_min_7cf53 1 = .ok (.iload_n 1, 1) := by decide +kernel
theorem dJ9_min_7cf53_2 : decode cJ9_min_7cf53 2 = .ok (.if_icmp .gt 7, 3) := by decide +kernel
theorem dJ9_min_7cf53_5 : decode cJ9_min_7cf53 5 = .ok (.iload_n 0, 1) := by decide +kernel
theorem dJ9_min_7cf53_6 : decode cJ9_min_7cf53 6 = .ok (.goto 4, 3) := by decide +kernel
theorem dJ9_min_7cf53_9 : decode cJ9_min_7cf53 9 = .ok (.iload_n 1, 1) := by decide +kernel
theorem dJ9_min_7cf53_10 : decode cJ9_min_7cf53 10 = .ok (.ireturn, 1) := by decide +kernel
theorem ggJ0_length_8abf5_J0_coder_7d493 : GoodIn wsJ0_length_8abf5 wsJ0_coder_7d493 := goodIn_sub (fun w h => (List.mem_cons.mp h).elim (fun e => ft_me e (List.mem_cons_of_mem _ (List.mem_of_getElem? (i := 5) rfl))) (fun h => (List.forall_mem_cons.mpr ⟨(List.mem_cons_of_mem _ (List.mem_of_getElem? (i := 6) rfl)), List.forall_mem_cons.mpr ⟨(List.mem_cons_of_mem _ (List.mem_of_getElem? (i := 7) rfl)), fun _ h => absurd h List.not_mem_nil⟩⟩) w h)) gw_wsJ0_coder_7d493
theorem gJ0_length_8abf5_J0_coder_7d493 : GoodIn wsJ0_length_8abf5 (wsV RJ0 335 RJ0 yJ0_coder_7d493 wsJ0_coder_7d493) := goodIn_app (goodIn_sub (List.forall_mem_cons.mpr ⟨(List.mem_cons_of_mem _ (List.mem_of_getElem? (i := 1) rfl)), List.forall_mem_cons.mpr ⟨(List.mem_cons_of_mem _ (List.mem_of_getElem? (i := 2) rfl)), List.forall_mem_cons.mpr ⟨(List.mem_cons_of_mem _ (List.mem_of_getElem? (i := 3) rfl)), List.forall_mem_cons.mpr ⟨(List.mem_cons_of_mem _ (List.mem_of_getElem? (i := 4) rfl)), fun _ h => absurd h List.not_mem_nil⟩⟩⟩⟩) (by decide +kernel)) ggJ0_length_8abf5_J0_coder_7d493
theorem dJ0_length_8abf5_0 : decode cJ0_length_8abf5 0 = .ok (.aload_n 0, 1) := by decide +kernel
theorem dJ0_length_8abf5_1 : decode cJ0_length_8abf5 1 = .ok (.getfield 9, 3) := by decide +kernel
theorem dJ0_length_8abf5_4 : decode cJ0_length_8abf5 4 = .ok (.arraylength, 1) := by decide +kernel
theorem dJ0_length_8abf5_5 : decode cJ0_length_8abf5 5 = .ok (.aload_n 0, 1) := by decide +kernel
theorem dJ0_length_8abf5_6 : decode cJ0_length_8abf5 6 = .ok (.invokevirtual 335, 3) := by decide +kernel
theorem dJ0_length_8abf5_9 : decode cJ0_length_8abf5 9 = .ok (.ishr, 1) := by decide +kernel
theorem dJ0_length_8abf5_10 : decode cJ0_length_8abf5 10 = .ok (.ireturn, 1) := by decide +kernel
theorem ggJ0_charAt_5068e_J0_isLatin1_aae02 : GoodIn wsJ0_charAt_5068e wsJ0_isLatin1_aae02 := goodIn_sub (fun w h => (List.mem_cons.mp h).elim (fun e => ft_me e (k_wsJ0_charAt_5068e_wsJ0_charAt_5068e_r1 _ (List.mem_of_getElem? (i := 5) rfl))) (fun h => (List.forall_mem_cons.mpr ⟨(k_wsJ0_charAt_5068e_wsJ0_charAt_5068e_r1 _ (List.mem_of_getElem? (i := 6) rfl)), List.forall_mem_cons.mpr ⟨(k_wsJ0_charAt_5068e_wsJ0_charAt_5068e_r1 _ (List.mem_of_getElem? (i := 7) rfl)), fun _ h => absurd h List.not_mem_nil⟩⟩) w h)) gw_wsJ0_isLatin1_aae02
theorem gJ0_charAt_5068e_J0_isLatin1_aae02 : GoodIn wsJ0_charAt_5068e (wsV RJ0 492 RJ0 yJ0_isLatin1_aae02 wsJ0_isLatin1_aae02) := goodIn_app (goodIn_sub (List.forall_mem_cons.mpr ⟨(k_wsJ0_charAt_5068e_wsJ0_charAt_5068e_r1 _ (List.mem_of_getElem? (i := 1) rfl)), List.forall_mem_cons.mpr ⟨(k_wsJ0_charAt_5068e_wsJ0_charAt_5068e_r1 _ (List.mem_of_getElem? (i := 2) rfl)), List.forall_mem_cons.mpr ⟨(k_wsJ0_charAt_5068e_wsJ0_charAt_5068e_r1 _ (List.mem_of_getElem? (i := 3) rfl)), List.forall_mem_cons.mpr ⟨(k_wsJ0_charAt_5068e_wsJ0_charAt_5068e_r1 _ (List.mem_of_getElem? (i := 4) rfl)), fun _ h => absurd h List.not_mem_nil⟩⟩⟩⟩) (by decide +kernel)) ggJ0_charAt_5068e_J0_isLatin1_aae02
theorem ggJ0_charAt_5068e_J1_charAt_3b067 : GoodIn wsJ0_charAt_5068e wsJ1_charAt_3b067 := goodIn_sub (fun w h => (List.mem_cons.mp h).elim (fun e => ft_me e (k_wsJ0_charAt_5068e_wsJ0_charAt_5068e_r1 _ (List.mem_of_getElem? (i := 11) rfl))) (fun h => (List.forall_mem_cons.mpr ⟨(k_wsJ0_charAt_5068e_wsJ0_charAt_5068e_r1 _ (List.mem_of_getElem? (i := 12) rfl)), List.forall_mem_cons.mpr ⟨(k_wsJ0_charAt_5068e_wsJ0_charAt_5068e_r1 _ (List.mem_of_getElem? (i := 13) rfl)), List.forall_mem_cons.mpr ⟨(k_wsJ0_charAt_5068e_wsJ0_charAt_5068e_r1 _ (List.mem_of_getElem? (i := 4) rfl)), List.forall_mem_cons.mpr ⟨(k_wsJ0_charAt_5068e_wsJ0_charAt_5068e_r1 _ (List.mem_of_getElem? (i := 14) rfl)), List.forall_mem_cons.mpr ⟨(k_wsJ0_charAt_5068e_wsJ0_charAt_5068e_r1 _ (List.mem_of_getElem? (i := 15) rfl)), List.forall_mem_cons.mpr ⟨(k_wsJ0_charAt_5068e_wsJ0_charAt_5068e_r1 _ (List.mem_of_getElem? (i := 16) rfl)), List.forall_mem_cons.mpr ⟨(k_wsJ0_charAt_5068e_wsJ0_charAt_5068e_r1 _ (List.mem_of_getElem? (i := 17) rfl)), List.forall_mem_cons.mpr ⟨(k_wsJ0_charAt_5068e_wsJ0_charAt_5068e_r1 _ (List.mem_of_getElem? (i := 18) rfl)), List.forall_mem_cons.mpr ⟨(k_wsJ0_charAt_5068e_wsJ0_charAt_5068e_r1 _ (List.mem_of_getElem? (i := 19) rfl)), fun _ h => absurd h List.not_mem_nil⟩⟩⟩⟩⟩⟩⟩⟩⟩) w h)) gw_wsJ1_charAt_3b067
theorem gJ0_charAt_5068e_J1_charAt_3b067 : GoodIn wsJ0_charAt_5068e (va_wsS RJ0 495 yJ1_charAt_3b067 wsJ1_charAt_3b067) := goodIn_app (goodIn_sub (List.forall_mem_cons.mpr ⟨(k_wsJ0_charAt_5068e_wsJ0_charAt_5068e_r1 _ (List.mem_of_getElem? (i := 8) rfl)), List.forall_mem_cons.mpr ⟨(k_wsJ0_charAt_5068e_wsJ0_charAt_5068e_r1 _ (List.mem_of_getElem? (i := 9) rfl)), List.forall_mem_cons.mpr ⟨(k_wsJ0_charAt_5068e_wsJ0_charAt_5068e_r1 _ (List.mem_of_getElem? (i := 10) rfl)), fun _ h => absurd h List.not_mem_nil⟩⟩⟩) (by decide +kernel)) ggJ0_charAt_5068e_J1_charAt_3b067
theorem ggJ0_charAt_5068e_J2_charAt_3b067 : GoodIn wsJ0_charAt_5068e wsJ2_charAt_3b067 := goodIn_sub (fun w h => (List.mem_cons.mp h).elim (fun e => ft_me e (k_wsJ0_charAt_5068e_wsJ0_charAt_5068e_r1 _ (List.mem_of_getElem? (i := 23) rfl))) (fun h => (List.forall_mem_cons.mpr ⟨(k_wsJ0_charAt_5068e_wsJ0_charAt_5068e_r2 _ (List.mem_of_getElem? (i := 0) rfl)), List.forall_mem_cons.mpr ⟨(k_wsJ0_charAt_5068e_wsJ0_charAt_5068e_r2 _ (List.mem_of_getElem? (i := 1) rfl)), List.forall_mem_cons.mpr ⟨(k_wsJ0_charAt_5068e_wsJ0_charAt_5068e_r1 _ (List.mem_of_getElem? (i := 22) rfl)), List.forall_mem_cons.mpr ⟨(k_wsJ0_charAt_5068e_wsJ0_charAt_5068e_r2 _ (List.mem_of_getElem? (i := 2) rfl)), List.forall_mem_cons.mpr ⟨(k_wsJ0_charAt_5068e_wsJ0_charAt_5068e_r2 _ (List.mem_of_getElem? (i := 3) rfl)), List.forall_mem_cons.mpr ⟨(k_wsJ0_charAt_5068e_wsJ0_charAt_5068e_r2 _ (List.mem_of_getElem? (i := 4) rfl)), List.forall_mem_cons.mpr ⟨(k_wsJ0_charAt_5068e_wsJ0_charAt_5068e_r2 _ (List.mem_of_getElem? (i := 5) rfl)), List.forall_mem_cons.mpr ⟨(k_wsJ0_charAt_5068e_wsJ0_charAt_5068e_r2 _ (List.mem_of_getElem? (i := 6) rfl)), List.forall_mem_cons.mpr ⟨(k_wsJ0_charAt_5068e_wsJ0_charAt_5068e_r1 _ (List.mem_of_getElem? (i := 13) rfl)), List.forall_mem_cons.mpr ⟨(k_wsJ0_charAt_5068e_wsJ0_charAt_5068e_r1 _ (List.mem_of_getElem? (i := 4) rfl)), List.forall_mem_cons.mpr ⟨(k_wsJ0_charAt_5068e_wsJ0_charAt_5068e_r1 _ (List.mem_of_getElem? (i := 14) rfl)), List.forall_mem_cons.mpr ⟨(k_wsJ0_charAt_5068e_wsJ0_charAt_5068e_r1 _ (List.mem_of_getElem? (i := 15) rfl)), List.forall_mem_cons.mpr ⟨(k_wsJ0_charAt_5068e_wsJ0_charAt_5068e_r1 _ (List.mem_of_getElem? (i := 16) rfl)), List.forall_mem_cons.mpr ⟨(k_wsJ0_charAt_5068e_wsJ0_charAt_5068e_r1 _ (List.mem_of_getElem? (i := 17) rfl)), List.forall_mem_cons.mpr ⟨(k_wsJ0_charAt_5068e_wsJ0_charAt_5068e_r1 _ (List.mem_of_getElem? (i := 18) rfl)), List.forall_mem_cons.mpr ⟨(k_wsJ0_charAt_5068e_wsJ0_charAt_5068e_r1 _ (List.mem_of_getElem? (i := 19) rfl)), List.forall_mem_cons.mpr ⟨(k_wsJ0_charAt_5068e_wsJ0_charAt_5068e_r2 _ (List.mem_of_getElem? (i := 7) rfl)), List.forall_mem_cons.mpr ⟨(k_wsJ0_charAt_5068e_wsJ0_charAt_5068e_r2 _ (List.mem_of_getElem? (i := 8) rfl)), List.forall_mem_cons.mpr ⟨(k_wsJ0_charAt_5068e_wsJ0_charAt_5068e_r2 _ (List.mem_of_getElem? (i := 9) rfl)), List.forall_mem_cons.mpr ⟨(k_wsJ0_charAt_5068e_wsJ0_charAt_5068e_r2 _ (List.mem_of_getElem? (i := 10) rfl)), List.forall_mem_cons.mpr ⟨(k_wsJ0_charAt_5068e_wsJ0_charAt_5068e_r2 _ (List.mem_of_getElem? (i := 11) rfl)), List.forall_mem_cons.mpr ⟨(k_wsJ0_charAt_5068e_wsJ0_charAt_5068e_r2 _ (List.mem_of_getElem? (i := 12) rfl)), fun _ h => absurd h List.not_mem_nil⟩⟩⟩⟩⟩⟩⟩⟩⟩⟩⟩⟩⟩⟩⟩⟩⟩⟩⟩⟩⟩⟩) w h)) gw_wsJ2_charAt_3b067
theorem gJ0_charAt_5068e_J2_charAt_3b067 : GoodIn wsJ0_charAt_5068e (va_wsS RJ0 498 yJ2_charAt_3b067 wsJ2_charAt_3b067) := goodIn_app (goodIn_sub (List.forall_mem_cons.mpr ⟨(k_wsJ0_charAt_5068e_wsJ0_charAt_5068e_r1 _ (List.mem_of_getElem? (i := 20) rfl)), List.forall_mem_cons.mpr ⟨(k_wsJ0_charAt_5068e_wsJ0_charAt_5068e_r1 _ (List.mem_of_getElem? (i := 21) rfl)), List.forall_mem_cons.mpr ⟨(k_wsJ0_charAt_5068e_wsJ0_charAt_5068e_r1 _ (List.mem_of_getElem? (i := 22) rfl)), fun _ h => absurd h List.not_mem_nil⟩⟩⟩) (by decide +kernel)) ggJ0_charAt_5068e_J2_charAt_3b067
theorem dJ0_charAt_5068e_0 : decode cJ0_charAt_5068e 0 = .ok (.aload_n 0, 1) := by decide +kernel
theorem dJ0_charAt_5068e_1 : decode cJ0_charAt_5068e 1 = .ok (.invokevirtual 492, 3) := by decide +kernel
theorem dJ0_charAt_5068e_4 : decode cJ0_charAt_5068e 4 = .ok (.ifCond .eq 12, 3) := by decide +kernel
theorem dJ0_charAt_5068e_7 : decode cJ0_charAt_5068e 7 = .ok (.aload_n 0, 1) := by decide +kernel
theorem dJ0_charAt_5068e_8 : decode cJ0_charAt_5068e 8 = .ok (.getfield 9, 3) := by decide +kernel
theorem dJ0_charAt_5068e_11 : decode cJ0_charAt_5068e 11 = .ok (.iload_n 1, 1) := by decide +kernel
theorem dJ0_charAt_5068e_12 : decode cJ0_charAt_5068e 12 = .ok (.invokestatic 495, 3) := by decide +kernel
theorem dJ0_charAt_5068e_15 : decode cJ0_charAt_5068e 15 = .ok (.ireturn, 1) := by decide +kernel
theorem dJ0_charAt_5068e_16 : decode cJ0_charAt_5068e 16 = .ok (.aload_n 0, 1) := by decide +kernel
theorem dJ0_charAt_5068e_17 : decode cJ0_charAt_5068e 17 = .ok (.getfield 9, 3) := by decide +kernel
theorem dJ0_charAt_5068e_20 : decode cJ0_charAt_5068e 20 = .ok (.iload_n 1, 1) := by decide +kernel
theorem dJ0_charAt_5068e_21 : decode cJ0_charAt_5068e 21 = .ok (.invokestatic 498, 3) := by decide +kernel
theorem dJ0_charAt_5068e_24 : decode cJ0_charAt_5068e 24 = .ok (.ireturn, 1) := by decide +kernel
theorem dJ0_coder_7d493_0 : decode cJ0_coder_7d493 0 = .ok (.getstatic 38, 3) := by decide +kernel
theorem dJ0_coder_7d493_3 : decode cJ0_coder_7d493 3 = .ok (.ifCond .eq 10, 3) := by decide +kernel
theorem dJ0_coder_7d493_6 : decode cJ0_coder_7d493 6 = .ok (.aload_n 0, 1) := by decide +kernel
theorem dJ0_coder_7d493_7 : decode cJ0_coder_7d493 7 = .ok (.getfield 15, 3) := by decide +kernel
theorem dJ0_coder_7d493_10 : decode cJ0_coder_7d493 10 = .ok (.goto 4, 3) := by decide +kernel
theorem dJ0_coder_7d493_13 : decode cJ0_coder_7d493 13 = .ok (.iconst 1, 1) := by decide +kernel
theorem dJ0_coder_7d493_14 : decode cJ0_coder_7d493 14 = .ok (.ireturn, 1) := by decide +kernel
theorem dJ0_isLatin1_aae02_0 : decode cJ0_isLatin1_aae02 0 = .ok (.getstatic 38, 3) := by decide +kernel
theorem dJ0_isLatin1_aae02_3 : decode cJ0_isLatin1_aae02 3 = .ok (.ifCond .eq 14, 3) := by decide +kernel
theorem dJ0_isLatin1_aae02_6 : decode cJ0_isLatin1_aae02 6 = .ok (.aload_n 0, 1) := by decide +kernel
theorem dJ0_isLatin1_aae02_7 : decode cJ0_isLatin1_aae02 7 = .ok (.getfield 15, 3) := by decide +kernel
theorem dJ0_isLatin1_aae02_10 : decode cJ0_isLatin1_aae02 10 = .ok (.ifCond .ne 7, 3) := by decide +kernel
theorem dJ0_isLatin1_aae02_13 : decode cJ0_isLatin1_aae02 13 = .ok (.iconst 1, 1) := by decide +kernel
theorem dJ0_isLatin1_aae02_14 : decode cJ0_isLatin1_aae02 14 = .ok (.goto 4, 3) := by decide +kernel
theorem dJ0_isLatin1_aae02_17 : decode cJ0_isLatin1_aae02 17 = .ok (.iconst 0, 1) := by decide +kernel
theorem dJ0_isLatin1_aae02_18 : decode cJ0_isLatin1_aae02 18 = .ok (.ireturn, 1) := by decide +kernel
theorem ggJ0_checkIndex_df160_J3_checkIndex_8e157 : GoodIn wsJ0_checkIndex_df160 wsJ3_checkIndex_8e157 := goodIn_sub (fun w h => (List.mem_cons.mp h).elim (fun e => ft_me e (List.mem_cons_of_mem _ (List.mem_of_getElem? (i := 4) rfl))) (fun h => absurd h List.not_mem_nil)) gw_wsJ3_checkIndex_8e157
theorem gJ0_checkIndex_df160_J3_checkIndex_8e157 : GoodIn wsJ0_checkIndex_df160 (va_wsS RJ0 1059 yJ3_checkIndex_8e157 wsJ3_checkIndex_8e157) := goodIn_app (goodIn_sub (List.forall_mem_cons.mpr ⟨(List.mem_cons_of_mem _ (List.mem_of_getElem? (i := 1) rfl)), List.forall_mem_cons.mpr ⟨(List.mem_cons_of_mem _ (List.mem_of_getElem? (i := 2) rfl)), List.forall_mem_cons.mpr ⟨(List.mem_cons_of_mem _ (List.mem_of_getElem? (i := 3) rfl)), fun _ h => absurd h List.not_mem_nil⟩⟩⟩) (by decide +kernel)) ggJ0_checkIndex_df160_J3_checkIndex_8e157
theorem dJ0_checkIndex_df160_0 : decode cJ0_checkIndex_df160 0 = .ok (.iload_n 0, 1) := by decide +kernel
theorem dJ0_checkIndex_df160_1 : decode cJ0_checkIndex_df160 1 = .ok (.iload_n 1, 1) := by decide +kernel
theorem dJ0_checkIndex_df160_2 : decode cJ0_checkIndex_df160 2 = .ok (.getstatic 1053, 3) := by decide +kernel
theorem dJ0_checkIndex_df160_5 : decode cJ0_checkIndex_df160 5 = .ok (.invokestatic 1059, 3) := by decide +kernel
theorem dJ0_checkIndex_df160_8 : decode cJ0_checkIndex_df160 8 = .ok (.pop, 1) := by decide +kernel
theorem dJ0_checkIndex_df160_9 : decode cJ0_checkIndex_df160 9 = .ok (.return_, 1) := by decide +kernel
theorem ggJ1_charAt_3b067_J0_checkIndex_df160 : GoodIn wsJ1_charAt_3b067 wsJ0_checkIndex_df160 := goodIn_sub (fun w h => (List.mem_cons.mp h).elim (fun e => ft_me e (List.mem_cons_of_mem _ (List.mem_of_getElem? (i := 3) rfl))) (fun h => (List.forall_mem_cons.mpr ⟨(List.mem_cons_of_mem _ (List.mem_of_getElem? (i := 4) rfl)), List.forall_mem_cons.mpr ⟨(List.mem_cons_of_mem _ (List.mem_of_getElem? (i := 5) rfl)), List.forall_mem_cons.mpr ⟨(List.mem_cons_of_mem _ (List.mem_of_getElem? (i := 6) rfl)), List.forall_mem_cons.mpr ⟨(List.mem_cons_of_mem _ (List.mem_of_getElem? (i := 7) rfl)), List.forall_mem_cons.mpr ⟨(List.mem_cons_of_mem _ (List.mem_of_getElem? (i := 8) rfl)), fun _ h => absurd h List.not_mem_nil⟩⟩⟩⟩⟩) w h)) gw_wsJ0_checkIndex_df160
theorem gJ1_charAt_3b067_J0_checkIndex_df160 : GoodIn wsJ1_charAt_3b067 (va_wsS RJ1 9 yJ0_checkIndex_df160 wsJ0_checkIndex_df160) := goodIn_app (goodIn_sub (List.forall_mem_cons.mpr ⟨(List.mem_cons_of_mem _ (List.mem_of_getElem? (i := 0) rfl)), List.forall_mem_cons.mpr ⟨(List.mem_cons_of_mem _ (List.mem_of_getElem? (i := 1) rfl)), List.forall_mem_cons.mpr ⟨(List.mem_cons_of_mem _ (List.mem_of_getElem? (i := 2) rfl)), fun _ h => absurd h List.not_mem_nil⟩⟩⟩) (by decide +kernel)) ggJ1_charAt_3b067_J0_checkIndex_df160
theorem dJ1_charAt_3b067_0 : decode cJ1_charAt_3b067 0 = .ok (.iload_n 1, 1) := by decide +kernel
theorem dJ1_charAt_3b067_1 : decode cJ1_charAt_3b067 1 = .ok (.aload_n 0, 1) := by decide +kernel
theorem dJ1_charAt_3b067_2 : decode cJ1_charAt_3b067 2 = .ok (.arraylength, 1) := by decide +kernel
theorem dJ1_charAt_3b067_3 : decode cJ1_charAt_3b067 3 = .ok (.invokestatic 9, 3) := by decide +kernel
theorem dJ1_charAt_3b067_6 : decode cJ1_charAt_3b067 6 = .ok (.aload_n 0, 1) := by decide +kernel
theorem dJ1_charAt_3b067_7 : decode cJ1_charAt_3b067 7 = .ok (.iload_n 1, 1) := by decide +kernel
theorem dJ1_charAt_3b067_8 : decode cJ1_charAt_3b067 8 = .ok (.baload, 1) := by decide +kernel
theorem dJ1_charAt_3b067_9 : decode cJ1_charAt_3b067 9 = .ok (.sipush 255, 3) := by decide +kernel
theorem dJ1_charAt_3b067_12 : decode cJ1_charAt_3b067 12 = .ok (.iand, 1) := by decide +kernel
theorem dJ1_charAt_3b067_13 : decode cJ1_charAt_3b067 13 = .ok (.i2c, 1) := by decide +kernel
theorem dJ1_charAt_3b067_14 : decode cJ1_charAt_3b067 14 = .ok (.ireturn, 1) := by decide +kernel
theorem ggJ2_getChar_3b067_J2_length_9d52b : GoodIn wsJ2_getChar_3b067 wsJ2_length_9d52b := goodIn_sub (fun w h => (List.mem_cons.mp h).elim (fun e => ft_me e (List.mem_cons_of_mem _ (List.mem_of_getElem? (i := 6) rfl))) (fun h => absurd h List.not_mem_nil)) gw_wsJ2_length_9d52b
theorem gJ2_getChar_3b067_J2_length_9d52b : GoodIn wsJ2_getChar_3b067 (va_wsS RJ2 48 yJ2_length_9d52b wsJ2_length_9d52b) := goodIn_app (goodIn_sub (List.forall_mem_cons.mpr ⟨(List.mem_cons_of_mem _ (List.mem_of_getElem? (i := 3) rfl)), List.forall_mem_cons.mpr ⟨(List.mem_cons_of_mem _ (List.mem_of_getElem? (i := 4) rfl)), List.forall_mem_cons.mpr ⟨(List.mem_cons_of_mem _ (List.mem_of_getElem? (i := 5) rfl)), fun _ h => absurd h List.not_mem_nil⟩⟩⟩) (by decide +kernel)) ggJ2_getChar_3b067_J2_length_9d52b
theorem dJ2_getChar_3b067_0 : decode cJ2_getChar_3b067 0 = .ok (.getstatic 44, 3) := by decide +kernel
theorem dJ2_getChar_3b067_3 : decode cJ2_getChar_3b067 3 = .ok (.ifCond .ne 25, 3) := by decide +kernel
theorem dJ2_getChar_3b067_6 : decode cJ2_getChar_3b067 6 = .ok (.iload_n 1, 1) := by decide +kernel
theorem dJ2_getChar_3b067_7 : decode cJ2_getChar_3b067 7 = .ok (.ifCond .lt 11, 3) := by decide +kernel
theorem dJ2_getChar_3b067_10 : decode cJ2_getChar_3b067 10 = .ok (.iload_n 1, 1) := by decide +kernel
theorem dJ2_getChar_3b067_11 : decode cJ2_getChar_3b067 11 = .ok (.aload_n 0, 1) := by decide +kernel
theorem dJ2_getChar_3b067_12 : decode cJ2_getChar_3b067 12 = .ok (.invokestatic 48, 3) := by decide +kernel
theorem dJ2_getChar_3b067_15 : decode cJ2_getChar_3b067 15 = .ok (.if_icmp .lt 13, 3) := by decide +kernel
theorem dJ2_getChar_3b067_18 : decode cJ2_getChar_3b067 18 = .ok (.new 52, 3) := by decide +kernel
theorem dJ2_getChar_3b067_21 : decode cJ2_getChar_3b067 21 = .ok (.dup, 1) := by decide +kernel
theorem dJ2_getChar_3b067_22 : decode cJ2_getChar_3b067 22 = .ok (.ldc 54, 2) := by decide +kernel
theorem dJ2_getChar_3b067_24 : decode cJ2_getChar_3b067 24 = .ok (.invokespecial 56, 3) := by decide +kernel
theorem dJ2_getChar_3b067_27 : decode cJ2_getChar_3b067 27 = .ok (.athrow, 1) := by decide +kernel
theorem dJ2_getChar_3b067_28 : decode cJ2_getChar_3b067 28 = .ok (.iload_n 1, 1) := by decide +kernel
theorem dJ2_getChar_3b067_29 : decode cJ2_getChar_3b067 29 = .ok (.iconst 1, 1) := by decide +kernel
theorem dJ2_getChar_3b067_30 : decode cJ2_getChar_3b067 30 = .ok (.ishl, 1) := by decide +kernel
theorem dJ2_getChar_3b067_31 : decode cJ2_getChar_3b067 31 = .ok (.istore_n 1, 1) := by decide +kernel
theorem dJ2_getChar_3b067_32 : decode cJ2_getChar_3b067 32 = .ok (.aload_n 0, 1) := by decide +kernel
theorem dJ2_getChar_3b067_33 : decode cJ2_getChar_3b067 33 = .ok (.iload_n 1, 1) := by decide +kernel
theorem dJ2_getChar_3b067_34 : decode cJ2_getChar_3b067 34 = .ok (.iinc 1 1, 3) := by decide +kernel
theorem dJ2_getChar_3b067_37 : decode cJ2_getChar_3b067 37 = .ok (.baload, 1) := by decide +kernel
theorem dJ2_getChar_3b067_38 : decode cJ2_getChar_3b067 38 = .ok (.sipush 255, 3) := by decide +kernel
theorem dJ2_getChar_3b067_41 : decode cJ2_getChar_3b067 41 = .ok (.iand, 1) := by decide +kernel
theorem dJ2_getChar_3b067_42 : decode cJ2_getChar_3b067 42 = .ok (.getstatic 59, 3) := by decide +kernel
theorem dJ2_getChar_3b067_45 : decode cJ2_getChar_3b067 45 = .ok (.ishl, 1) := by decide +kernel
theorem dJ2_getChar_3b067_46 : decode cJ2_getChar_3b067 46 = .ok (.aload_n 0, 1) := by decide +kernel
theorem dJ2_getChar_3b067_47 : decode cJ2_getChar_3b067 47 = .ok (.iload_n 1, 1) := by decide +kernel
theorem dJ2_getChar_3b067_48 : decode cJ2_getChar_3b067 48 = .ok (.baload, 1) := by decide +kernel
theorem dJ2_getChar_3b067_49 : decode cJ2_getChar_3b067 49 = .ok (.sipush 255, 3) := by decide +kernel
theorem dJ2_getChar_3b067_52 : decode cJ2_getChar_3b067 52 = .ok (.iand, 1) := by decide +kernel
theorem dJ2_getChar_3b067_53 : decode cJ2_getChar_3b067 53 = .ok (.getstatic 63, 3) := by decide +kernel
theorem dJ2_getChar_3b067_56 : decode cJ2_getChar_3b067 56 = .ok (.ishl, 1) := by decide +kernel
theorem dJ2_getChar_3b067_57 : decode cJ2_getChar_3b067 57 = .ok (.ior, 1) := by decide +kernel
theorem dJ2_getChar_3b067_58 : decode cJ2_getChar_3b067 58 = .ok (.i2c, 1) := by decide +kernel
theorem dJ2_getChar_3b067_59 : decode cJ2_getChar_3b067 59 = .ok (.ireturn, 1) := by decide +kernel
theorem dJ2_length_9d52b_0 : decode cJ2_length_9d52b 0 = .ok (.aload_n 0, 1) := by decide +kernel
theorem dJ2_length_9d52b_1 : decode cJ2_length_9d52b 1 = .ok (.arraylength, 1) := by decide +kernel
theorem dJ2_length_9d52b_2 : decode cJ2_length_9d52b 2 = .ok (.iconst 1, 1) := by decide +kernel
theorem dJ2_length_9d52b_3 : decode cJ2_length_9d52b 3 = .ok (.ishr, 1) := by decide +kernel
theorem dJ2_length_9d52b_4 : decode cJ2_length_9d52b 4 = .ok (.ireturn, 1) := by decide +kernel
theorem ggJ2_charAt_3b067_J2_checkIndex_2214a : GoodIn wsJ2_charAt_3b067 wsJ2_checkIndex_2214a := goodIn_sub (fun w h => (List.mem_cons.mp h).elim (fun e => ft_me e (List.mem_cons_of_mem _ (List.mem_of_getElem? (i := 3) rfl))) (fun h => (List.forall_mem_cons.mpr ⟨(List.mem_cons_of_mem _ (List.mem_of_getElem? (i := 4) rfl)), List.forall_mem_cons.mpr ⟨(List.mem_cons_of_mem _ (List.mem_of_getElem? (i := 5) rfl)), List.forall_mem_cons.mpr ⟨(List.mem_cons_of_mem _ (List.mem_of_getElem? (i := 2) rfl)), List.forall_mem_cons.mpr ⟨(List.mem_cons_of_mem _ (List.mem_of_getElem? (i := 6) rfl)), List.forall_mem_cons.mpr ⟨(List.mem_cons_of_mem _ (List.mem_of_getElem? (i := 7) rfl)), List.forall_mem_cons.mpr ⟨(List.mem_cons_of_mem _ (List.mem_of_getElem? (i := 8) rfl)), List.forall_mem_cons.mpr ⟨(List.mem_cons_of_mem _ (List.mem_of_getElem? (i := 9) rfl)), List.forall_mem_cons.mpr ⟨(List.mem_cons_of_mem _ (List.mem_of_getElem? (i := 10) rfl)), List.forall_mem_cons.mpr ⟨(List.mem_cons_of_mem _ (List.mem_of_getElem? (i := 11) rfl)), List.forall_mem_cons.mpr ⟨(List.mem_cons_of_mem _ (List.mem_of_getElem? (i := 12) rfl)), List.forall_mem_cons.mpr ⟨(List.mem_cons_of_mem _ (List.mem_of_getElem? (i := 13) rfl)), List.forall_mem_cons.mpr ⟨(List.mem_cons_of_mem _ (List.mem_of_getElem? (i := 14) rfl)), List.forall_mem_cons.mpr ⟨(List.mem_cons_of_mem _ (List.mem_of_getElem? (i := 15) rfl)), fun _ h => absurd h List.not_mem_nil⟩⟩⟩⟩⟩⟩⟩⟩⟩⟩⟩⟩⟩) w h)) gw_wsJ2_checkIndex_2214a
theorem gJ2_charAt_3b067_J2_checkIndex_2214a : GoodIn wsJ2_charAt_3b067 (va_wsS RJ2 67 yJ2_checkIndex_2214a wsJ2_checkIndex_2214a) := goodIn_app (goodIn_sub (List.forall_mem_cons.mpr ⟨(List.mem_cons_of_mem _ (List.mem_of_getElem? (i := 0) rfl)), List.forall_mem_cons.mpr ⟨(List.mem_cons_of_mem _ (List.mem_of_getElem? (i := 1) rfl)), List.forall_mem_cons.mpr ⟨(List.mem_cons_of_mem _ (List.mem_of_getElem? (i := 2) rfl)), fun _ h => absurd h List.not_mem_nil⟩⟩⟩) (by decide +kernel)) ggJ2_charAt_3b067_J2_checkIndex_2214a
theorem ggJ2_charAt_3b067_J2_getChar_3b067 : GoodIn wsJ2_charAt_3b067 wsJ2_getChar_3b067 := goodIn_sub (fun w h => (List.mem_cons.mp h).elim (fun e => ft_me e (List.mem_cons_of_mem _ (List.mem_of_getElem? (i := 18) rfl))) (fun h => (List.forall_mem_cons.mpr ⟨(List.mem_cons_of_mem _ (List.mem_of_getElem? (i := 19) rfl)), List.forall_mem_cons.mpr ⟨(List.mem_cons_of_mem _ (List.mem_of_getElem? (i := 20) rfl)), List.forall_mem_cons.mpr ⟨(List.mem_cons_of_mem _ (List.mem_of_getElem? (i := 21) rfl)), List.forall_mem_cons.mpr ⟨(List.mem_cons_of_mem _ (List.mem_of_getElem? (i := 4) rfl)), List.forall_mem_cons.mpr ⟨(List.mem_cons_of_mem _ (List.mem_of_getElem? (i := 5) rfl)), List.forall_mem_cons.mpr ⟨(List.mem_cons_of_mem _ (List.mem_of_getElem? (i := 2) rfl)), List.forall_mem_cons.mpr ⟨(List.mem_cons_of_mem _ (List.mem_of_getElem? (i := 6) rfl)), fun _ h => absurd h List.not_mem_nil⟩⟩⟩⟩⟩⟩⟩) w h)) gw_wsJ2_getChar_3b067
theorem gJ2_charAt_3b067_J2_getChar_3b067 : GoodIn wsJ2_charAt_3b067 (va_wsS RJ2 71 yJ2_getChar_3b067 wsJ2_getChar_3b067) := goodIn_app (goodIn_sub (List.forall_mem_cons.mpr ⟨(List.mem_cons_of_mem _ (List.mem_of_getElem? (i := 16) rfl)), List.forall_mem_cons.mpr ⟨(List.mem_cons_of_mem _ (List.mem_of_getElem? (i := 17) rfl)), List.forall_mem_cons.mpr ⟨(List.mem_cons_of_mem _ (List.mem_of_getElem? (i := 2) rfl)), fun _ h => absurd h List.not_mem_nil⟩⟩⟩) (by decide +kernel)) ggJ2_charAt_3b067_J2_getChar_3b067
theorem dJ2_charAt_3b067_0 : decode cJ2_charAt_3b067 0 = .ok (.iload_n 1, 1) := by decide +kernel
theorem dJ2_charAt_3b067_1 : decode cJ2_charAt_3b067 1 = .ok (.aload_n 0, 1) := by decide +kernel
theorem dJ2_charAt_3b067_2 : decode cJ2_charAt_3b067 2 = .ok (.invokestatic 67, 3) := by decide +kernel
theorem dJ2_charAt_3b067_5 : decode cJ2_charAt_3b067 5 = .ok (.aload_n 0, 1) := by decide +kernel
theorem dJ2_charAt_3b067_6 : decode cJ2_charAt_3b067 6 = .ok (.iload_n 1, 1) := by decide +kernel
theorem dJ2_charAt_3b067_7 : decode cJ2_charAt_3b067 7 = .ok (.invokestatic 71, 3) := by decide +kernel
theorem dJ2_charAt_3b067_10 : decode cJ2_charAt_3b067 10 = .ok (.ireturn, 1) := by decide +kernel
theorem ggJ2_checkIndex_2214a_J2_length_9d52b : GoodIn wsJ2_checkIndex_2214a wsJ2_length_9d52b := goodIn_sub (fun w h => (List.mem_cons.mp h).elim (fun e => ft_me e (List.mem_cons_of_mem _ (List.mem_of_getElem? (i := 3) rfl))) (fun h => absurd h List.not_mem_nil)) gw_wsJ2_length_9d52b
theorem gJ2_checkIndex_2214a_J2_length_9d52b : GoodIn wsJ2_checkIndex_2214a (va_wsS RJ2 48 yJ2_length_9d52b wsJ2_length_9d52b) := goodIn_app (goodIn_sub (List.forall_mem_cons.mpr ⟨(List.mem_cons_of_mem _ (List.mem_of_getElem? (i := 0) rfl)), List.forall_mem_cons.mpr ⟨(List.mem_cons_of_mem _ (List.mem_of_getElem? (i := 1) rfl)), List.forall_mem_cons.mpr ⟨(List.mem_cons_of_mem _ (List.mem_of_getElem? (i := 2) rfl)), fun _ h => absurd h List.not_mem_nil⟩⟩⟩) (by decide +kernel)) ggJ2_checkIndex_2214a_J2_length_9d52b
theorem ggJ2_checkIndex_2214a_J0_checkIndex_df160 : GoodIn wsJ2_checkIndex_2214a wsJ0_checkIndex_df160 := goodIn_sub (fun w h => (List.mem_cons.mp h).elim (fun e => ft_me e (List.mem_cons_of_mem _ (List.mem_of_getElem? (i := 7) rfl))) (fun h => (List.forall_mem_cons.mpr ⟨(List.mem_cons_of_mem _ (List.mem_of_getElem? (i := 8) rfl)), List.forall_mem_cons.mpr ⟨(List.mem_cons_of_mem _ (List.mem_of_getElem? (i := 9) rfl)), List.forall_mem_cons.mpr ⟨(List.mem_cons_of_mem _ (List.mem_of_getElem? (i := 10) rfl)), List.forall_mem_cons.mpr ⟨(List.mem_cons_of_mem _ (List.mem_of_getElem? (i := 11) rfl)), List.forall_mem_cons.mpr ⟨(List.mem_cons_of_mem _ (List.mem_of_getElem? (i := 12) rfl)), fun _ h => absurd h List.not_mem_nil⟩⟩⟩⟩⟩) w h)) gw_wsJ0_checkIndex_df160
theorem gJ2_checkIndex_2214a_J0_checkIndex_df160 : GoodIn wsJ2_checkIndex_2214a (va_wsS RJ2 414 yJ0_checkIndex_df160 wsJ0_checkIndex_df160) := goodIn_app (goodIn_sub (List.forall_mem_cons.mpr ⟨(List.mem_cons_of_mem _ (List.mem_of_getElem? (i := 4) rfl)), List.forall_mem_cons.mpr ⟨(List.mem_cons_of_mem _ (List.mem_of_getElem? (i := 5) rfl)), List.forall_mem_cons.mpr ⟨(List.mem_cons_of_mem _ (List.mem_of_getElem? (i := 6) rfl)), fun _ h => absurd h List.not_mem_nil⟩⟩⟩) (by decide +kernel)) ggJ2_checkIndex_2214a_J0_checkIndex_df160
theorem dJ2_checkIndex_2214a_0 : decode cJ2_checkIndex_2214a 0 = .ok (.iload_n 0, 1) := by decide +kernel
theorem dJ2_checkIndex_2214a_1 : decode cJ2_checkIndex_2214a 1 = .ok (.aload_n 1, 1) := by decide +kernel
theorem dJ2_checkIndex_2214a_2 : decode cJ2_checkIndex_2214a 2 = .ok (.invokestatic 48, 3) := by decide +kernel
theorem dJ2_checkIndex_2214a_5 : decode cJ2_checkIndex_2214a 5 = .ok (.invokestatic 414, 3) := by decide +kernel
theorem dJ2_checkIndex_2214a_8 : decode cJ2_checkIndex_2214a 8 = .ok (.return_, 1) := by decide +kernel
theorem dJ3_checkIndex_8e157_0 : decode cJ3_checkIndex_8e157 0 = .ok (.iload_n 0, 1) := by decide +kernel
theorem dJ3_checkIndex_8e157_1 : decode cJ3_checkIndex_8e157 1 = .ok (.ifCond .lt 8, 3) := by decide +kernel
theorem dJ3_checkIndex_8e157_4 : decode cJ3_checkIndex_8e157 4 = .ok (.iload_n 0, 1) := by decide +kernel
theorem dJ3_checkIndex_8e157_5 : decode cJ3_checkIndex_8e157 5 = .ok (.iload_n 1, 1) := by decide +kernel
theorem dJ3_checkIndex_8e157_6 : decode cJ3_checkIndex_8e157 6 = .ok (.if_icmp .lt 10, 3) := by decide +kernel
theorem dJ3_checkIndex_8e157_9 : decode cJ3_checkIndex_8e157 9 = .ok (.aload_n 2, 1) := by decide +kernel
theorem dJ3_checkIndex_8e157_10 : decode cJ3_checkIndex_8e157 10 = .ok (.iload_n 0, 1) := by decide +kernel
theorem dJ3_checkIndex_8e157_11 : decode cJ3_checkIndex_8e157 11 = .ok (.iload_n 1, 1) := by decide +kernel
theorem dJ3_checkIndex_8e157_12 : decode cJ3_checkIndex_8e157 12 = .ok (.invokestatic 95, 3) := by decide +kernel
theorem dJ3_checkIndex_8e157_15 : decode cJ3_checkIndex_8e157 15 = .ok (.athrow, 1) := by decide +kernel
theorem dJ3_checkIndex_8e157_16 : decode cJ3_checkIndex_8e157 16 = .ok (.iload_n 0, 1) := by decide +kernel
theorem dJ3_checkIndex_8e157_17 : decode cJ3_checkIndex_8e157 17 = .ok (.ireturn, 1) := by decide +kernel
end
section
/-! own rows: the facts that every contract carries, calls in one row -/
def ftNest : List Cond := [.methodLinkNest RX10 25 yX5_init RX10, .methodLinkNest RX10 32 yX3_init RX10, .methodLinkNest RX10 39 yX0_init RX10, .methodLinkNest RX10 46 yX6_init RX10, .methodLinkNest RX10 53 yX1_init RX10, .methodLinkNest RX10 60 yX9_init RX10, .methodLinkNest RX10 67 yX7_init RX10, .methodLinkNest RX5 32 yX10_put RX10, .methodLinkNest RX5 93 yX10_at RX10, .methodLinkNest RX5 115 yX10_isWithin RX10, .methodLinkNest RX4 46 yX10_isWithin RX10, .methodLinkNest RX4 50 yX10_at RX10, .methodLinkNest RX4 54 yX10_insertInto RX10, .methodLinkNest RX4 58 yX10_removeFrom RX10, .methodLinkNest RX1 38 yX10_at RX10, .methodLinkNest RX1 67 yX10_put RX10, .methodLinkNest RX1 75 yX10_insertInto RX10, .methodLinkNest RX9 33 yX10_at RX10, .methodLinkNest RX4 70 yX10_quotient RX10, .methodLinkNest RX9 53 yX10_put RX10, .methodLinkNest RX6 9 yX10_at RX10, .methodLinkNest RX6 23 yX10_quotient RX10, .methodLinkNest RX7 40 yX10_at RX10, .methodLinkNest RX7 55 yX10_put RX10, .methodLinkNest RX7 81 yX10_isWithin RX10, .methodLinkNest RX3 30 yX10_put RX10, .methodLinkNest RX3 35 yX10_at RX10, .methodLinkNest RX0 45 yX10_at RX10]
def ftK (D : va_G) (cI cS : ClassId) (U : State) : Prop := va_K D vwCl [(cI, .int), (cS, .object "FiberTrace$State")] U ∧ ∀ w ∈ ftNest, va_Nw w U
theorem ftNest_on : ∀ w ∈ ftNest, w.onTables = true := by
  intro w hw
  simp only [ftNest, List.mem_cons, List.not_mem_nil, or_false] at hw
  rcases hw with rfl | rfl | rfl | rfl | rfl | rfl | rfl | rfl | rfl | rfl | rfl | rfl | rfl | rfl | rfl | rfl | rfl | rfl | rfl | rfl | rfl | rfl | rfl | rfl | rfl | rfl | rfl | rfl <;> rfl
theorem ftNest_warm {s U : State} (hW : s.WarmedH U.vm) : ∀ w ∈ ftNest, va_Nw w s → va_Nw w U := by
  intro w hw h
  simp only [ftNest, List.mem_cons, List.not_mem_nil, or_false] at hw
  rcases hw with rfl | rfl | rfl | rfl | rfl | rfl | rfl | rfl | rfl | rfl | rfl | rfl | rfl | rfl | rfl | rfl | rfl | rfl | rfl | rfl | rfl | rfl | rfl | rfl | rfl | rfl | rfl | rfl <;> exact va_Nw.warmM hW h
theorem ftK.warm {D : va_G} {cI cS : ClassId} {s U : State} (hW : s.WarmedH U.vm) (h : ftK D cI cS s) : ftK D cI cS U := ⟨va_K.moved hW.alike h.1, fun w hw => ftNest_warm hW w hw (h.2 w hw)⟩
theorem ftK.call {D : va_G} {cI cS : ClassId} {U : State} {g : JFrame} {mk : MethodId} {a : Array Value} (h : ftK D cI cS U) : ftK D cI cS (U.calling g mk a) := ⟨va_K.moved (u := U) (U := U.calling g mk a) (Vm.Alike.refl U.vm) h.1, fun w hw => va_Nw.same (u := U) (U := U.calling g mk a) (ftNest_on w hw) rfl (h.2 w hw)⟩
/-- a contract's start: of one that writes nothing, of one that writes -/
abbrev ftRO (D : va_G) (cI cS : ClassId) (av : List Value) (ws : va_W) : Array Value → State → Prop := va_Pc av (fun U => va_P D vwCl ws U.heap ∧ ftK D cI cS U)
abbrev ftRW (D : va_G) (cI cS : ClassId) (av : List Value) (ws : va_W) (sz : Nat) : Array Value → State → Prop := va_Pc av (fun U => U.heap.size = sz ∧ va_P D vwCl ws U.heap ∧ ftK D cI cS U ∧ va_D (fun _ => True) ws)
/-- its end: the answer, the cells behind it -/
abbrev ftQi (D : va_G) (r : Int32) (ws ws' : va_W) (sz : Nat) : Array Value → State → Outcome → State → Prop := va_Qi (S := Unit) (fun x _ => x = r) (fun _ t => va_P D vwCl ws' t.heap ∧ va_D (va_A ws sz) ws') (va_A ws sz)
abbrev ftQv (D : va_G) (ws ws' : va_W) (sz : Nat) : Array Value → State → Outcome → State → Prop := va_Qv (S := Unit) (fun _ => True) (fun _ t => va_P D vwCl ws' t.heap ∧ va_D (va_A ws sz) ws') (va_A ws sz)
/-- the end of one that writes nothing and answers a cell -/
abbrev ftSr (r : Nat) : Array Value → State → Outcome → State → Prop := fun _ st oc t => oc = .returned (some (.ref r)) ∧ t.heap = st.heap
theorem ft_blindRO {D : va_G} {cI cS : ClassId} {av : List Value} {ws : va_W} : FrameBlind (ftRO D cI cS av ws) := fun a U g mk q => ⟨q.1, q.2.1, q.2.2.call⟩
theorem ft_blindRW {D : va_G} {cI cS : ClassId} {av : List Value} {ws : va_W} {sz : Nat} : FrameBlind (ftRW D cI cS av ws sz) := fun a U g mk q => ⟨q.1, q.2.1, q.2.2.1, q.2.2.2.1.call, q.2.2.2.2⟩
theorem ft_preRO {D : va_G} {cI cS : ClassId} {As : List Value} {ws wc : va_W} {s : State} {H : Heap} (hP : va_P D vwCl ws H) (hK : ftK D cI cS s) (is : List Nat) (hs : is.filterMap (fun i => ws[i]?) = wc) : PreS s H (ftRO D cI cS As wc) As :=
  ⟨ft_blindRO, fun U hU hW => ⟨rfl, by rw [hU]; exact hP.sub is hs, hK.warm hW⟩⟩
theorem ft_preROV {D : va_G} {cI cS : ClassId} {As : List Value} {ws wc : va_W} {s : State} {H : Heap} {a q0 ci : Nat} {q : vw_C} {fs : List Value} (hP : va_P D vwCl ws H) (hK : ftK D cI cS s) (is : List Nat) (hs : is.filterMap (fun i => ws[i]?) = wc) (hc : vwCl[ci]? = some q) (he : ws[q0]? = some (a, .inr (ci, fs))) : PreV s H q.1 a (ftRO D cI cS (.ref a :: As) wc) As :=
  ⟨ft_blindRO, va_recv hK.1 hP hc he, fun U hU hW => ⟨rfl, by rw [hU]; exact hP.sub is hs, hK.warm hW⟩⟩
theorem ft_preRW {D : va_G} {cI cS : ClassId} {As : List Value} {ws wc : va_W} {s : State} {H : Heap} {A : Nat → Prop} (hP : va_P D vwCl ws H) (hD : va_D A ws) (hK : ftK D cI cS s) (is : List Nat) (hs : is.filterMap (fun i => ws[i]?) = wc) (hn : va_nd is = true) (hm : is.map (fun i => ws[i]?) = wc.map some) : PreS s H (ftRW D cI cS As wc H.size) As :=
  ⟨ft_blindRW, fun U hU hW => ⟨rfl, by rw [hU], by rw [hU]; exact hP.sub is hs, hK.warm hW, (hD.sub is hn hm).weaken (fun _ _ _ _ => trivial)⟩⟩
theorem ft_preRWV {D : va_G} {cI cS : ClassId} {As : List Value} {ws wc : va_W} {s : State} {H : Heap} {A : Nat → Prop} {a q0 ci : Nat} {q : vw_C} {fs : List Value} (hP : va_P D vwCl ws H) (hD : va_D A ws) (hK : ftK D cI cS s) (is : List Nat) (hs : is.filterMap (fun i => ws[i]?) = wc) (hn : va_nd is = true) (hm : is.map (fun i => ws[i]?) = wc.map some) (hc : vwCl[ci]? = some q) (he : ws[q0]? = some (a, .inr (ci, fs))) : PreV s H q.1 a (ftRW D cI cS (.ref a :: As) wc H.size) As :=
  ⟨ft_blindRW, va_recv hK.1 hP hc he, fun U hU hW => ⟨rfl, by rw [hU], by rw [hU]; exact hP.sub is hs, hK.warm hW, (hD.sub is hn hm).weaken (fun _ _ _ _ => trivial)⟩⟩
section FTC
variable {p : Program} {l : Launch} {e : Env} {R : Room} {s : State} {m : MethodId} {args : Array Value} {below : List Frame} {meth : Method} {c : Code} {H : Heap} {locs : List Loc} {cells slots : Nat} {Q : State → Prop}
/-- a call that writes nothing, its answer known -/
theorem ft_csi {r : Int32} {a : Array Value} {st0 rest : List Value} {pc : Nat} {ls : Array Slot} (hr : va_Run p l e R s m args below meth c H locs cells slots 0 0 (F0 m pc ls st0) rest (vp_Si (fun x => x = r) a) (fun _ => False))
    (kk : W p l e R s m args below meth c H locs cells slots Q (F0 m (pc + 3) ls (.int r :: rest))) : W p l e R s m args below meth c H locs cells slots Q (F0 m pc ls st0) := by
  intro T hT X
  obtain ⟨v, st₀, t, T', L, h0, X', hL, e1, -, ⟨r, hv, rfl, hh⟩, st⟩ := hr T hT X
  cases hv
  obtain ⟨t2, a1, b1⟩ := kk T' (by rw [e1, hh, h0]) (Stand.forget X' (fun q h => (hL q h).elim))
  exact ⟨t2, st t2 a1, b1⟩
theorem ft_csr {r : Nat} {a : Array Value} {st0 rest : List Value} {pc : Nat} {ls : Array Slot} (hr : va_Run p l e R s m args below meth c H locs cells slots 0 0 (F0 m pc ls st0) rest (ftSr r a) (fun _ => False))
    (kk : W p l e R s m args below meth c H locs cells slots Q (F0 m (pc + 3) ls (.ref r :: rest))) : W p l e R s m args below meth c H locs cells slots Q (F0 m pc ls st0) := by
  intro T hT X
  obtain ⟨v, st₀, t, T', L, h0, X', hL, e1, -, ⟨hv, hh⟩, st⟩ := hr T hT X
  cases hv
  obtain ⟨t2, a1, b1⟩ := kk T' (by rw [e1, hh, h0]) (Stand.forget X' (fun q h => (hL q h).elim))
  exact ⟨t2, st t2 a1, b1⟩
theorem ft_topv {x y : Value} {rest : List Value} {pc : Nat} {ls : Array Slot} (h : x = y) (k : W p l e R s m args below meth c H locs cells slots Q (F0 m pc ls (y :: rest))) : W p l e R s m args below meth c H locs cells slots Q (F0 m pc ls (x :: rest)) := by rw [h]; exact k
/-- a call that writes the cells wc: behind it they are w1, in their old places -/
theorem ft_ci {D : va_G} {A : Nat → Prop} {H0 : Heap} {r : Int32} {a : Array Value} {st0 rest : List Value} {pc : Nat} {ls : Array Slot} {ws wc wr w1 ws1 : va_W} (hr : va_Run p l e R s m args below meth c H locs cells slots 0 0 (F0 m pc ls st0) rest (ftQi D r wc w1 H.size a) (va_A wc H.size))
    (hP : va_P D vwCl ws H) (hD : va_D A ws) (hS : va_S A H0 H locs) (hA : ∀ q, H0.size ≤ q → A q) (isC isR pm : List Nat) (hC : isC.map (fun i => ws[i]?) = wc.map some) (hR : isR.map (fun i => ws[i]?) = wr.map some) (hn : va_nd isR = true) (hdis : ∀ i ∈ isR, i ∉ isC) (hpn : va_nd pm = true) (hpm : pm.map (fun i => (wr ++ w1)[i]?) = ws1.map some) (hpf : pm.filterMap (fun i => (wr ++ w1)[i]?) = ws1)
    (kk : ∀ (H1 : Heap) (locs1 : List Loc), va_P D vwCl ws1 H1 → va_D A ws1 → va_S A H0 H1 locs1 → W p l e R s m args below meth c H1 locs1 cells slots Q (F0 m (pc + 3) ls (.int r :: rest))) : W p l e R s m args below meth c H locs cells slots Q (F0 m pc ls st0) := by
  have hFc := va_free (wc := wc) hD hS hA isC hC
  refine va_calli hr hS (fun q _ h => hFc q h) hFc (fun r2 u t H1 locs1 ht hvm hw hB hz1 hk1 hS1 => ?_)
  subst hw
  obtain ⟨hP1, hD1⟩ := hB
  rw [ht] at hP1
  obtain ⟨hP2, hD2⟩ := va_join (wr := wr) (w1 := w1) hP hD isC isR hC hR hn hdis hk1 hFc hP1 hD1
  exact kk H1 locs1 (hP2.sub pm hpf) (hD2.sub pm hpn hpm) hS1
theorem ft_cv {D : va_G} {A : Nat → Prop} {H0 : Heap} {a : Array Value} {st0 rest : List Value} {pc : Nat} {ls : Array Slot} {ws wc wr w1 ws1 : va_W} (hr : va_Run p l e R s m args below meth c H locs cells slots 0 0 (F0 m pc ls st0) rest (ftQv D wc w1 H.size a) (va_A wc H.size))
    (hP : va_P D vwCl ws H) (hD : va_D A ws) (hS : va_S A H0 H locs) (hA : ∀ q, H0.size ≤ q → A q) (isC isR pm : List Nat) (hC : isC.map (fun i => ws[i]?) = wc.map some) (hR : isR.map (fun i => ws[i]?) = wr.map some) (hn : va_nd isR = true) (hdis : ∀ i ∈ isR, i ∉ isC) (hpn : va_nd pm = true) (hpm : pm.map (fun i => (wr ++ w1)[i]?) = ws1.map some) (hpf : pm.filterMap (fun i => (wr ++ w1)[i]?) = ws1)
    (kk : ∀ (H1 : Heap) (locs1 : List Loc), va_P D vwCl ws1 H1 → va_D A ws1 → va_S A H0 H1 locs1 → W p l e R s m args below meth c H1 locs1 cells slots Q (F0 m (pc + 3) ls rest)) : W p l e R s m args below meth c H locs cells slots Q (F0 m pc ls st0) := by
  have hFc := va_free (wc := wc) hD hS hA isC hC
  refine va_callv hr hS (fun q _ h => hFc q h) hFc (fun u t H1 locs1 ht hvm hw hB hz1 hk1 hS1 => ?_)
  obtain ⟨hP1, hD1⟩ := hB
  rw [ht] at hP1
  obtain ⟨hP2, hD2⟩ := va_join (wr := wr) (w1 := w1) hP hD isC isR hC hR hn hdis hk1 hFc hP1 hD1
  exact kk H1 locs1 (hP2.sub pm hpf) (hD2.sub pm hpn hpm) hS1
end FTC
/-- a contract of a method whose class has rows of natives, but not this one (java.lang.Math.floorMod) -/
theorem ft_ofWF {l : Launch} {y : MethodName} {ws ws' : List Cond} {rm : Room} {Pc : Array Value → State → Prop} {Qc : Array Value → State → Outcome → State → Prop} {mc ms : Nat} {free : Addr → Prop} {cc : ByteArray} {maxL : Nat} {ret : Option FieldType}
    (hy : plainFor y = true) (hw : ws = Cond.code y cc maxL ret :: ws')
    (body : ∀ p e s m args below meth c s₁, BodyLoose p l y (headSpec ws rm) cc maxL ret e s m args below meth c s₁ → c.maxLocals = maxL → Pc args s →
      W p l e (headSpec ws rm).room s m args below meth c s.heap [] 0 0 (MQ below Qc args s mc ms free) (entryFrame m args maxL)) : Met l y ws rm Pc Qc mc ms free := by
  refine MetFree.of_bodySF (code := cc) (maxLocals := maxL) (ret := ret) hy ?_ ?_
  · intro args s m h hn
    obtain ⟨meth, c, h1, h2, h3, h4, h5, h6, -, -⟩ := Cond.code_spec hn (atoms_spec (ws := ws) h _ (by rw [hw]; exact List.mem_cons_self))
    exact ⟨meth, c, h1, h2, h3, h4, h5, h6⟩
  · intro p e s m args below meth c s₁ B hml hP _
    have hh0 : s₁.heap = s.heap := by rw [B.state]; rfl
    obtain ⟨t, a1, o, b1, b2, b3⟩ := body p e s m args below meth c s₁ B hml hP s₁ hh0 (Stand.of_body B)
    exact ⟨t, o, a1, b1, b2, ⟨b3.1, b3.2⟩⟩
/-! numbers -/
noncomputable def ftB (P : Prop) : Int32 := @ite _ P (Classical.propDecidable P) 1 0
theorem ftB_t {P : Prop} (h : P) : ftB P = 1 := by unfold ftB; exact if_pos h
theorem ftB_f {P : Prop} (h : ¬ P) : ftB P = 0 := by unfold ftB; exact if_neg h
theorem ftB_ne {P : Prop} (h : ¬ ftB P = 0) : P := Classical.byContradiction fun q => h (ftB_f q)
theorem ftB_eq {P : Prop} (h : ftB P = 0) : ¬ P := fun q => by rw [ftB_t q] at h; exact absurd h (by decide)
theorem ftB_nar {P : Prop} : narrow .boolean (.int (ftB P)) = .int (ftB P) := by
  rcases Classical.em P with h | h
  · rw [ftB_t h]; rfl
  · rw [ftB_f h]; rfl
theorem ftB_congr {P Q : Prop} (h : P ↔ Q) : ftB P = ftB Q := by rw [propext h]
theorem ft_inc (k : Nat) : nI k + Int32.ofInt 1 = nI (k + 1) := nI_1 k
theorem ft_dec {k : Nat} (h : 0 < k) : nI k + Int32.ofInt (-1) = nI (k - 1) := by
  obtain ⟨j, rfl⟩ : ∃ j, k = j + 1 := ⟨k - 1, by omega⟩
  have e : Int32.ofInt (-1) = -1 := by decide
  rw [e, ← Int32.sub_eq_add_neg, Nat.add_sub_cancel]
  exact nI_pred j
theorem ft_eqN {a b : Nat} (ha : a < 2 ^ 31) (hb : b < 2 ^ 31) (h : nI a = nI b) : a = b := (nI_eq ha hb).mp h
theorem ft_neN {a b : Nat} (ha : a < 2 ^ 31) (hb : b < 2 ^ 31) (h : ¬ nI a = nI b) : a ≠ b := fun q => h (by rw [q])
theorem ft_leN {a b : Nat} (ha : a < 2 ^ 31) (hb : b < 2 ^ 31) (h : nI a ≤ nI b) : a ≤ b := (nI_leI ha hb).mp h
theorem ft_nleN {a b : Nat} (ha : a < 2 ^ 31) (hb : b < 2 ^ 31) (h : ¬ nI a ≤ nI b) : b < a := Nat.lt_of_not_le fun q => h ((nI_leI ha hb).mpr q)
theorem ft_ltN {a b : Nat} (ha : a < 2 ^ 31) (hb : b < 2 ^ 31) (h : nI a < nI b) : a < b := (nI_ltI ha hb).mp h
theorem ft_nltN {a b : Nat} (ha : a < 2 ^ 31) (hb : b < 2 ^ 31) (h : ¬ nI a < nI b) : b ≤ a := Nat.le_of_not_lt fun q => h ((nI_ltI ha hb).mpr q)
theorem ft_addN (a b : Nat) : nI a + nI b = nI (a + b) := nI_add a b
theorem ft_mulN (a b : Nat) : nI a * nI b = nI (a * b) := (Int32.ofNat_mul a b).symm
theorem ft_subN {a b : Nat} (h : b ≤ a) : nI a - nI b = nI (a - b) := by
  have e := nI_add (a - b) b
  rw [Nat.sub_add_cancel h] at e
  rw [← e, Int32.add_sub_cancel]
theorem ft_clampN {f : Nat → Int32} {k : Nat} (h : k < 2 ^ 31) : f (nI k).toNatClampNeg = f k := by rw [nI_clamp h]
theorem ft_le0 {k : Nat} (hk : k < 2 ^ 31) (h : nI k ≤ 0) : k = 0 := by
  rcases Nat.eq_zero_or_pos k with q | q
  · exact q
  · exact absurd h (nI_nle q hk)
theorem ft_eq0N {k : Nat} (hk : k < 2 ^ 31) (h : nI k = 0) : k = 0 := by
  rcases Nat.eq_zero_or_pos k with q | q
  · exact q
  · exact absurd h (nI_ne0 q hk)
theorem ft_ne0N {k : Nat} (h : ¬ nI k = 0) : 0 < k := by
  rcases Nat.eq_zero_or_pos k with q | q
  · subst q; exact absurd nI_0 h
  · exact q
theorem ft_gt0 {k : Nat} (h : ¬ nI k ≤ 0) : 0 < k := by
  rcases Nat.eq_zero_or_pos k with q | q
  · subst q; exact absurd (by decide) h
  · exact q
theorem ft_in {i : Int32} {n : Nat} (hn : n < 2 ^ 31) (c1 : ¬ i < 0) (c2 : ¬ Int32.ofNat n ≤ i) : vp_in i n := by
  obtain ⟨j, hj, rfl⟩ := nI_of c1
  exact vp_in_nI (Nat.lt_of_not_le fun q => c2 (nI_le q hj)) hn
theorem ft_out {i : Int32} {n : Nat} (hn : n < 2 ^ 31) (c1 : ¬ i < 0) (c2 : Int32.ofNat n ≤ i) : ¬ vp_in i n := by
  obtain ⟨j, hj, rfl⟩ := nI_of c1
  exact fun q => q (Or.inr (by rw [nI_clamp hj]; exact (nI_leI hn hj).mp c2))
def ftRemI (x y : Int32) : Int32 := x - x / y * y
def ftQuot (x y : Int32) : Int32 := if y = 0 then 0 else x / y
def ftAbs (x : Int32) : Int32 := if 0 ≤ x then x else 0 - x
def ftMax (x y : Int32) : Int32 := if x < y then y else x
def ftMin (x y : Int32) : Int32 := if y < x then y else x
/-- what FiberTrace.at answers, what FiberTrace.put leaves -/
def ftAt (n : Nat) (f : Nat → Int32) (i : Int32) : Int32 := if i < 0 ∨ n ≤ i.toNatClampNeg then 0 else f i.toNatClampNeg
def ftPut (n : Nat) (f : Nat → Int32) (i x : Int32) : Nat → Int32 := if i < 0 ∨ n ≤ i.toNatClampNeg then f else upd f i.toNatClampNeg x
theorem ftAt_in {n : Nat} {f : Nat → Int32} {i : Int32} (h : vp_in i n) : ftAt n f i = f i.toNatClampNeg := if_neg h
theorem ftAt_out {n : Nat} {f : Nat → Int32} {i : Int32} (h : ¬ vp_in i n) : ftAt n f i = 0 := if_pos (Decidable.byContradiction h)
theorem ftPut_in {n : Nat} {f : Nat → Int32} {i x : Int32} (h : vp_in i n) : ftPut n f i x = upd f i.toNatClampNeg x := if_neg h
theorem ftPut_out {n : Nat} {f : Nat → Int32} {i x : Int32} (h : ¬ vp_in i n) : ftPut n f i x = f := if_pos (Decidable.byContradiction h)
theorem ftAt_N {n k : Nat} {f : Nat → Int32} (h : k < n) (hn : n < 2 ^ 31) : ftAt n f (nI k) = f k := by rw [ftAt_in (vp_in_nI h hn), nI_clamp (by omega)]
theorem ftPut_N {n k : Nat} {f : Nat → Int32} {x : Int32} (h : k < n) (hn : n < 2 ^ 31) : ftPut n f (nI k) x = upd f k x := by rw [ftPut_in (vp_in_nI h hn), nI_clamp (by omega)]
section FTT
variable {p : Program} {l : Launch} {e : Env} {R : Room} {s : State} {m : MethodId} {args : Array Value} {below : List Frame} {meth : Method} {c : Code} {H : Heap} {locs : List Loc} {cells slots : Nat} {Q : State → Prop}
theorem ft_top {x y : Int32} {rest : List Value} {pc : Nat} {ls : Array Slot} (h : x = y) (k : W p l e R s m args below meth c H locs cells slots Q (F0 m pc ls (.int y :: rest))) : W p l e R s m args below meth c H locs cells slots Q (F0 m pc ls (.int x :: rest)) := by rw [h]; exact k
end FTT
end
section
set_option maxHeartbeats 4000000 in
set_option maxRecDepth 100000 in
theorem c_X10_isWithin (l : Launch) (D : va_G) (cI cS : ClassId) (v lo hi : Int32)  : Met l yX10_isWithin wsX10_isWithin ({ frames := 0, cells := 0, slots := 0, locals := 0 }) (ftRO D cI cS [.int v, .int lo, .int hi] []) (vp_Si (fun o9 => o9 = ftB (lo ≤ v ∧ v ≤ hi))) 0 0 (fun _ => False) := by
  refine Met.ofW (cc := cX10_isWithin) (maxL := 3) (ret := (some .boolean)) (by decide) rfl ?_
  intro p e s m args below meth c s₁ B hml hv
  obtain ⟨rfl, hP, hKK⟩ := hv
  have hK := hKK.1
  have hx := B.exec
  have hb := B.bytes
  have hr := B.returns
  have hts := atoms_spec (ws := wsX10_isWithin) B.pre
  have hown : s.vm.findClass RX10 = some m.cls := findClass_of_methodNamed B.named
  have hlocks := B.notSynchronized
  have hP : va_P D vwCl [] s.heap := hP
  have hl := lv_entry ([.int v, .int lo, .int hi]) (n := 3) (Nat.le_of_ble_eq_true rfl)
  rw [lg_entry_eq]
  generalize (lg_sl ([.int v, .int lo, .int hi]) ++ List.replicate (3 - (lg_sl ([.int v, .int lo, .int hi])).length) Slot.unset).toArray = ls at hl ⊢
  have hl : lv_has ls 3 [(0, .int v), (1, .int lo), (2, .int hi)] := hl
  refine lv_iload_n hx hb dX10_isWithin_0 rfl (lv_at hl 0 rfl) ?_
  refine lv_iload_n hx hb dX10_isWithin_1 rfl (lv_at hl 1 rfl) ?_
  refine lv_icmp_lt (tgt := 14) hx hb dX10_isWithin_2 (by decide) (fun c2 => ?_) (fun c2 => ?_)
  · refine lv_iconst (v := 0) hx hb dX10_isWithin_14 (by decide) ?_
    exact W.zret (v := 0) hx hb hr (by rfl) (fun t ht hW => ⟨0, rfl, (by show (0 : Int32) = ftB (lo ≤ v ∧ v ≤ hi); first | exact (ftB_t ⟨Int32.not_lt.mp c2, Int32.not_lt.mp c7⟩).symm | exact (ftB_f (fun q => absurd c2 (Int32.not_lt.mpr q.1))).symm | exact (ftB_f (fun q => absurd c7 (Int32.not_lt.mpr q.2))).symm), ht⟩) (fun _ h9 => absurd h9 List.not_mem_nil) dX10_isWithin_15
  · refine lv_iload_n hx hb dX10_isWithin_5 rfl (lv_at hl 0 rfl) ?_
    refine lv_iload_n hx hb dX10_isWithin_6 rfl (lv_at hl 2 rfl) ?_
    refine lv_icmp_gt (tgt := 14) hx hb dX10_isWithin_7 (by decide) (fun c7 => ?_) (fun c7 => ?_)
    · refine lv_iconst (v := 0) hx hb dX10_isWithin_14 (by decide) ?_
      exact W.zret (v := 0) hx hb hr (by rfl) (fun t ht hW => ⟨0, rfl, (by show (0 : Int32) = ftB (lo ≤ v ∧ v ≤ hi); first | exact (ftB_t ⟨Int32.not_lt.mp c2, Int32.not_lt.mp c7⟩).symm | exact (ftB_f (fun q => absurd c2 (Int32.not_lt.mpr q.1))).symm | exact (ftB_f (fun q => absurd c7 (Int32.not_lt.mpr q.2))).symm), ht⟩) (fun _ h9 => absurd h9 List.not_mem_nil) dX10_isWithin_15
    · refine lv_iconst (v := 1) hx hb dX10_isWithin_10 (by decide) ?_
      refine lv_goto (tgt := 15) hx hb dX10_isWithin_11 (by decide) ?_
      exact W.zret (v := 1) hx hb hr (by rfl) (fun t ht hW => ⟨1, rfl, (by show (1 : Int32) = ftB (lo ≤ v ∧ v ≤ hi); first | exact (ftB_t ⟨Int32.not_lt.mp c2, Int32.not_lt.mp c7⟩).symm | exact (ftB_f (fun q => absurd c2 (Int32.not_lt.mpr q.1))).symm | exact (ftB_f (fun q => absurd c7 (Int32.not_lt.mpr q.2))).symm), ht⟩) (fun _ h9 => absurd h9 List.not_mem_nil) dX10_isWithin_15
set_option maxHeartbeats 4000000 in
set_option maxRecDepth 100000 in
theorem c_X10_at (l : Launch) (D : va_G) (cI cS : ClassId) (row n : Nat) (f : Nat → Int32) (i : Int32) (hn : n < 2 ^ 31) : Met l yX10_at wsX10_at ({ frames := 0, cells := 0, slots := 0, locals := 0 }) (ftRO D cI cS [.ref row, .int i] [(row, .inl (cI, n, .inl f))]) (vp_Si (fun o9 => o9 = ftAt n f i)) 0 0 (fun _ => False) := by
  refine Met.ofW (cc := cX10_at) (maxL := 2) (ret := (some .int)) (by decide) rfl ?_
  intro p e s m args below meth c s₁ B hml hv
  obtain ⟨rfl, hP, hKK⟩ := hv
  have hK := hKK.1
  have hx := B.exec
  have hb := B.bytes
  have hr := B.returns
  have hts := atoms_spec (ws := wsX10_at) B.pre
  have hown : s.vm.findClass RX10 = some m.cls := findClass_of_methodNamed B.named
  have hlocks := B.notSynchronized
  have hP : va_P D vwCl [(row, .inl (cI, n, .inl f))] s.heap := hP
  have hl := lv_entry ([.ref row, .int i]) (n := 2) (Nat.le_of_ble_eq_true rfl)
  rw [lg_entry_eq]
  generalize (lg_sl ([.ref row, .int i]) ++ List.replicate (2 - (lg_sl ([.ref row, .int i])).length) Slot.unset).toArray = ls at hl ⊢
  have hl : lv_has ls 2 [(0, .ref row), (1, .int i)] := hl
  refine lv_aload_n hx hb dX10_at_0 rfl (lv_at hl 0 rfl) ?_
  refine lv_ifnull hx hb dX10_at_1 ?_
  refine lv_iload_n hx hb dX10_at_4 rfl (lv_at hl 1 rfl) ?_
  refine lv_if_lt (tgt := 20) hx hb dX10_at_5 (by decide) (fun c5 => ?_) (fun c5 => ?_)
  · refine lv_iconst (v := 0) hx hb dX10_at_20 (by decide) ?_
    exact W.iret (v := 0) hx hb hr (fun t ht hW => ⟨0, rfl, (by show (0 : Int32) = ftAt n f i; first | exact (ftAt_in (ft_in hn c5 c11)).symm | exact (ftAt_out (ft_out hn c5 c11)).symm | exact (ftAt_out (fun q => q (Or.inl c5))).symm), ht⟩) (fun _ h9 => absurd h9 List.not_mem_nil) dX10_at_21
  · refine lv_iload_n hx hb dX10_at_8 rfl (lv_at hl 1 rfl) ?_
    refine lv_aload_n hx hb dX10_at_9 rfl (lv_at hl 0 rfl) ?_
    refine va_alen (v := Int32.ofNat n) hx hb hK hP 0 0 rfl rfl rfl dX10_at_10 ?_
    refine lv_icmp_ge (tgt := 20) hx hb dX10_at_11 (by decide) (fun c11 => ?_) (fun c11 => ?_)
    · refine lv_iconst (v := 0) hx hb dX10_at_20 (by decide) ?_
      exact W.iret (v := 0) hx hb hr (fun t ht hW => ⟨0, rfl, (by show (0 : Int32) = ftAt n f i; first | exact (ftAt_in (ft_in hn c5 c11)).symm | exact (ftAt_out (ft_out hn c5 c11)).symm | exact (ftAt_out (fun q => q (Or.inl c5))).symm), ht⟩) (fun _ h9 => absurd h9 List.not_mem_nil) dX10_at_21
    · refine lv_aload_n hx hb dX10_at_14 rfl (lv_at hl 0 rfl) ?_
      refine lv_iload_n hx hb dX10_at_15 rfl (lv_at hl 1 rfl) ?_
      refine va_iald hx hb hK hP 0 0 rfl rfl (ft_in hn c5 c11) dX10_at_16 ?_
      refine lv_goto (tgt := 21) hx hb dX10_at_17 (by decide) ?_
      exact W.iret (v := f i.toNatClampNeg) hx hb hr (fun t ht hW => ⟨f i.toNatClampNeg, rfl, (by show (f i.toNatClampNeg : Int32) = ftAt n f i; first | exact (ftAt_in (ft_in hn c5 c11)).symm | exact (ftAt_out (ft_out hn c5 c11)).symm | exact (ftAt_out (fun q => q (Or.inl c5))).symm), ht⟩) (fun _ h9 => absurd h9 List.not_mem_nil) dX10_at_21
set_option maxHeartbeats 4000000 in
set_option maxRecDepth 100000 in
theorem c_X10_put (l : Launch) (D : va_G) (cI cS : ClassId) (sz : Nat) (row n : Nat) (f : Nat → Int32) (i x : Int32) (hn : n < 2 ^ 31) : Met l yX10_put wsX10_put ({ frames := 0, cells := 0, slots := 0, locals := 0 }) (ftRW D cI cS [.ref row, .int i, .int x] [(row, .inl (cI, n, .inl f))] sz) (ftQv D [(row, .inl (cI, n, .inl f))] [(row, .inl (cI, n, .inl (ftPut n f i x)))] sz) 0 0 (va_A [(row, .inl (cI, n, .inl f))] sz) := by
  refine Met.ofW (cc := cX10_put) (maxL := 3) (ret := none) (by decide) rfl ?_
  intro p e s m args below meth c s₁ B hml hv
  obtain ⟨rfl, hsz, hP, hKK, hD0⟩ := hv
  have hK := hKK.1
  have hx := B.exec
  have hb := B.bytes
  have hr := B.returns
  have hts := atoms_spec (ws := wsX10_put) B.pre
  have hown : s.vm.findClass RX10 = some m.cls := findClass_of_methodNamed B.named
  have hlocks := B.notSynchronized
  subst hsz
  have hD := hD0.self (sz := s.heap.size)
  generalize hAe : va_A [(row, .inl (cI, n, .inl f))] s.heap.size = A at hD ⊢
  have hA : ∀ q : Nat, s.heap.size ≤ q → A q := fun q h => by rw [← hAe]; exact Or.inr h
  have hS : va_S A s.heap s.heap [] := va_S.rf
  have hD : va_D A [(row, .inl (cI, n, .inl f))] := hD
  have hP : va_P D vwCl [(row, .inl (cI, n, .inl f))] s.heap := hP
  have hl := lv_entry ([.ref row, .int i, .int x]) (n := 3) (Nat.le_of_ble_eq_true rfl)
  rw [lg_entry_eq]
  generalize (lg_sl ([.ref row, .int i, .int x]) ++ List.replicate (3 - (lg_sl ([.ref row, .int i, .int x])).length) Slot.unset).toArray = ls at hl ⊢
  have hl : lv_has ls 3 [(0, .ref row), (1, .int i), (2, .int x)] := hl
  refine lv_aload_n hx hb dX10_put_0 rfl (lv_at hl 0 rfl) ?_
  refine lv_ifnull hx hb dX10_put_1 ?_
  refine lv_iload_n hx hb dX10_put_4 rfl (lv_at hl 1 rfl) ?_
  refine lv_if_lt (tgt := 18) hx hb dX10_put_5 (by decide) (fun c5 => ?_) (fun c5 => ?_)
  · have hw9 : ([(row, .inl (cI, n, .inl f))] : va_W) = [(row, .inl (cI, n, .inl (ftPut n f i x)))] := by first | rw [ftPut_in (ft_in hn c5 c11)] | rw [ftPut_out (ft_out hn c5 c11)] | rw [ftPut_out (fun q => q (Or.inl c5))]
    rw [hw9] at hP hD
    exact W.vret hx hb hr (fun t ht hW => ⟨⟨(), rfl, trivial, by rw [ht]; exact hP, by rw [hAe]; exact hD⟩, by rw [hAe]; exact hS.F ht⟩) hS.2.2 dX10_put_18
  · refine lv_iload_n hx hb dX10_put_8 rfl (lv_at hl 1 rfl) ?_
    refine lv_aload_n hx hb dX10_put_9 rfl (lv_at hl 0 rfl) ?_
    refine va_alen (v := Int32.ofNat n) hx hb hK hP 0 0 rfl rfl rfl dX10_put_10 ?_
    refine lv_icmp_ge (tgt := 18) hx hb dX10_put_11 (by decide) (fun c11 => ?_) (fun c11 => ?_)
    · have hw9 : ([(row, .inl (cI, n, .inl f))] : va_W) = [(row, .inl (cI, n, .inl (ftPut n f i x)))] := by first | rw [ftPut_in (ft_in hn c5 c11)] | rw [ftPut_out (ft_out hn c5 c11)] | rw [ftPut_out (fun q => q (Or.inl c5))]
      rw [hw9] at hP hD
      exact W.vret hx hb hr (fun t ht hW => ⟨⟨(), rfl, trivial, by rw [ht]; exact hP, by rw [hAe]; exact hD⟩, by rw [hAe]; exact hS.F ht⟩) hS.2.2 dX10_put_18
    · refine lv_aload_n hx hb dX10_put_14 rfl (lv_at hl 0 rfl) ?_
      refine lv_iload_n hx hb dX10_put_15 rfl (lv_at hl 1 rfl) ?_
      refine lv_iload_n hx hb dX10_put_16 rfl (lv_at hl 2 rfl) ?_
      refine va_iast hx hb hK hP hD hS 0 0 rfl rfl (ft_in hn c5 c11) dX10_put_17 (fun H locs hP hD hS => ?_)
      have hP : va_P D vwCl [(row, .inl (cI, n, .inl (upd f i.toNatClampNeg x)))] H := hP
      have hD : va_D A [(row, .inl (cI, n, .inl (upd f i.toNatClampNeg x)))] := hD
      have hw9 : ([(row, .inl (cI, n, .inl (upd f i.toNatClampNeg x)))] : va_W) = [(row, .inl (cI, n, .inl (ftPut n f i x)))] := by first | rw [ftPut_in (ft_in hn c5 c11)] | rw [ftPut_out (ft_out hn c5 c11)] | rw [ftPut_out (fun q => q (Or.inl c5))]
      rw [hw9] at hP hD
      exact W.vret hx hb hr (fun t ht hW => ⟨⟨(), rfl, trivial, by rw [ht]; exact hP, by rw [hAe]; exact hD⟩, by rw [hAe]; exact hS.F ht⟩) hS.2.2 dX10_put_18
set_option maxHeartbeats 4000000 in
set_option maxRecDepth 100000 in
theorem c_X10_orNotFound (l : Launch) (D : va_G) (cI cS : ClassId) (v : Int32)  : Met l yX10_orNotFound wsX10_orNotFound ({ frames := 0, cells := 0, slots := 0, locals := 0 }) (ftRO D cI cS [.int v] []) (vp_Si (fun o9 => o9 = if v = -1 then -1000004 else v)) 0 0 (fun _ => False) := by
  refine Met.ofW (cc := cX10_orNotFound) (maxL := 1) (ret := (some .int)) (by decide) rfl ?_
  intro p e s m args below meth c s₁ B hml hv
  obtain ⟨rfl, hP, hKK⟩ := hv
  have hK := hKK.1
  have hx := B.exec
  have hb := B.bytes
  have hr := B.returns
  have hts := atoms_spec (ws := wsX10_orNotFound) B.pre
  have hown : s.vm.findClass RX10 = some m.cls := findClass_of_methodNamed B.named
  have hlocks := B.notSynchronized
  have hP : va_P D vwCl [] s.heap := hP
  have hl := lv_entry ([.int v]) (n := 1) (Nat.le_of_ble_eq_true rfl)
  rw [lg_entry_eq]
  generalize (lg_sl ([.int v]) ++ List.replicate (1 - (lg_sl ([.int v])).length) Slot.unset).toArray = ls at hl ⊢
  have hl : lv_has ls 1 [(0, .int v)] := hl
  refine lv_iload_n hx hb dX10_orNotFound_0 rfl (lv_at hl 0 rfl) ?_
  refine lv_iconst (v := (-1)) hx hb dX10_orNotFound_1 (by decide) ?_
  refine lv_icmp_ne (tgt := 10) hx hb dX10_orNotFound_2 (by decide) (fun c2 => ?_) (fun c2 => ?_)
  · refine lv_iload_n hx hb dX10_orNotFound_10 rfl (lv_at hl 0 rfl) ?_
    exact W.iret (v := v) hx hb hr (fun t ht hW => ⟨v, rfl, (by show (v : Int32) = if v = -1 then -1000004 else v; first | exact (if_pos c2).symm | exact (if_neg c2).symm), ht⟩) (fun _ h9 => absurd h9 List.not_mem_nil) dX10_orNotFound_11
  · refine lv_ldc (v := (-1000004)) hx hb hown (hts (.constant RX10 104 (-1000004)) (by decide +kernel)) dX10_orNotFound_5 ?_
    refine lv_goto (tgt := 11) hx hb dX10_orNotFound_7 (by decide) ?_
    exact W.iret (v := (-1000004)) hx hb hr (fun t ht hW => ⟨(-1000004), rfl, (by show ((-1000004) : Int32) = if v = -1 then -1000004 else v; first | exact (if_pos c2).symm | exact (if_neg c2).symm), ht⟩) (fun _ h9 => absurd h9 List.not_mem_nil) dX10_orNotFound_11
set_option maxHeartbeats 4000000 in
set_option maxRecDepth 100000 in
theorem c_X10_quotient (l : Launch) (D : va_G) (cI cS : ClassId) (x y : Int32)  : Met l yX10_quotient wsX10_quotient ({ frames := 0, cells := 0, slots := 0, locals := 0 }) (ftRO D cI cS [.int x, .int y] []) (vp_Si (fun o9 => o9 = ftQuot x y)) 0 0 (fun _ => False) := by
  refine Met.ofW (cc := cX10_quotient) (maxL := 2) (ret := (some .int)) (by decide) rfl ?_
  intro p e s m args below meth c s₁ B hml hv
  obtain ⟨rfl, hP, hKK⟩ := hv
  have hK := hKK.1
  have hx := B.exec
  have hb := B.bytes
  have hr := B.returns
  have hts := atoms_spec (ws := wsX10_quotient) B.pre
  have hown : s.vm.findClass RX10 = some m.cls := findClass_of_methodNamed B.named
  have hlocks := B.notSynchronized
  have hP : va_P D vwCl [] s.heap := hP
  have hl := lv_entry ([.int x, .int y]) (n := 2) (Nat.le_of_ble_eq_true rfl)
  rw [lg_entry_eq]
  generalize (lg_sl ([.int x, .int y]) ++ List.replicate (2 - (lg_sl ([.int x, .int y])).length) Slot.unset).toArray = ls at hl ⊢
  have hl : lv_has ls 2 [(0, .int x), (1, .int y)] := hl
  refine lv_iload_n hx hb dX10_quotient_0 rfl (lv_at hl 1 rfl) ?_
  refine lv_if_ne (tgt := 8) hx hb dX10_quotient_1 (by decide) (fun c1 => ?_) (fun c1 => ?_)
  · refine lv_iload_n hx hb dX10_quotient_8 rfl (lv_at hl 0 rfl) ?_
    refine lv_iload_n hx hb dX10_quotient_9 rfl (lv_at hl 1 rfl) ?_
    refine lv_idiv hx hb dX10_quotient_10 c1 ?_
    exact W.iret (v := x / y) hx hb hr (fun t ht hW => ⟨x / y, rfl, (by show (x / y : Int32) = ftQuot x y; first | (rw [ftQuot, if_pos c1]) | (rw [ftQuot, if_neg c1])), ht⟩) (fun _ h9 => absurd h9 List.not_mem_nil) dX10_quotient_11
  · refine lv_iconst (v := 0) hx hb dX10_quotient_4 (by decide) ?_
    refine lv_goto (tgt := 11) hx hb dX10_quotient_5 (by decide) ?_
    exact W.iret (v := 0) hx hb hr (fun t ht hW => ⟨0, rfl, (by show (0 : Int32) = ftQuot x y; first | (rw [ftQuot, if_pos c1]) | (rw [ftQuot, if_neg c1])), ht⟩) (fun _ h9 => absurd h9 List.not_mem_nil) dX10_quotient_11
end
section
/-! rows: a place made, a place taken away, a sum -/
def ftIns (f : Nat → Int32) (u k : Nat) (x : Int32) : Nat → Int32 := fun t => if t = k then x else if k < t ∧ t ≤ u then f (t - 1) else f t
def ftInsG (f : Nat → Int32) (u j : Nat) : Nat → Int32 := fun t => if j < t ∧ t ≤ u then f (t - 1) else f t
theorem ftInsG_0 (f : Nat → Int32) (u : Nat) : f = ftInsG f u u := funext fun t => (if_neg (by omega)).symm
theorem ftInsG_s {f : Nat → Int32} {u j : Nat} (h : 0 < j) (hj : j ≤ u) : upd (ftInsG f u j) j (ftInsG f u j (j - 1)) = ftInsG f u (j - 1) := by
  funext t
  unfold upd ftInsG
  rcases Nat.lt_trichotomy t j with q | q | q
  · rw [if_neg (by omega), if_neg (by omega), if_neg (by omega)]
  · subst q; rw [if_pos rfl, if_neg (by omega), if_pos (by omega)]
  · rw [if_neg (by omega)]
    by_cases r : t ≤ u
    · rw [if_pos (by omega), if_pos (by omega)]
    · rw [if_neg (by omega), if_neg (by omega)]
theorem ftInsG_e {f : Nat → Int32} {u k : Nat} {x : Int32} : upd (ftInsG f u k) k x = ftIns f u k x := rfl
def ftRem (f : Nat → Int32) (u k : Nat) : Nat → Int32 := fun t => if k ≤ t ∧ t + 1 < u then f (t + 1) else f t
def ftRemG (f : Nat → Int32) (k j : Nat) : Nat → Int32 := fun t => if k ≤ t ∧ t < j then f (t + 1) else f t
theorem ftRemG_0 (f : Nat → Int32) (k : Nat) : f = ftRemG f k k := funext fun t => (if_neg (by omega)).symm
theorem ftRemG_s {f : Nat → Int32} {k j : Nat} (hj : k ≤ j) : upd (ftRemG f k j) j (ftRemG f k j (j + 1)) = ftRemG f k (j + 1) := by
  funext t
  unfold upd ftRemG
  rcases Nat.lt_trichotomy t j with q | q | q
  · rw [if_neg (by omega)]
    by_cases r : k ≤ t
    · rw [if_pos (by omega), if_pos (by omega)]
    · rw [if_neg (by omega), if_neg (by omega)]
  · subst q; rw [if_pos rfl, if_neg (by omega), if_pos (by omega)]
  · rw [if_neg (by omega), if_neg (by omega), if_neg (by omega)]
theorem ftRemG_e {f : Nat → Int32} {u k j : Nat} (h1 : u ≤ j + 1) (h2 : j + 1 ≤ u) : ftRemG f k j = ftRem f u k := by
  funext t
  unfold ftRemG ftRem
  by_cases q : k ≤ t ∧ t < j
  · rw [if_pos q, if_pos (by omega)]
  · rw [if_neg q, if_neg (by omega)]
def ftSum (f : Nat → Int32) : Nat → Int32
  | 0 => 0
  | n + 1 => ftSum f n + f n
set_option maxHeartbeats 4000000 in
set_option maxRecDepth 100000 in
theorem c_X10_insertInto (l : Launch) (D : va_G) (cI cS : ClassId) (sz : Nat) (row n : Nat) (f : Nat → Int32) (u k : Nat) (x : Int32) (hn : n < 2 ^ 31) (hku : k ≤ u) (hun : u < n) : Met l yX10_insertInto wsX10_insertInto ({ frames := 1, cells := 0, slots := 0, locals := 22 }) (ftRW D cI cS [.ref row, .int (nI u), .int (nI k), .int x] [(row, .inl (cI, n, .inl f))] sz) (ftQv D [(row, .inl (cI, n, .inl f))] [(row, .inl (cI, n, .inl (ftIns f u k x)))] sz) 0 0 (va_A [(row, .inl (cI, n, .inl f))] sz) := by
  refine Met.ofW (cc := cX10_insertInto) (maxL := 5) (ret := none) (by decide) rfl ?_
  intro p e s m args below meth c s₁ B hml hv
  obtain ⟨rfl, hsz, hP, hKK, hD0⟩ := hv
  have hK := hKK.1
  have hx := B.exec
  have hb := B.bytes
  have hr := B.returns
  have hts := atoms_spec (ws := wsX10_insertInto) B.pre
  have hown : s.vm.findClass RX10 = some m.cls := findClass_of_methodNamed B.named
  have hlocks := B.notSynchronized
  subst hsz
  have hD := hD0.self (sz := s.heap.size)
  generalize hAe : va_A [(row, .inl (cI, n, .inl f))] s.heap.size = A at hD ⊢
  have hA : ∀ q : Nat, s.heap.size ≤ q → A q := fun q h => by rw [← hAe]; exact Or.inr h
  have hS : va_S A s.heap s.heap [] := va_S.rf
  have hD : va_D A [(row, .inl (cI, n, .inl f))] := hD
  have hP : va_P D vwCl [(row, .inl (cI, n, .inl f))] s.heap := hP
  have hl := lv_entry ([.ref row, .int (nI u), .int (nI k), .int x]) (n := 5) (Nat.le_of_ble_eq_true rfl)
  rw [lg_entry_eq]
  generalize (lg_sl ([.ref row, .int (nI u), .int (nI k), .int x]) ++ List.replicate (5 - (lg_sl ([.ref row, .int (nI u), .int (nI k), .int x])).length) Slot.unset).toArray = ls at hl ⊢
  have hl : lv_has ls 5 [(0, .ref row), (1, .int (nI u)), (2, .int (nI k)), (3, .int x)] := hl
  refine lv_iload_n hx hb dX10_insertInto_0 rfl (lv_at hl 1 rfl) ?_
  refine lv_istore (lv' := [(4, .int (nI u)), (0, .ref row), (1, .int (nI u)), (2, .int (nI k)), (3, .int x)]) hx hb dX10_insertInto_1 hl (by decide) rfl (fun ls hl => ?_)
  have lp3 : ∀ (n3 : Nat) (j : Nat) (x3_4 : Int32) (g3_row : Nat → Int32), j < n3 → (k ≤ j) → (j ≤ u) → x3_4 = nI j → g3_row = ftInsG f u j → ∀ (H : Heap) (locs : List Loc), va_P D vwCl [(row, .inl (cI, n, .inl g3_row))] H → va_D A [(row, .inl (cI, n, .inl g3_row))] → va_S A s.heap H locs → ∀ ls : Array Slot, lv_has ls 5 [(0, .ref row), (1, .int (nI u)), (2, .int (nI k)), (3, .int x), (4, .int x3_4)] → W p l e (headSpec wsX10_insertInto { frames := 1, cells := 0, slots := 0, locals := 22 }).room s m ([.ref row, .int (nI u), .int (nI k), .int x] : List Value).toArray below meth c H locs 0 0 (MQ below (ftQv D [(row, .inl (cI, n, .inl f))] [(row, .inl (cI, n, .inl (ftIns f u k x)))] s.heap.size) ([.ref row, .int (nI u), .int (nI k), .int x] : List Value).toArray s 0 0 A) (F0 m 3 ls []) := by
    intro n3
    induction n3 with
    | zero =>
      intro j x3_4 g3_row hm3
      exact absurd hm3 (Nat.not_lt_zero _)
    | succ n3 ih3 =>
      intro j x3_4 g3_row hm3 hkj hju ex3_4 eg3_row H locs hP hD hS ls hl
      subst ex3_4
      refine lv_iload hx hb dX10_insertInto_3 (lv_at hl 4 rfl) ?_
      refine lv_iload_n hx hb dX10_insertInto_5 rfl (lv_at hl 2 rfl) ?_
      refine lv_icmp_le (tgt := 29) hx hb dX10_insertInto_6 (by decide) (fun c6 => ?_) (fun c6 => ?_)
      · have c6n : j ≤ k := ft_leN (by omega) (by omega) c6
        refine lv_aload_n hx hb dX10_insertInto_29 rfl (lv_at hl 0 rfl) ?_
        refine lv_iload_n hx hb dX10_insertInto_30 rfl (lv_at hl 2 rfl) ?_
        refine lv_iload_n hx hb dX10_insertInto_31 rfl (lv_at hl 3 rfl) ?_
        refine ft_cv (wc := [(row, .inl (cI, n, .inl g3_row))]) (wr := []) (w1 := [(row, .inl (cI, n, .inl (ftPut n g3_row (nI k) x)))]) (ws1 := [(row, .inl (cI, n, .inl (ftPut n g3_row (nI k) x)))]) (va_runS (As := [.ref row, .int (nI k), .int x]) (rest := []) ⟨hx, hb, hml, hown, hts⟩ (c_X10_put l D cI cS H.size row n g3_row (nI k) x hn) (va_cwS 3 hts gX10_insertInto_X10_put rfl rfl rfl (by decide +kernel) ⟨Nat.le_of_ble_eq_true rfl, Nat.le_of_ble_eq_true rfl⟩) (ft_preRW hP hD hKK [0] rfl rfl rfl) rfl rfl hl.1 rfl (lv_room (Nat.le_of_ble_eq_true rfl)) dX10_insertInto_32 ⟨Nat.le_of_ble_eq_true rfl, Nat.le_of_ble_eq_true rfl⟩) hP hD hS hA [0] [] [0] rfl rfl (by decide) (by decide) (by decide) rfl rfl (fun H locs hP hD hS => ?_)
        rw [ftPut_N (k := k) (by omega) (by omega)] at hP hD
        have hP : va_P D vwCl [(row, .inl (cI, n, .inl (upd g3_row k x)))] H := hP
        have hD : va_D A [(row, .inl (cI, n, .inl (upd g3_row k x)))] := hD
        have hw9 : ([(row, .inl (cI, n, .inl (upd g3_row k x)))] : va_W) = [(row, .inl (cI, n, .inl (ftIns f u k x)))] := by (obtain rfl : k = j := by omega); rw [eg3_row]; rfl
        rw [hw9] at hP hD
        exact W.vret hx hb hr (fun t ht hW => ⟨⟨(), rfl, trivial, by rw [ht]; exact hP, by rw [hAe]; exact hD⟩, by rw [hAe]; exact hS.F ht⟩) hS.2.2 dX10_insertInto_35
      · have c6n : k < j := ft_nleN (by omega) (by omega) c6
        refine lv_aload_n hx hb dX10_insertInto_9 rfl (lv_at hl 0 rfl) ?_
        refine lv_iload hx hb dX10_insertInto_10 (lv_at hl 4 rfl) ?_
        refine lv_aload_n hx hb dX10_insertInto_12 rfl (lv_at hl 0 rfl) ?_
        refine lv_iload hx hb dX10_insertInto_13 (lv_at hl 4 rfl) ?_
        refine lv_iconst (v := 1) hx hb dX10_insertInto_15 (by decide) ?_
        refine lv_isub hx hb dX10_insertInto_16 ?_
        refine ft_top (y := nI (j - 1)) (ft_subN (a := j) (b := 1) (by omega)) ?_
        refine ft_csi (r := ftAt n g3_row (nI (j - 1))) (va_runS (As := [.ref row, .int (nI (j - 1))]) (rest := [.int (nI j), .ref row]) ⟨hx, hb, hml, hown, hts⟩ (c_X10_at l D cI cS row n g3_row (nI (j - 1)) hn) (va_cwS 2 hts gX10_insertInto_X10_at rfl rfl rfl (by decide +kernel) ⟨Nat.le_of_ble_eq_true rfl, Nat.le_of_ble_eq_true rfl⟩) (ft_preRO hP hKK [0] rfl) rfl rfl hl.1 rfl (lv_room (Nat.le_of_ble_eq_true rfl)) dX10_insertInto_17 ⟨Nat.le_of_ble_eq_true rfl, Nat.le_of_ble_eq_true rfl⟩) ?_
        refine ft_top (y := g3_row (j - 1)) (ftAt_N (by omega) (by omega)) ?_
        refine ft_cv (wc := [(row, .inl (cI, n, .inl g3_row))]) (wr := []) (w1 := [(row, .inl (cI, n, .inl (ftPut n g3_row (nI j) (g3_row (j - 1)))))]) (ws1 := [(row, .inl (cI, n, .inl (ftPut n g3_row (nI j) (g3_row (j - 1)))))]) (va_runS (As := [.ref row, .int (nI j), .int (g3_row (j - 1))]) (rest := []) ⟨hx, hb, hml, hown, hts⟩ (c_X10_put l D cI cS H.size row n g3_row (nI j) (g3_row (j - 1)) hn) (va_cwS 3 hts gX10_insertInto_X10_put rfl rfl rfl (by decide +kernel) ⟨Nat.le_of_ble_eq_true rfl, Nat.le_of_ble_eq_true rfl⟩) (ft_preRW hP hD hKK [0] rfl rfl rfl) rfl rfl hl.1 rfl (lv_room (Nat.le_of_ble_eq_true rfl)) dX10_insertInto_20 ⟨Nat.le_of_ble_eq_true rfl, Nat.le_of_ble_eq_true rfl⟩) hP hD hS hA [0] [] [0] rfl rfl (by decide) (by decide) (by decide) rfl rfl (fun H locs hP hD hS => ?_)
        rw [ftPut_N (k := j) (by omega) (by omega)] at hP hD
        have hP : va_P D vwCl [(row, .inl (cI, n, .inl (upd g3_row j (g3_row (j - 1)))))] H := hP
        have hD : va_D A [(row, .inl (cI, n, .inl (upd g3_row j (g3_row (j - 1)))))] := hD
        refine lv_iinc (v := nI (j - 1)) (lv' := [(4, .int (nI (j - 1))), (0, .ref row), (1, .int (nI u)), (2, .int (nI k)), (3, .int x)]) hx hb dX10_insertInto_23 hl (k := 4) rfl (ft_dec (by omega)) (by decide) rfl (fun ls hl => ?_)
        refine lv_goto (tgt := 3) hx hb dX10_insertInto_26 (by decide) ?_
        exact ih3 (j - 1) (nI (j - 1)) (upd g3_row j (g3_row (j - 1))) (by omega) (by omega) (by omega) (by first | rfl | assumption) (by rw [eg3_row]; exact ftInsG_s (by omega) hju) _ _ hP hD hS ls (lv_sub hl [1, 2, 3, 4, 0] rfl)
  exact lp3 _ u (nI u) f (Nat.lt_succ_self _) (by omega) (by omega) (by rfl) (by exact ftInsG_0 f u) _ _ hP hD hS ls (lv_sub hl [1, 2, 3, 4, 0] rfl)
set_option maxHeartbeats 4000000 in
set_option maxRecDepth 100000 in
theorem c_X10_removeFrom (l : Launch) (D : va_G) (cI cS : ClassId) (sz : Nat) (row n : Nat) (f : Nat → Int32) (u k : Nat) (hn : n < 2 ^ 31) (hku : k < u) (hun : u ≤ n) : Met l yX10_removeFrom wsX10_removeFrom ({ frames := 1, cells := 0, slots := 0, locals := 22 }) (ftRW D cI cS [.ref row, .int (nI u), .int (nI k)] [(row, .inl (cI, n, .inl f))] sz) (ftQv D [(row, .inl (cI, n, .inl f))] [(row, .inl (cI, n, .inl (ftRem f u k)))] sz) 0 0 (va_A [(row, .inl (cI, n, .inl f))] sz) := by
  refine Met.ofW (cc := cX10_removeFrom) (maxL := 4) (ret := none) (by decide) rfl ?_
  intro p e s m args below meth c s₁ B hml hv
  obtain ⟨rfl, hsz, hP, hKK, hD0⟩ := hv
  have hK := hKK.1
  have hx := B.exec
  have hb := B.bytes
  have hr := B.returns
  have hts := atoms_spec (ws := wsX10_removeFrom) B.pre
  have hown : s.vm.findClass RX10 = some m.cls := findClass_of_methodNamed B.named
  have hlocks := B.notSynchronized
  subst hsz
  have hD := hD0.self (sz := s.heap.size)
  generalize hAe : va_A [(row, .inl (cI, n, .inl f))] s.heap.size = A at hD ⊢
  have hA : ∀ q : Nat, s.heap.size ≤ q → A q := fun q h => by rw [← hAe]; exact Or.inr h
  have hS : va_S A s.heap s.heap [] := va_S.rf
  have hD : va_D A [(row, .inl (cI, n, .inl f))] := hD
  have hP : va_P D vwCl [(row, .inl (cI, n, .inl f))] s.heap := hP
  have hl := lv_entry ([.ref row, .int (nI u), .int (nI k)]) (n := 4) (Nat.le_of_ble_eq_true rfl)
  rw [lg_entry_eq]
  generalize (lg_sl ([.ref row, .int (nI u), .int (nI k)]) ++ List.replicate (4 - (lg_sl ([.ref row, .int (nI u), .int (nI k)])).length) Slot.unset).toArray = ls at hl ⊢
  have hl : lv_has ls 4 [(0, .ref row), (1, .int (nI u)), (2, .int (nI k))] := hl
  refine lv_iload_n hx hb dX10_removeFrom_0 rfl (lv_at hl 2 rfl) ?_
  refine lv_istore_n (lv' := [(3, .int (nI k)), (0, .ref row), (1, .int (nI u)), (2, .int (nI k))]) hx hb dX10_removeFrom_1 rfl hl (by decide) rfl (fun ls hl => ?_)
  have lp2 : ∀ (n2 : Nat) (j : Nat) (x2_3 : Int32) (g2_row : Nat → Int32), u - j < n2 → (k ≤ j) → (j + 1 ≤ u) → x2_3 = nI j → g2_row = ftRemG f k j → ∀ (H : Heap) (locs : List Loc), va_P D vwCl [(row, .inl (cI, n, .inl g2_row))] H → va_D A [(row, .inl (cI, n, .inl g2_row))] → va_S A s.heap H locs → ∀ ls : Array Slot, lv_has ls 4 [(0, .ref row), (1, .int (nI u)), (2, .int (nI k)), (3, .int x2_3)] → W p l e (headSpec wsX10_removeFrom { frames := 1, cells := 0, slots := 0, locals := 22 }).room s m ([.ref row, .int (nI u), .int (nI k)] : List Value).toArray below meth c H locs 0 0 (MQ below (ftQv D [(row, .inl (cI, n, .inl f))] [(row, .inl (cI, n, .inl (ftRem f u k)))] s.heap.size) ([.ref row, .int (nI u), .int (nI k)] : List Value).toArray s 0 0 A) (F0 m 2 ls []) := by
    intro n2
    induction n2 with
    | zero =>
      intro j x2_3 g2_row hm2
      exact absurd hm2 (Nat.not_lt_zero _)
    | succ n2 ih2 =>
      intro j x2_3 g2_row hm2 hkj hju ex2_3 eg2_row H locs hP hD hS ls hl
      subst ex2_3
      refine lv_iload_n hx hb dX10_removeFrom_2 rfl (lv_at hl 3 rfl) ?_
      refine lv_iload_n hx hb dX10_removeFrom_3 rfl (lv_at hl 1 rfl) ?_
      refine lv_iconst (v := 1) hx hb dX10_removeFrom_4 (by decide) ?_
      refine lv_isub hx hb dX10_removeFrom_5 ?_
      refine ft_top (y := nI (u - 1)) (ft_subN (a := u) (b := 1) (by omega)) ?_
      refine lv_icmp_ge (tgt := 27) hx hb dX10_removeFrom_6 (by decide) (fun c6 => ?_) (fun c6 => ?_)
      · have c6n : (u - 1) ≤ j := ft_leN (by omega) (by omega) c6
        have hw9 : ([(row, .inl (cI, n, .inl g2_row))] : va_W) = [(row, .inl (cI, n, .inl (ftRem f u k)))] := by rw [eg2_row, ftRemG_e (u := u) (by omega) hju]
        rw [hw9] at hP hD
        exact W.vret hx hb hr (fun t ht hW => ⟨⟨(), rfl, trivial, by rw [ht]; exact hP, by rw [hAe]; exact hD⟩, by rw [hAe]; exact hS.F ht⟩) hS.2.2 dX10_removeFrom_27
      · have c6n : j < (u - 1) := ft_nleN (by omega) (by omega) c6
        refine lv_aload_n hx hb dX10_removeFrom_9 rfl (lv_at hl 0 rfl) ?_
        refine lv_iload_n hx hb dX10_removeFrom_10 rfl (lv_at hl 3 rfl) ?_
        refine lv_aload_n hx hb dX10_removeFrom_11 rfl (lv_at hl 0 rfl) ?_
        refine lv_iload_n hx hb dX10_removeFrom_12 rfl (lv_at hl 3 rfl) ?_
        refine lv_iconst (v := 1) hx hb dX10_removeFrom_13 (by decide) ?_
        refine lv_iadd hx hb dX10_removeFrom_14 ?_
        refine ft_top (y := nI (j + 1)) (ft_addN j 1) ?_
        refine ft_csi (r := ftAt n g2_row (nI (j + 1))) (va_runS (As := [.ref row, .int (nI (j + 1))]) (rest := [.int (nI j), .ref row]) ⟨hx, hb, hml, hown, hts⟩ (c_X10_at l D cI cS row n g2_row (nI (j + 1)) hn) (va_cwS 2 hts gX10_removeFrom_X10_at rfl rfl rfl (by decide +kernel) ⟨Nat.le_of_ble_eq_true rfl, Nat.le_of_ble_eq_true rfl⟩) (ft_preRO hP hKK [0] rfl) rfl rfl hl.1 rfl (lv_room (Nat.le_of_ble_eq_true rfl)) dX10_removeFrom_15 ⟨Nat.le_of_ble_eq_true rfl, Nat.le_of_ble_eq_true rfl⟩) ?_
        refine ft_top (y := g2_row (j + 1)) (ftAt_N (by omega) (by omega)) ?_
        refine ft_cv (wc := [(row, .inl (cI, n, .inl g2_row))]) (wr := []) (w1 := [(row, .inl (cI, n, .inl (ftPut n g2_row (nI j) (g2_row (j + 1)))))]) (ws1 := [(row, .inl (cI, n, .inl (ftPut n g2_row (nI j) (g2_row (j + 1)))))]) (va_runS (As := [.ref row, .int (nI j), .int (g2_row (j + 1))]) (rest := []) ⟨hx, hb, hml, hown, hts⟩ (c_X10_put l D cI cS H.size row n g2_row (nI j) (g2_row (j + 1)) hn) (va_cwS 3 hts gX10_removeFrom_X10_put rfl rfl rfl (by decide +kernel) ⟨Nat.le_of_ble_eq_true rfl, Nat.le_of_ble_eq_true rfl⟩) (ft_preRW hP hD hKK [0] rfl rfl rfl) rfl rfl hl.1 rfl (lv_room (Nat.le_of_ble_eq_true rfl)) dX10_removeFrom_18 ⟨Nat.le_of_ble_eq_true rfl, Nat.le_of_ble_eq_true rfl⟩) hP hD hS hA [0] [] [0] rfl rfl (by decide) (by decide) (by decide) rfl rfl (fun H locs hP hD hS => ?_)
        rw [ftPut_N (k := j) (by omega) (by omega)] at hP hD
        have hP : va_P D vwCl [(row, .inl (cI, n, .inl (upd g2_row j (g2_row (j + 1)))))] H := hP
        have hD : va_D A [(row, .inl (cI, n, .inl (upd g2_row j (g2_row (j + 1)))))] := hD
        refine lv_iinc (v := nI (j + 1)) (lv' := [(3, .int (nI (j + 1))), (0, .ref row), (1, .int (nI u)), (2, .int (nI k))]) hx hb dX10_removeFrom_21 hl (k := 3) rfl (ft_inc j) (by decide) rfl (fun ls hl => ?_)
        refine lv_goto (tgt := 2) hx hb dX10_removeFrom_24 (by decide) ?_
        exact ih2 (j + 1) (nI (j + 1)) (upd g2_row j (g2_row (j + 1))) (by omega) (by omega) (by omega) (by first | rfl | assumption) (by rw [eg2_row]; exact ftRemG_s hkj) _ _ hP hD hS ls (lv_sub hl [1, 2, 3, 0] rfl)
  exact lp2 _ k (nI k) f (Nat.lt_succ_self _) (by omega) (by omega) (by rfl) (by exact ftRemG_0 f k) _ _ hP hD hS ls (lv_sub hl [1, 2, 3, 0] rfl)
set_option maxHeartbeats 4000000 in
set_option maxRecDepth 100000 in
theorem c_X10_sum (l : Launch) (D : va_G) (cI cS : ClassId) (row n : Nat) (f : Nat → Int32) (u : Nat) (hn : n < 2 ^ 31) (hun : u ≤ n) : Met l yX10_sum wsX10_sum ({ frames := 1, cells := 0, slots := 0, locals := 21 }) (ftRO D cI cS [.ref row, .int (nI u)] [(row, .inl (cI, n, .inl f))]) (vp_Si (fun o9 => o9 = ftSum f u)) 0 0 (fun _ => False) := by
  refine Met.ofW (cc := cX10_sum) (maxL := 4) (ret := (some .int)) (by decide) rfl ?_
  intro p e s m args below meth c s₁ B hml hv
  obtain ⟨rfl, hP, hKK⟩ := hv
  have hK := hKK.1
  have hx := B.exec
  have hb := B.bytes
  have hr := B.returns
  have hts := atoms_spec (ws := wsX10_sum) B.pre
  have hown : s.vm.findClass RX10 = some m.cls := findClass_of_methodNamed B.named
  have hlocks := B.notSynchronized
  have hP : va_P D vwCl [(row, .inl (cI, n, .inl f))] s.heap := hP
  have hl := lv_entry ([.ref row, .int (nI u)]) (n := 4) (Nat.le_of_ble_eq_true rfl)
  rw [lg_entry_eq]
  generalize (lg_sl ([.ref row, .int (nI u)]) ++ List.replicate (4 - (lg_sl ([.ref row, .int (nI u)])).length) Slot.unset).toArray = ls at hl ⊢
  have hl : lv_has ls 4 [(0, .ref row), (1, .int (nI u))] := hl
  refine lv_iconst (v := 0) hx hb dX10_sum_0 (by decide) ?_
  refine lv_istore_n (lv' := [(2, .int 0), (0, .ref row), (1, .int (nI u))]) hx hb dX10_sum_1 rfl hl (by decide) rfl (fun ls hl => ?_)
  refine lv_iconst (v := 0) hx hb dX10_sum_2 (by decide) ?_
  refine lv_istore_n (lv' := [(3, .int 0), (2, .int 0), (0, .ref row), (1, .int (nI u))]) hx hb dX10_sum_3 rfl hl (by decide) rfl (fun ls hl => ?_)
  have lp4 : ∀ (n4 : Nat) (i : Nat) (x4_2 : Int32) (x4_3 : Int32), u - i < n4 → (i ≤ u) → x4_2 = ftSum f i → x4_3 = nI i → ∀ ls : Array Slot, lv_has ls 4 [(0, .ref row), (1, .int (nI u)), (2, .int x4_2), (3, .int x4_3)] → W p l e (headSpec wsX10_sum { frames := 1, cells := 0, slots := 0, locals := 21 }).room s m ([.ref row, .int (nI u)] : List Value).toArray below meth c s.heap [] 0 0 (MQ below (vp_Si (fun o9 => o9 = ftSum f u)) ([.ref row, .int (nI u)] : List Value).toArray s 0 0 (fun _ => False)) (F0 m 4 ls []) := by
    intro n4
    induction n4 with
    | zero =>
      intro i x4_2 x4_3  hm4
      exact absurd hm4 (Nat.not_lt_zero _)
    | succ n4 ih4 =>
      intro i x4_2 x4_3  hm4 hiu ex4_2 ex4_3  ls hl
      subst ex4_3
      refine lv_iload_n hx hb dX10_sum_4 rfl (lv_at hl 3 rfl) ?_
      refine lv_iload_n hx hb dX10_sum_5 rfl (lv_at hl 1 rfl) ?_
      refine lv_icmp_ge (tgt := 23) hx hb dX10_sum_6 (by decide) (fun c6 => ?_) (fun c6 => ?_)
      · have c6n : u ≤ i := ft_leN (by omega) (by omega) c6
        refine lv_iload_n hx hb dX10_sum_23 rfl (lv_at hl 2 rfl) ?_
        exact W.iret (v := x4_2) hx hb hr (fun t ht hW => ⟨x4_2, rfl, (by show (x4_2 : Int32) = ftSum f u; (obtain rfl : i = u := by omega); exact ex4_2), ht⟩) (fun _ h9 => absurd h9 List.not_mem_nil) dX10_sum_24
      · have c6n : i < u := ft_nleN (by omega) (by omega) c6
        refine lv_iload_n hx hb dX10_sum_9 rfl (lv_at hl 2 rfl) ?_
        refine lv_aload_n hx hb dX10_sum_10 rfl (lv_at hl 0 rfl) ?_
        refine lv_iload_n hx hb dX10_sum_11 rfl (lv_at hl 3 rfl) ?_
        refine ft_csi (r := ftAt n f (nI i)) (va_runS (As := [.ref row, .int (nI i)]) (rest := [.int x4_2]) ⟨hx, hb, hml, hown, hts⟩ (c_X10_at l D cI cS row n f (nI i) hn) (va_cwS 2 hts gX10_sum_X10_at rfl rfl rfl (by decide +kernel) ⟨Nat.le_of_ble_eq_true rfl, Nat.le_of_ble_eq_true rfl⟩) (ft_preRO hP hKK [0] rfl) rfl rfl hl.1 rfl (lv_room (Nat.le_of_ble_eq_true rfl)) dX10_sum_12 ⟨Nat.le_of_ble_eq_true rfl, Nat.le_of_ble_eq_true rfl⟩) ?_
        refine ft_top (y := f i) (ftAt_N (by omega) (by omega)) ?_
        refine lv_iadd hx hb dX10_sum_15 ?_
        refine lv_istore_n (lv' := [(2, .int (x4_2 + (f i))), (0, .ref row), (1, .int (nI u)), (3, .int (nI i))]) hx hb dX10_sum_16 rfl hl (by decide) rfl (fun ls hl => ?_)
        refine lv_iinc (v := nI (i + 1)) (lv' := [(3, .int (nI (i + 1))), (2, .int (x4_2 + (f i))), (0, .ref row), (1, .int (nI u))]) hx hb dX10_sum_17 hl (k := 3) rfl (ft_inc i) (by decide) rfl (fun ls hl => ?_)
        refine lv_goto (tgt := 4) hx hb dX10_sum_20 (by decide) ?_
        exact ih4 (i + 1) (x4_2 + (f i)) (nI (i + 1))  (by omega) (by omega) (by rw [ex4_2]; rfl) (by first | rfl | assumption)  ls (lv_sub hl [2, 3, 1, 0] rfl)
  exact lp4 _ 0 0 0  (Nat.lt_succ_self _) (by omega) (by rfl) (by rfl) ls (lv_sub hl [2, 3, 1, 0] rfl)
end
