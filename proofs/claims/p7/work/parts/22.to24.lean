section
theorem dX11_peakOf_10 : decode cX11_peakOf 10 = .ok (.iadd, 1) := by decide +kernel
theorem dX11_peakOf_11 : decode cX11_peakOf 11 = .ok (.istore 4, 2) := by decide +kernel
theorem dX11_peakOf_13 : decode cX11_peakOf 13 = .ok (.iload 4, 2) := by decide +kernel
theorem dX11_peakOf_15 : decode cX11_peakOf 15 = .ok (.ifCond .gt 7, 3) := by decide +kernel
theorem dX11_peakOf_18 : decode cX11_peakOf 18 = .ok (.iload_n 2, 1) := by decide +kernel
theorem dX11_peakOf_19 : decode cX11_peakOf 19 = .ok (.goto 13, 3) := by decide +kernel
theorem dX11_peakOf_22 : decode cX11_peakOf 22 = .ok (.iload_n 2, 1) := by decide +kernel
theorem dX11_peakOf_23 : decode cX11_peakOf 23 = .ok (.aload_n 0, 1) := by decide +kernel
theorem dX11_peakOf_24 : decode cX11_peakOf 24 = .ok (.iconst 1, 1) := by decide +kernel
theorem dX11_peakOf_25 : decode cX11_peakOf 25 = .ok (.invokevirtual 194, 3) := by decide +kernel
theorem dX11_peakOf_28 : decode cX11_peakOf 28 = .ok (.iload 4, 2) := by decide +kernel
theorem dX11_peakOf_30 : decode cX11_peakOf 30 = .ok (.imul, 1) := by decide +kernel
theorem dX11_peakOf_31 : decode cX11_peakOf 31 = .ok (.isub, 1) := by decide +kernel
theorem dX11_peakOf_32 : decode cX11_peakOf 32 = .ok (.istore 5, 2) := by decide +kernel
theorem dX11_peakOf_34 : decode cX11_peakOf 34 = .ok (.iload_n 3, 1) := by decide +kernel
theorem dX11_peakOf_35 : decode cX11_peakOf 35 = .ok (.iload_n 1, 1) := by decide +kernel
theorem dX11_peakOf_36 : decode cX11_peakOf 36 = .ok (.if_icmp .lt 8, 3) := by decide +kernel
theorem dX11_peakOf_39 : decode cX11_peakOf 39 = .ok (.iload 5, 2) := by decide +kernel
theorem dX11_peakOf_41 : decode cX11_peakOf 41 = .ok (.ifCond .ge 7, 3) := by decide +kernel
theorem dX11_peakOf_44 : decode cX11_peakOf 44 = .ok (.iconst 0, 1) := by decide +kernel
theorem dX11_peakOf_45 : decode cX11_peakOf 45 = .ok (.goto 5, 3) := by decide +kernel
theorem dX11_peakOf_48 : decode cX11_peakOf 48 = .ok (.iload 5, 2) := by decide +kernel
theorem dX11_peakOf_50 : decode cX11_peakOf 50 = .ok (.ireturn, 1) := by decide +kernel
theorem ggX11_layNoise_X11_setting : GoodIn wsX11_layNoise wsX11_setting := goodIn_sub (fun w h => (List.mem_cons.mp h).elim (fun e => ft_me e (List.mem_cons_of_mem _ (List.mem_append_left _ (List.mem_of_getElem? (i := 6) rfl)))) (fun h => (List.mem_append.mp h).elim (fun h => (List.forall_mem_cons.mpr ⟨(List.mem_cons_of_mem _ (List.mem_append_left _ (List.mem_of_getElem? (i := 7) rfl))), fun _ h => absurd h List.not_mem_nil⟩) w h) (fun h => k_wsX11_layNoise_wsX110 w h))) gw_wsX11_setting
theorem gX11_layNoise_X11_setting : GoodIn wsX11_layNoise (wsV RX11 194 RX11 yX11_setting wsX11_setting) := goodIn_app (goodIn_sub (List.forall_mem_cons.mpr ⟨(List.mem_cons_of_mem _ (List.mem_append_left _ (List.mem_of_getElem? (i := 2) rfl))), List.forall_mem_cons.mpr ⟨(List.mem_cons_of_mem _ (List.mem_append_left _ (List.mem_of_getElem? (i := 3) rfl))), List.forall_mem_cons.mpr ⟨(List.mem_cons_of_mem _ (List.mem_append_left _ (List.mem_of_getElem? (i := 4) rfl))), List.forall_mem_cons.mpr ⟨(List.mem_cons_of_mem _ (List.mem_append_left _ (List.mem_of_getElem? (i := 5) rfl))), fun _ h => absurd h List.not_mem_nil⟩⟩⟩⟩) (by decide +kernel)) ggX11_layNoise_X11_setting
theorem ggX11_layNoise_X11_samples : GoodIn wsX11_layNoise wsX11_samples := goodIn_sub (fun w h => (List.mem_cons.mp h).elim (fun e => ft_me e (List.mem_cons_of_mem _ (List.mem_append_left _ (List.mem_of_getElem? (i := 11) rfl)))) (fun h => (List.mem_append.mp h).elim (fun h => (List.forall_mem_cons.mpr ⟨(List.mem_cons_of_mem _ (List.mem_append_left _ (List.mem_of_getElem? (i := 7) rfl))), fun _ h => absurd h List.not_mem_nil⟩) w h) (fun h => k_wsX11_layNoise_wsX110 w h))) gw_wsX11_samples
theorem gX11_layNoise_X11_samples : GoodIn wsX11_layNoise (wsV RX11 199 RX11 yX11_samples wsX11_samples) := goodIn_app (goodIn_sub (List.forall_mem_cons.mpr ⟨(List.mem_cons_of_mem _ (List.mem_append_left _ (List.mem_of_getElem? (i := 8) rfl))), List.forall_mem_cons.mpr ⟨(List.mem_cons_of_mem _ (List.mem_append_left _ (List.mem_of_getElem? (i := 9) rfl))), List.forall_mem_cons.mpr ⟨(List.mem_cons_of_mem _ (List.mem_append_left _ (List.mem_of_getElem? (i := 10) rfl))), List.forall_mem_cons.mpr ⟨(List.mem_cons_of_mem _ (List.mem_append_left _ (List.mem_of_getElem? (i := 5) rfl))), fun _ h => absurd h List.not_mem_nil⟩⟩⟩⟩) (by decide +kernel)) ggX11_layNoise_X11_samples
theorem dX11_layNoise_0 : decode cX11_layNoise 0 = .ok (.aload_n 0, 1) := by decide +kernel
theorem dX11_layNoise_1 : decode cX11_layNoise 1 = .ok (.iconst 5, 1) := by decide +kernel
theorem dX11_layNoise_2 : decode cX11_layNoise 2 = .ok (.invokevirtual 194, 3) := by decide +kernel
theorem dX11_layNoise_5 : decode cX11_layNoise 5 = .ok (.istore_n 1, 1) := by decide +kernel
theorem dX11_layNoise_6 : decode cX11_layNoise 6 = .ok (.aload_n 0, 1) := by decide +kernel
theorem dX11_layNoise_7 : decode cX11_layNoise 7 = .ok (.iconst 3, 1) := by decide +kernel
theorem dX11_layNoise_8 : decode cX11_layNoise 8 = .ok (.invokevirtual 194, 3) := by decide +kernel
theorem dX11_layNoise_11 : decode cX11_layNoise 11 = .ok (.istore_n 2, 1) := by decide +kernel
theorem dX11_layNoise_12 : decode cX11_layNoise 12 = .ok (.iconst 0, 1) := by decide +kernel
theorem dX11_layNoise_13 : decode cX11_layNoise 13 = .ok (.istore_n 3, 1) := by decide +kernel
theorem dX11_layNoise_14 : decode cX11_layNoise 14 = .ok (.iload_n 3, 1) := by decide +kernel
theorem dX11_layNoise_15 : decode cX11_layNoise 15 = .ok (.aload_n 0, 1) := by decide +kernel
theorem dX11_layNoise_16 : decode cX11_layNoise 16 = .ok (.invokevirtual 199, 3) := by decide +kernel
theorem dX11_layNoise_19 : decode cX11_layNoise 19 = .ok (.if_icmp .ge 74, 3) := by decide +kernel
theorem dX11_layNoise_22 : decode cX11_layNoise 22 = .ok (.iconst 0, 1) := by decide +kernel
theorem dX11_layNoise_23 : decode cX11_layNoise 23 = .ok (.istore 4, 2) := by decide +kernel
theorem dX11_layNoise_25 : decode cX11_layNoise 25 = .ok (.iconst 0, 1) := by decide +kernel
theorem dX11_layNoise_26 : decode cX11_layNoise 26 = .ok (.istore 5, 2) := by decide +kernel
theorem dX11_layNoise_28 : decode cX11_layNoise 28 = .ok (.iload 5, 2) := by decide +kernel
theorem dX11_layNoise_30 : decode cX11_layNoise 30 = .ok (.aload_n 0, 1) := by decide +kernel
theorem dX11_layNoise_31 : decode cX11_layNoise 31 = .ok (.iconst 4, 1) := by decide +kernel
theorem dX11_layNoise_32 : decode cX11_layNoise 32 = .ok (.invokevirtual 194, 3) := by decide +kernel
theorem dX11_layNoise_35 : decode cX11_layNoise 35 = .ok (.if_icmp .ge 38, 3) := by decide +kernel
theorem dX11_layNoise_38 : decode cX11_layNoise 38 = .ok (.iload_n 2, 1) := by decide +kernel
theorem dX11_layNoise_39 : decode cX11_layNoise 39 = .ok (.ifCond .le 34, 3) := by decide +kernel
theorem dX11_layNoise_42 : decode cX11_layNoise 42 = .ok (.iload_n 1, 1) := by decide +kernel
theorem dX11_layNoise_43 : decode cX11_layNoise 43 = .ok (.bipush 75, 2) := by decide +kernel
theorem dX11_layNoise_45 : decode cX11_layNoise 45 = .ok (.imul, 1) := by decide +kernel
theorem dX11_layNoise_46 : decode cX11_layNoise 46 = .ok (.bipush 74, 2) := by decide +kernel
theorem dX11_layNoise_48 : decode cX11_layNoise 48 = .ok (.iadd, 1) := by decide +kernel
theorem dX11_layNoise_49 : decode cX11_layNoise 49 = .ok (.ldc 215, 2) := by decide +kernel
theorem dX11_layNoise_51 : decode cX11_layNoise 51 = .ok (.irem, 1) := by decide +kernel
theorem dX11_layNoise_52 : decode cX11_layNoise 52 = .ok (.istore_n 1, 1) := by decide +kernel
theorem dX11_layNoise_53 : decode cX11_layNoise 53 = .ok (.iload 4, 2) := by decide +kernel
theorem dX11_layNoise_55 : decode cX11_layNoise 55 = .ok (.iload_n 1, 1) := by decide +kernel
theorem dX11_layNoise_56 : decode cX11_layNoise 56 = .ok (.iconst 2, 1) := by decide +kernel
theorem dX11_layNoise_57 : decode cX11_layNoise 57 = .ok (.iload_n 2, 1) := by decide +kernel
theorem dX11_layNoise_58 : decode cX11_layNoise 58 = .ok (.imul, 1) := by decide +kernel
theorem dX11_layNoise_59 : decode cX11_layNoise 59 = .ok (.iconst 1, 1) := by decide +kernel
theorem dX11_layNoise_60 : decode cX11_layNoise 60 = .ok (.iadd, 1) := by decide +kernel
theorem dX11_layNoise_61 : decode cX11_layNoise 61 = .ok (.irem, 1) := by decide +kernel
theorem dX11_layNoise_62 : decode cX11_layNoise 62 = .ok (.iload_n 2, 1) := by decide +kernel
theorem dX11_layNoise_63 : decode cX11_layNoise 63 = .ok (.isub, 1) := by decide +kernel
theorem dX11_layNoise_64 : decode cX11_layNoise 64 = .ok (.iadd, 1) := by decide +kernel
theorem dX11_layNoise_65 : decode cX11_layNoise 65 = .ok (.istore 4, 2) := by decide +kernel
theorem dX11_layNoise_67 : decode cX11_layNoise 67 = .ok (.iinc 5 1, 3) := by decide +kernel
theorem dX11_layNoise_70 : decode cX11_layNoise 70 = .ok (.goto (-42), 3) := by decide +kernel
theorem dX11_layNoise_73 : decode cX11_layNoise 73 = .ok (.aload_n 0, 1) := by decide +kernel
theorem dX11_layNoise_74 : decode cX11_layNoise 74 = .ok (.getfield 31, 3) := by decide +kernel
theorem dX11_layNoise_77 : decode cX11_layNoise 77 = .ok (.iload_n 3, 1) := by decide +kernel
theorem dX11_layNoise_78 : decode cX11_layNoise 78 = .ok (.iload 4, 2) := by decide +kernel
theorem dX11_layNoise_80 : decode cX11_layNoise 80 = .ok (.aload_n 0, 1) := by decide +kernel
theorem dX11_layNoise_81 : decode cX11_layNoise 81 = .ok (.iconst 4, 1) := by decide +kernel
theorem dX11_layNoise_82 : decode cX11_layNoise 82 = .ok (.invokevirtual 194, 3) := by decide +kernel
theorem dX11_layNoise_85 : decode cX11_layNoise 85 = .ok (.idiv, 1) := by decide +kernel
theorem dX11_layNoise_86 : decode cX11_layNoise 86 = .ok (.iastore, 1) := by decide +kernel
theorem dX11_layNoise_87 : decode cX11_layNoise 87 = .ok (.iinc 3 1, 3) := by decide +kernel
theorem dX11_layNoise_90 : decode cX11_layNoise 90 = .ok (.goto (-76), 3) := by decide +kernel
theorem dX11_layNoise_93 : decode cX11_layNoise 93 = .ok (.return_, 1) := by decide +kernel
theorem ggX11_layTrace_X11_layFlashes : GoodIn wsX11_layTrace wsX11_layFlashes := goodIn_sub (fun w h => (List.mem_cons.mp h).elim (fun e => ft_me e (k_wsX11_layTrace_wsX11_layTrace_r1 _ (List.mem_of_getElem? (i := 14) rfl))) (fun h => (List.mem_append.mp h).elim (fun h => (List.forall_mem_cons.mpr ⟨(k_wsX11_layTrace_wsX11_layTrace_r1 _ (List.mem_of_getElem? (i := 4) rfl)), List.forall_mem_cons.mpr ⟨(k_wsX11_layTrace_wsX11_layTrace_r1 _ (List.mem_of_getElem? (i := 2) rfl)), List.forall_mem_cons.mpr ⟨(k_wsX11_layTrace_wsX11_layTrace_r1 _ (List.mem_of_getElem? (i := 5) rfl)), List.forall_mem_cons.mpr ⟨(k_wsX11_layTrace_wsX11_layTrace_r1 _ (List.mem_of_getElem? (i := 6) rfl)), List.forall_mem_cons.mpr ⟨(k_wsX11_layTrace_wsX11_layTrace_r1 _ (List.mem_of_getElem? (i := 7) rfl)), List.forall_mem_cons.mpr ⟨(k_wsX11_layTrace_wsX11_layTrace_r1 _ (List.mem_of_getElem? (i := 15) rfl)), List.forall_mem_cons.mpr ⟨(k_wsX11_layTrace_wsX11_layTrace_r1 _ (List.mem_of_getElem? (i := 16) rfl)), List.forall_mem_cons.mpr ⟨(k_wsX11_layTrace_wsX11_layTrace_r1 _ (List.mem_of_getElem? (i := 17) rfl)), List.forall_mem_cons.mpr ⟨(k_wsX11_layTrace_wsX11_layTrace_r1 _ (List.mem_of_getElem? (i := 13) rfl)), List.forall_mem_cons.mpr ⟨(k_wsX11_layTrace_wsX11_layTrace_r1 _ (List.mem_of_getElem? (i := 18) rfl)), List.forall_mem_cons.mpr ⟨(k_wsX11_layTrace_wsX11_layTrace_r1 _ (List.mem_of_getElem? (i := 19) rfl)), List.forall_mem_cons.mpr ⟨(k_wsX11_layTrace_wsX11_layTrace_r1 _ (List.mem_of_getElem? (i := 20) rfl)), List.forall_mem_cons.mpr ⟨(k_wsX11_layTrace_wsX11_layTrace_r1 _ (List.mem_of_getElem? (i := 21) rfl)), List.forall_mem_cons.mpr ⟨(k_wsX11_layTrace_wsX11_layTrace_r1 _ (List.mem_of_getElem? (i := 22) rfl)), List.forall_mem_cons.mpr ⟨(k_wsX11_layTrace_wsX11_layTrace_r1 _ (List.mem_of_getElem? (i := 23) rfl)), List.forall_mem_cons.mpr ⟨(k_wsX11_layTrace_wsX11_layTrace_r2 _ (List.mem_of_getElem? (i := 0) rfl)), List.forall_mem_cons.mpr ⟨(k_wsX11_layTrace_wsX11_layTrace_r2 _ (List.mem_of_getElem? (i := 1) rfl)), List.forall_mem_cons.mpr ⟨(k_wsX11_layTrace_wsX11_layTrace_r2 _ (List.mem_of_getElem? (i := 2) rfl)), List.forall_mem_cons.mpr ⟨(k_wsX11_layTrace_wsX11_layTrace_r1 _ (List.mem_of_getElem? (i := 8) rfl)), List.forall_mem_cons.mpr ⟨(k_wsX11_layTrace_wsX11_layTrace_r2 _ (List.mem_of_getElem? (i := 3) rfl)), List.forall_mem_cons.mpr ⟨(k_wsX11_layTrace_wsX11_layTrace_r1 _ (List.mem_of_getElem? (i := 9) rfl)), List.forall_mem_cons.mpr ⟨(k_wsX11_layTrace_wsX11_layTrace_r2 _ (List.mem_of_getElem? (i := 4) rfl)), fun _ h => absurd h List.not_mem_nil⟩⟩⟩⟩⟩⟩⟩⟩⟩⟩⟩⟩⟩⟩⟩⟩⟩⟩⟩⟩⟩⟩) w h) (fun h => k_wsX11_layTrace_wsX110 w h))) gw_wsX11_layFlashes
theorem gX11_layTrace_X11_layFlashes : GoodIn wsX11_layTrace (wsV RX11 216 RX11 yX11_layFlashes wsX11_layFlashes) := goodIn_app (goodIn_sub (List.forall_mem_cons.mpr ⟨(k_wsX11_layTrace_wsX11_layTrace_r1 _ (List.mem_of_getElem? (i := 10) rfl)), List.forall_mem_cons.mpr ⟨(k_wsX11_layTrace_wsX11_layTrace_r1 _ (List.mem_of_getElem? (i := 11) rfl)), List.forall_mem_cons.mpr ⟨(k_wsX11_layTrace_wsX11_layTrace_r1 _ (List.mem_of_getElem? (i := 12) rfl)), List.forall_mem_cons.mpr ⟨(k_wsX11_layTrace_wsX11_layTrace_r1 _ (List.mem_of_getElem? (i := 13) rfl)), fun _ h => absurd h List.not_mem_nil⟩⟩⟩⟩) (by decide +kernel)) ggX11_layTrace_X11_layFlashes
theorem ggX11_layTrace_X11_layNoise : GoodIn wsX11_layTrace wsX11_layNoise := goodIn_sub (fun w h => (List.mem_cons.mp h).elim (fun e => ft_me e (k_wsX11_layTrace_wsX11_layTrace_r2 _ (List.mem_of_getElem? (i := 8) rfl))) (fun h => (List.mem_append.mp h).elim (fun h => (List.forall_mem_cons.mpr ⟨(k_wsX11_layTrace_wsX11_layTrace_r2 _ (List.mem_of_getElem? (i := 9) rfl)), List.forall_mem_cons.mpr ⟨(k_wsX11_layTrace_wsX11_layTrace_r2 _ (List.mem_of_getElem? (i := 10) rfl)), List.forall_mem_cons.mpr ⟨(k_wsX11_layTrace_wsX11_layTrace_r1 _ (List.mem_of_getElem? (i := 19) rfl)), List.forall_mem_cons.mpr ⟨(k_wsX11_layTrace_wsX11_layTrace_r1 _ (List.mem_of_getElem? (i := 20) rfl)), List.forall_mem_cons.mpr ⟨(k_wsX11_layTrace_wsX11_layTrace_r1 _ (List.mem_of_getElem? (i := 21) rfl)), List.forall_mem_cons.mpr ⟨(k_wsX11_layTrace_wsX11_layTrace_r1 _ (List.mem_of_getElem? (i := 13) rfl)), List.forall_mem_cons.mpr ⟨(k_wsX11_layTrace_wsX11_layTrace_r1 _ (List.mem_of_getElem? (i := 22) rfl)), List.forall_mem_cons.mpr ⟨(k_wsX11_layTrace_wsX11_layTrace_r1 _ (List.mem_of_getElem? (i := 2) rfl)), List.forall_mem_cons.mpr ⟨(k_wsX11_layTrace_wsX11_layTrace_r2 _ (List.mem_of_getElem? (i := 11) rfl)), List.forall_mem_cons.mpr ⟨(k_wsX11_layTrace_wsX11_layTrace_r2 _ (List.mem_of_getElem? (i := 12) rfl)), List.forall_mem_cons.mpr ⟨(k_wsX11_layTrace_wsX11_layTrace_r2 _ (List.mem_of_getElem? (i := 13) rfl)), List.forall_mem_cons.mpr ⟨(k_wsX11_layTrace_wsX11_layTrace_r2 _ (List.mem_of_getElem? (i := 14) rfl)), fun _ h => absurd h List.not_mem_nil⟩⟩⟩⟩⟩⟩⟩⟩⟩⟩⟩⟩) w h) (fun h => k_wsX11_layTrace_wsX110 w h))) gw_wsX11_layNoise
theorem gX11_layTrace_X11_layNoise : GoodIn wsX11_layTrace (wsV RX11 219 RX11 yX11_layNoise wsX11_layNoise) := goodIn_app (goodIn_sub (List.forall_mem_cons.mpr ⟨(k_wsX11_layTrace_wsX11_layTrace_r2 _ (List.mem_of_getElem? (i := 5) rfl)), List.forall_mem_cons.mpr ⟨(k_wsX11_layTrace_wsX11_layTrace_r2 _ (List.mem_of_getElem? (i := 6) rfl)), List.forall_mem_cons.mpr ⟨(k_wsX11_layTrace_wsX11_layTrace_r2 _ (List.mem_of_getElem? (i := 7) rfl)), List.forall_mem_cons.mpr ⟨(k_wsX11_layTrace_wsX11_layTrace_r1 _ (List.mem_of_getElem? (i := 13) rfl)), fun _ h => absurd h List.not_mem_nil⟩⟩⟩⟩) (by decide +kernel)) ggX11_layTrace_X11_layNoise
theorem ggX11_layTrace_X11_samples : GoodIn wsX11_layTrace wsX11_samples := goodIn_sub (fun w h => (List.mem_cons.mp h).elim (fun e => ft_me e (k_wsX11_layTrace_wsX11_layTrace_r2 _ (List.mem_of_getElem? (i := 14) rfl))) (fun h => (List.mem_append.mp h).elim (fun h => (List.forall_mem_cons.mpr ⟨(k_wsX11_layTrace_wsX11_layTrace_r1 _ (List.mem_of_getElem? (i := 2) rfl)), fun _ h => absurd h List.not_mem_nil⟩) w h) (fun h => k_wsX11_layTrace_wsX110 w h))) gw_wsX11_samples
theorem gX11_layTrace_X11_samples : GoodIn wsX11_layTrace (wsV RX11 199 RX11 yX11_samples wsX11_samples) := goodIn_app (goodIn_sub (List.forall_mem_cons.mpr ⟨(k_wsX11_layTrace_wsX11_layTrace_r2 _ (List.mem_of_getElem? (i := 11) rfl)), List.forall_mem_cons.mpr ⟨(k_wsX11_layTrace_wsX11_layTrace_r2 _ (List.mem_of_getElem? (i := 12) rfl)), List.forall_mem_cons.mpr ⟨(k_wsX11_layTrace_wsX11_layTrace_r2 _ (List.mem_of_getElem? (i := 13) rfl)), List.forall_mem_cons.mpr ⟨(k_wsX11_layTrace_wsX11_layTrace_r1 _ (List.mem_of_getElem? (i := 13) rfl)), fun _ h => absurd h List.not_mem_nil⟩⟩⟩⟩) (by decide +kernel)) ggX11_layTrace_X11_samples
theorem ggX11_layTrace_X11_at : GoodIn wsX11_layTrace wsX11_at := goodIn_sub (fun w h => (List.mem_cons.mp h).elim (fun e => ft_me e (k_wsX11_layTrace_wsX11_layTrace_r1 _ (List.mem_of_getElem? (i := 18) rfl))) (fun h => (List.mem_append.mp h).elim (fun h => (List.forall_mem_cons.mpr ⟨(k_wsX11_layTrace_wsX11_layTrace_r1 _ (List.mem_of_getElem? (i := 2) rfl)), fun _ h => absurd h List.not_mem_nil⟩) w h) (fun h => k_wsX11_layTrace_wsX110 w h))) gw_wsX11_at
theorem gX11_layTrace_X11_at : GoodIn wsX11_layTrace (wsV RX11 177 RX11 yX11_at wsX11_at) := goodIn_app (goodIn_sub (List.forall_mem_cons.mpr ⟨(k_wsX11_layTrace_wsX11_layTrace_r1 _ (List.mem_of_getElem? (i := 15) rfl)), List.forall_mem_cons.mpr ⟨(k_wsX11_layTrace_wsX11_layTrace_r1 _ (List.mem_of_getElem? (i := 16) rfl)), List.forall_mem_cons.mpr ⟨(k_wsX11_layTrace_wsX11_layTrace_r1 _ (List.mem_of_getElem? (i := 17) rfl)), List.forall_mem_cons.mpr ⟨(k_wsX11_layTrace_wsX11_layTrace_r1 _ (List.mem_of_getElem? (i := 13) rfl)), fun _ h => absurd h List.not_mem_nil⟩⟩⟩⟩) (by decide +kernel)) ggX11_layTrace_X11_at
theorem ggX11_layTrace_X11_setting : GoodIn wsX11_layTrace wsX11_setting := goodIn_sub (fun w h => (List.mem_cons.mp h).elim (fun e => ft_me e (k_wsX11_layTrace_wsX11_layTrace_r1 _ (List.mem_of_getElem? (i := 22) rfl))) (fun h => (List.mem_append.mp h).elim (fun h => (List.forall_mem_cons.mpr ⟨(k_wsX11_layTrace_wsX11_layTrace_r1 _ (List.mem_of_getElem? (i := 2) rfl)), fun _ h => absurd h List.not_mem_nil⟩) w h) (fun h => k_wsX11_layTrace_wsX110 w h))) gw_wsX11_setting
theorem gX11_layTrace_X11_setting : GoodIn wsX11_layTrace (wsV RX11 194 RX11 yX11_setting wsX11_setting) := goodIn_app (goodIn_sub (List.forall_mem_cons.mpr ⟨(k_wsX11_layTrace_wsX11_layTrace_r1 _ (List.mem_of_getElem? (i := 19) rfl)), List.forall_mem_cons.mpr ⟨(k_wsX11_layTrace_wsX11_layTrace_r1 _ (List.mem_of_getElem? (i := 20) rfl)), List.forall_mem_cons.mpr ⟨(k_wsX11_layTrace_wsX11_layTrace_r1 _ (List.mem_of_getElem? (i := 21) rfl)), List.forall_mem_cons.mpr ⟨(k_wsX11_layTrace_wsX11_layTrace_r1 _ (List.mem_of_getElem? (i := 13) rfl)), fun _ h => absurd h List.not_mem_nil⟩⟩⟩⟩) (by decide +kernel)) ggX11_layTrace_X11_setting
theorem ggX11_layTrace_X11_fadeAt : GoodIn wsX11_layTrace wsX11_fadeAt := goodIn_sub (fun w h => (List.mem_cons.mp h).elim (fun e => ft_me e (k_wsX11_layTrace_wsX11_layTrace_r2 _ (List.mem_of_getElem? (i := 18) rfl))) (fun h => (List.mem_append.mp h).elim (fun h => (List.forall_mem_cons.mpr ⟨(k_wsX11_layTrace_wsX11_layTrace_r1 _ (List.mem_of_getElem? (i := 2) rfl)), List.forall_mem_cons.mpr ⟨(k_wsX11_layTrace_wsX11_layTrace_r1 _ (List.mem_of_getElem? (i := 15) rfl)), List.forall_mem_cons.mpr ⟨(k_wsX11_layTrace_wsX11_layTrace_r1 _ (List.mem_of_getElem? (i := 16) rfl)), List.forall_mem_cons.mpr ⟨(k_wsX11_layTrace_wsX11_layTrace_r1 _ (List.mem_of_getElem? (i := 17) rfl)), List.forall_mem_cons.mpr ⟨(k_wsX11_layTrace_wsX11_layTrace_r1 _ (List.mem_of_getElem? (i := 13) rfl)), List.forall_mem_cons.mpr ⟨(k_wsX11_layTrace_wsX11_layTrace_r1 _ (List.mem_of_getElem? (i := 18) rfl)), fun _ h => absurd h List.not_mem_nil⟩⟩⟩⟩⟩⟩) w h) (fun h => k_wsX11_layTrace_wsX110 w h))) gw_wsX11_fadeAt
theorem gX11_layTrace_X11_fadeAt : GoodIn wsX11_layTrace (wsV RX11 202 RX11 yX11_fadeAt wsX11_fadeAt) := goodIn_app (goodIn_sub (List.forall_mem_cons.mpr ⟨(k_wsX11_layTrace_wsX11_layTrace_r2 _ (List.mem_of_getElem? (i := 15) rfl)), List.forall_mem_cons.mpr ⟨(k_wsX11_layTrace_wsX11_layTrace_r2 _ (List.mem_of_getElem? (i := 16) rfl)), List.forall_mem_cons.mpr ⟨(k_wsX11_layTrace_wsX11_layTrace_r2 _ (List.mem_of_getElem? (i := 17) rfl)), List.forall_mem_cons.mpr ⟨(k_wsX11_layTrace_wsX11_layTrace_r1 _ (List.mem_of_getElem? (i := 13) rfl)), fun _ h => absurd h List.not_mem_nil⟩⟩⟩⟩) (by decide +kernel)) ggX11_layTrace_X11_fadeAt
theorem ggX11_layTrace_X11_peakOf : GoodIn wsX11_layTrace wsX11_peakOf := goodIn_sub (fun w h => (List.mem_cons.mp h).elim (fun e => ft_me e (k_wsX11_layTrace_wsX11_layTrace_r2 _ (List.mem_of_getElem? (i := 22) rfl))) (fun h => (List.mem_append.mp h).elim (fun h => (List.forall_mem_cons.mpr ⟨(k_wsX11_layTrace_wsX11_layTrace_r1 _ (List.mem_of_getElem? (i := 19) rfl)), List.forall_mem_cons.mpr ⟨(k_wsX11_layTrace_wsX11_layTrace_r1 _ (List.mem_of_getElem? (i := 20) rfl)), List.forall_mem_cons.mpr ⟨(k_wsX11_layTrace_wsX11_layTrace_r1 _ (List.mem_of_getElem? (i := 21) rfl)), List.forall_mem_cons.mpr ⟨(k_wsX11_layTrace_wsX11_layTrace_r1 _ (List.mem_of_getElem? (i := 13) rfl)), List.forall_mem_cons.mpr ⟨(k_wsX11_layTrace_wsX11_layTrace_r1 _ (List.mem_of_getElem? (i := 22) rfl)), List.forall_mem_cons.mpr ⟨(k_wsX11_layTrace_wsX11_layTrace_r1 _ (List.mem_of_getElem? (i := 2) rfl)), fun _ h => absurd h List.not_mem_nil⟩⟩⟩⟩⟩⟩) w h) (fun h => k_wsX11_layTrace_wsX110 w h))) gw_wsX11_peakOf
theorem gX11_layTrace_X11_peakOf : GoodIn wsX11_layTrace (wsV RX11 223 RX11 yX11_peakOf wsX11_peakOf) := goodIn_app (goodIn_sub (List.forall_mem_cons.mpr ⟨(k_wsX11_layTrace_wsX11_layTrace_r2 _ (List.mem_of_getElem? (i := 19) rfl)), List.forall_mem_cons.mpr ⟨(k_wsX11_layTrace_wsX11_layTrace_r2 _ (List.mem_of_getElem? (i := 20) rfl)), List.forall_mem_cons.mpr ⟨(k_wsX11_layTrace_wsX11_layTrace_r2 _ (List.mem_of_getElem? (i := 21) rfl)), List.forall_mem_cons.mpr ⟨(k_wsX11_layTrace_wsX11_layTrace_r1 _ (List.mem_of_getElem? (i := 13) rfl)), fun _ h => absurd h List.not_mem_nil⟩⟩⟩⟩) (by decide +kernel)) ggX11_layTrace_X11_peakOf
theorem dX11_layTrace_0 : decode cX11_layTrace 0 = .ok (.aload_n 0, 1) := by decide +kernel
theorem dX11_layTrace_1 : decode cX11_layTrace 1 = .ok (.invokevirtual 216, 3) := by decide +kernel
theorem dX11_layTrace_4 : decode cX11_layTrace 4 = .ok (.aload_n 0, 1) := by decide +kernel
theorem dX11_layTrace_5 : decode cX11_layTrace 5 = .ok (.invokevirtual 219, 3) := by decide +kernel
theorem dX11_layTrace_8 : decode cX11_layTrace 8 = .ok (.ldc 222, 2) := by decide +kernel
theorem dX11_layTrace_10 : decode cX11_layTrace 10 = .ok (.istore_n 1, 1) := by decide +kernel
theorem dX11_layTrace_11 : decode cX11_layTrace 11 = .ok (.iconst 0, 1) := by decide +kernel
theorem dX11_layTrace_12 : decode cX11_layTrace 12 = .ok (.istore_n 2, 1) := by decide +kernel
theorem dX11_layTrace_13 : decode cX11_layTrace 13 = .ok (.iload_n 2, 1) := by decide +kernel
theorem dX11_layTrace_14 : decode cX11_layTrace 14 = .ok (.aload_n 0, 1) := by decide +kernel
theorem dX11_layTrace_15 : decode cX11_layTrace 15 = .ok (.invokevirtual 199, 3) := by decide +kernel
theorem dX11_layTrace_18 : decode cX11_layTrace 18 = .ok (.if_icmp .ge 276, 3) := by decide +kernel
theorem dX11_layTrace_21 : decode cX11_layTrace 21 = .ok (.aload_n 0, 1) := by decide +kernel
theorem dX11_layTrace_22 : decode cX11_layTrace 22 = .ok (.getfield 25, 3) := by decide +kernel
theorem dX11_layTrace_25 : decode cX11_layTrace 25 = .ok (.iload_n 2, 1) := by decide +kernel
theorem dX11_layTrace_26 : decode cX11_layTrace 26 = .ok (.iload_n 2, 1) := by decide +kernel
theorem dX11_layTrace_27 : decode cX11_layTrace 27 = .ok (.aload_n 0, 1) := by decide +kernel
theorem dX11_layTrace_28 : decode cX11_layTrace 28 = .ok (.getfield 7, 3) := by decide +kernel
theorem dX11_layTrace_31 : decode cX11_layTrace 31 = .ok (.iconst 0, 1) := by decide +kernel
theorem dX11_layTrace_32 : decode cX11_layTrace 32 = .ok (.iaload, 1) := by decide +kernel
theorem dX11_layTrace_33 : decode cX11_layTrace 33 = .ok (.if_icmp .ge 7, 3) := by decide +kernel
theorem dX11_layTrace_36 : decode cX11_layTrace 36 = .ok (.iload_n 1, 1) := by decide +kernel
theorem dX11_layTrace_37 : decode cX11_layTrace 37 = .ok (.goto 6, 3) := by decide +kernel
theorem dX11_layTrace_40 : decode cX11_layTrace 40 = .ok (.sipush 5000, 3) := by decide +kernel
theorem dX11_layTrace_43 : decode cX11_layTrace 43 = .ok (.iastore, 1) := by decide +kernel
theorem dX11_layTrace_44 : decode cX11_layTrace 44 = .ok (.iconst 0, 1) := by decide +kernel
theorem dX11_layTrace_45 : decode cX11_layTrace 45 = .ok (.istore_n 3, 1) := by decide +kernel
theorem dX11_layTrace_46 : decode cX11_layTrace 46 = .ok (.iload_n 3, 1) := by decide +kernel
theorem dX11_layTrace_47 : decode cX11_layTrace 47 = .ok (.aload_n 0, 1) := by decide +kernel
theorem dX11_layTrace_48 : decode cX11_layTrace 48 = .ok (.getfield 7, 3) := by decide +kernel
theorem dX11_layTrace_51 : decode cX11_layTrace 51 = .ok (.iconst 3, 1) := by decide +kernel
theorem dX11_layTrace_52 : decode cX11_layTrace 52 = .ok (.iaload, 1) := by decide +kernel
theorem dX11_layTrace_53 : decode cX11_layTrace 53 = .ok (.if_icmp .ge 94, 3) := by decide +kernel
theorem dX11_layTrace_56 : decode cX11_layTrace 56 = .ok (.iload_n 2, 1) := by decide +kernel
theorem dX11_layTrace_57 : decode cX11_layTrace 57 = .ok (.aload_n 0, 1) := by decide +kernel
theorem dX11_layTrace_58 : decode cX11_layTrace 58 = .ok (.getfield 7, 3) := by decide +kernel
theorem dX11_layTrace_61 : decode cX11_layTrace 61 = .ok (.iconst 0, 1) := by decide +kernel
theorem dX11_layTrace_62 : decode cX11_layTrace 62 = .ok (.iaload, 1) := by decide +kernel
theorem dX11_layTrace_63 : decode cX11_layTrace 63 = .ok (.if_icmp .ge 84, 3) := by decide +kernel
theorem dX11_layTrace_66 : decode cX11_layTrace 66 = .ok (.aload_n 0, 1) := by decide +kernel
theorem dX11_layTrace_67 : decode cX11_layTrace 67 = .ok (.iload_n 3, 1) := by decide +kernel
theorem dX11_layTrace_68 : decode cX11_layTrace 68 = .ok (.iconst 0, 1) := by decide +kernel
theorem dX11_layTrace_69 : decode cX11_layTrace 69 = .ok (.invokevirtual 177, 3) := by decide +kernel
theorem dX11_layTrace_72 : decode cX11_layTrace 72 = .ok (.iconst 2, 1) := by decide +kernel
theorem dX11_layTrace_73 : decode cX11_layTrace 73 = .ok (.if_icmp .ge 68, 3) := by decide +kernel
theorem dX11_layTrace_76 : decode cX11_layTrace 76 = .ok (.aload_n 0, 1) := by decide +kernel
theorem dX11_layTrace_77 : decode cX11_layTrace 77 = .ok (.iload_n 3, 1) := by decide +kernel
theorem dX11_layTrace_78 : decode cX11_layTrace 78 = .ok (.iconst 1, 1) := by decide +kernel
theorem dX11_layTrace_79 : decode cX11_layTrace 79 = .ok (.invokevirtual 177, 3) := by decide +kernel
theorem dX11_layTrace_82 : decode cX11_layTrace 82 = .ok (.iload_n 2, 1) := by decide +kernel
theorem dX11_layTrace_83 : decode cX11_layTrace 83 = .ok (.if_icmp .gt 58, 3) := by decide +kernel
theorem dX11_layTrace_86 : decode cX11_layTrace 86 = .ok (.iload_n 2, 1) := by decide +kernel
theorem dX11_layTrace_87 : decode cX11_layTrace 87 = .ok (.aload_n 0, 1) := by decide +kernel
theorem dX11_layTrace_88 : decode cX11_layTrace 88 = .ok (.iload_n 3, 1) := by decide +kernel
theorem dX11_layTrace_89 : decode cX11_layTrace 89 = .ok (.iconst 1, 1) := by decide +kernel
theorem dX11_layTrace_90 : decode cX11_layTrace 90 = .ok (.invokevirtual 177, 3) := by decide +kernel
theorem dX11_layTrace_93 : decode cX11_layTrace 93 = .ok (.isub, 1) := by decide +kernel
theorem dX11_layTrace_94 : decode cX11_layTrace 94 = .ok (.iconst 1, 1) := by decide +kernel
theorem dX11_layTrace_95 : decode cX11_layTrace 95 = .ok (.iadd, 1) := by decide +kernel
theorem dX11_layTrace_96 : decode cX11_layTrace 96 = .ok (.istore 4, 2) := by decide +kernel
theorem dX11_layTrace_98 : decode cX11_layTrace 98 = .ok (.aload_n 0, 1) := by decide +kernel
theorem dX11_layTrace_99 : decode cX11_layTrace 99 = .ok (.getfield 25, 3) := by decide +kernel
theorem dX11_layTrace_102 : decode cX11_layTrace 102 = .ok (.iload_n 2, 1) := by decide +kernel
theorem dX11_layTrace_103 : decode cX11_layTrace 103 = .ok (.dup2, 1) := by decide +kernel
theorem dX11_layTrace_104 : decode cX11_layTrace 104 = .ok (.iaload, 1) := by decide +kernel
theorem dX11_layTrace_105 : decode cX11_layTrace 105 = .ok (.iload 4, 2) := by decide +kernel
theorem dX11_layTrace_107 : decode cX11_layTrace 107 = .ok (.aload_n 0, 1) := by decide +kernel
theorem dX11_layTrace_108 : decode cX11_layTrace 108 = .ok (.iconst 0, 1) := by decide +kernel
theorem dX11_layTrace_109 : decode cX11_layTrace 109 = .ok (.invokevirtual 194, 3) := by decide +kernel
theorem dX11_layTrace_112 : decode cX11_layTrace 112 = .ok (.if_icmp .lt 12, 3) := by decide +kernel
theorem dX11_layTrace_115 : decode cX11_layTrace 115 = .ok (.aload_n 0, 1) := by decide +kernel
theorem dX11_layTrace_116 : decode cX11_layTrace 116 = .ok (.iload_n 3, 1) := by decide +kernel
theorem dX11_layTrace_117 : decode cX11_layTrace 117 = .ok (.iconst 2, 1) := by decide +kernel
theorem dX11_layTrace_118 : decode cX11_layTrace 118 = .ok (.invokevirtual 177, 3) := by decide +kernel
theorem dX11_layTrace_121 : decode cX11_layTrace 121 = .ok (.goto 18, 3) := by decide +kernel
theorem dX11_layTrace_124 : decode cX11_layTrace 124 = .ok (.aload_n 0, 1) := by decide +kernel
theorem dX11_layTrace_125 : decode cX11_layTrace 125 = .ok (.iload_n 3, 1) := by decide +kernel
theorem dX11_layTrace_126 : decode cX11_layTrace 126 = .ok (.iconst 2, 1) := by decide +kernel
theorem dX11_layTrace_127 : decode cX11_layTrace 127 = .ok (.invokevirtual 177, 3) := by decide +kernel
theorem dX11_layTrace_130 : decode cX11_layTrace 130 = .ok (.iload 4, 2) := by decide +kernel
theorem dX11_layTrace_132 : decode cX11_layTrace 132 = .ok (.imul, 1) := by decide +kernel
theorem dX11_layTrace_133 : decode cX11_layTrace 133 = .ok (.aload_n 0, 1) := by decide +kernel
theorem dX11_layTrace_134 : decode cX11_layTrace 134 = .ok (.iconst 0, 1) := by decide +kernel
theorem dX11_layTrace_135 : decode cX11_layTrace 135 = .ok (.invokevirtual 194, 3) := by decide +kernel
theorem dX11_layTrace_138 : decode cX11_layTrace 138 = .ok (.idiv, 1) := by decide +kernel
theorem dX11_layTrace_139 : decode cX11_layTrace 139 = .ok (.isub, 1) := by decide +kernel
theorem dX11_layTrace_140 : decode cX11_layTrace 140 = .ok (.iastore, 1) := by decide +kernel
theorem dX11_layTrace_141 : decode cX11_layTrace 141 = .ok (.iinc 3 1, 3) := by decide +kernel
theorem dX11_layTrace_144 : decode cX11_layTrace 144 = .ok (.goto (-98), 3) := by decide +kernel
theorem dX11_layTrace_147 : decode cX11_layTrace 147 = .ok (.iload_n 1, 1) := by decide +kernel
theorem dX11_layTrace_148 : decode cX11_layTrace 148 = .ok (.aload_n 0, 1) := by decide +kernel
theorem dX11_layTrace_149 : decode cX11_layTrace 149 = .ok (.iload_n 2, 1) := by decide +kernel
theorem dX11_layTrace_150 : decode cX11_layTrace 150 = .ok (.invokevirtual 202, 3) := by decide +kernel
theorem dX11_layTrace_153 : decode cX11_layTrace 153 = .ok (.isub, 1) := by decide +kernel
theorem dX11_layTrace_154 : decode cX11_layTrace 154 = .ok (.istore_n 1, 1) := by decide +kernel
theorem dX11_layTrace_155 : decode cX11_layTrace 155 = .ok (.aload_n 0, 1) := by decide +kernel
theorem dX11_layTrace_156 : decode cX11_layTrace 156 = .ok (.getfield 28, 3) := by decide +kernel
theorem dX11_layTrace_159 : decode cX11_layTrace 159 = .ok (.iload_n 2, 1) := by decide +kernel
theorem dX11_layTrace_160 : decode cX11_layTrace 160 = .ok (.iconst 0, 1) := by decide +kernel
theorem dX11_layTrace_161 : decode cX11_layTrace 161 = .ok (.iastore, 1) := by decide +kernel
theorem dX11_layTrace_162 : decode cX11_layTrace 162 = .ok (.iconst 0, 1) := by decide +kernel
theorem dX11_layTrace_163 : decode cX11_layTrace 163 = .ok (.istore_n 3, 1) := by decide +kernel
theorem dX11_layTrace_164 : decode cX11_layTrace 164 = .ok (.iload_n 3, 1) := by decide +kernel
theorem dX11_layTrace_165 : decode cX11_layTrace 165 = .ok (.aload_n 0, 1) := by decide +kernel
theorem dX11_layTrace_166 : decode cX11_layTrace 166 = .ok (.getfield 205, 3) := by decide +kernel
theorem dX11_layTrace_169 : decode cX11_layTrace 169 = .ok (.if_icmp .ge 56, 3) := by decide +kernel
theorem dX11_layTrace_172 : decode cX11_layTrace 172 = .ok (.aload_n 0, 1) := by decide +kernel
theorem dX11_layTrace_173 : decode cX11_layTrace 173 = .ok (.aload_n 0, 1) := by decide +kernel
theorem dX11_layTrace_174 : decode cX11_layTrace 174 = .ok (.getfield 34, 3) := by decide +kernel
theorem dX11_layTrace_177 : decode cX11_layTrace 177 = .ok (.iload_n 3, 1) := by decide +kernel
theorem dX11_layTrace_178 : decode cX11_layTrace 178 = .ok (.iaload, 1) := by decide +kernel
theorem dX11_layTrace_179 : decode cX11_layTrace 179 = .ok (.aload_n 0, 1) := by decide +kernel
theorem dX11_layTrace_180 : decode cX11_layTrace 180 = .ok (.getfield 37, 3) := by decide +kernel
theorem dX11_layTrace_183 : decode cX11_layTrace 183 = .ok (.iload_n 3, 1) := by decide +kernel
theorem dX11_layTrace_184 : decode cX11_layTrace 184 = .ok (.iaload, 1) := by decide +kernel
theorem dX11_layTrace_185 : decode cX11_layTrace 185 = .ok (.iload_n 2, 1) := by decide +kernel
theorem dX11_layTrace_186 : decode cX11_layTrace 186 = .ok (.invokevirtual 223, 3) := by decide +kernel
theorem dX11_layTrace_189 : decode cX11_layTrace 189 = .ok (.istore 4, 2) := by decide +kernel
theorem dX11_layTrace_191 : decode cX11_layTrace 191 = .ok (.aload_n 0, 1) := by decide +kernel
theorem dX11_layTrace_192 : decode cX11_layTrace 192 = .ok (.getfield 28, 3) := by decide +kernel
theorem dX11_layTrace_195 : decode cX11_layTrace 195 = .ok (.iload_n 2, 1) := by decide +kernel
theorem dX11_layTrace_196 : decode cX11_layTrace 196 = .ok (.iload 4, 2) := by decide +kernel
theorem dX11_layTrace_198 : decode cX11_layTrace 198 = .ok (.aload_n 0, 1) := by decide +kernel
theorem dX11_layTrace_199 : decode cX11_layTrace 199 = .ok (.getfield 28, 3) := by decide +kernel
theorem dX11_layTrace_202 : decode cX11_layTrace 202 = .ok (.iload_n 2, 1) := by decide +kernel
theorem dX11_layTrace_203 : decode cX11_layTrace 203 = .ok (.iaload, 1) := by decide +kernel
theorem dX11_layTrace_204 : decode cX11_layTrace 204 = .ok (.if_icmp .le 8, 3) := by decide +kernel
theorem dX11_layTrace_207 : decode cX11_layTrace 207 = .ok (.iload 4, 2) := by decide +kernel
theorem dX11_layTrace_209 : decode cX11_layTrace 209 = .ok (.goto 9, 3) := by decide +kernel
theorem dX11_layTrace_212 : decode cX11_layTrace 212 = .ok (.aload_n 0, 1) := by decide +kernel
theorem dX11_layTrace_213 : decode cX11_layTrace 213 = .ok (.getfield 28, 3) := by decide +kernel
theorem dX11_layTrace_216 : decode cX11_layTrace 216 = .ok (.iload_n 2, 1) := by decide +kernel
theorem dX11_layTrace_217 : decode cX11_layTrace 217 = .ok (.iaload, 1) := by decide +kernel
theorem dX11_layTrace_218 : decode cX11_layTrace 218 = .ok (.iastore, 1) := by decide +kernel
theorem dX11_layTrace_219 : decode cX11_layTrace 219 = .ok (.iinc 3 1, 3) := by decide +kernel
theorem dX11_layTrace_222 : decode cX11_layTrace 222 = .ok (.goto (-58), 3) := by decide +kernel
theorem dX11_layTrace_225 : decode cX11_layTrace 225 = .ok (.iconst 0, 1) := by decide +kernel
theorem dX11_layTrace_226 : decode cX11_layTrace 226 = .ok (.istore_n 3, 1) := by decide +kernel
theorem dX11_layTrace_227 : decode cX11_layTrace 227 = .ok (.iload_n 3, 1) := by decide +kernel
theorem dX11_layTrace_228 : decode cX11_layTrace 228 = .ok (.aload_n 0, 1) := by decide +kernel
theorem dX11_layTrace_229 : decode cX11_layTrace 229 = .ok (.getfield 208, 3) := by decide +kernel
theorem dX11_layTrace_232 : decode cX11_layTrace 232 = .ok (.if_icmp .ge 56, 3) := by decide +kernel
theorem dX11_layTrace_235 : decode cX11_layTrace 235 = .ok (.aload_n 0, 1) := by decide +kernel
theorem dX11_layTrace_236 : decode cX11_layTrace 236 = .ok (.aload_n 0, 1) := by decide +kernel
theorem dX11_layTrace_237 : decode cX11_layTrace 237 = .ok (.getfield 40, 3) := by decide +kernel
theorem dX11_layTrace_240 : decode cX11_layTrace 240 = .ok (.iload_n 3, 1) := by decide +kernel
theorem dX11_layTrace_241 : decode cX11_layTrace 241 = .ok (.iaload, 1) := by decide +kernel
theorem dX11_layTrace_242 : decode cX11_layTrace 242 = .ok (.aload_n 0, 1) := by decide +kernel
theorem dX11_layTrace_243 : decode cX11_layTrace 243 = .ok (.getfield 43, 3) := by decide +kernel
theorem dX11_layTrace_246 : decode cX11_layTrace 246 = .ok (.iload_n 3, 1) := by decide +kernel
theorem dX11_layTrace_247 : decode cX11_layTrace 247 = .ok (.iaload, 1) := by decide +kernel
theorem dX11_layTrace_248 : decode cX11_layTrace 248 = .ok (.iload_n 2, 1) := by decide +kernel
theorem dX11_layTrace_249 : decode cX11_layTrace 249 = .ok (.invokevirtual 223, 3) := by decide +kernel
theorem dX11_layTrace_252 : decode cX11_layTrace 252 = .ok (.istore 4, 2) := by decide +kernel
theorem dX11_layTrace_254 : decode cX11_layTrace 254 = .ok (.aload_n 0, 1) := by decide +kernel
theorem dX11_layTrace_255 : decode cX11_layTrace 255 = .ok (.getfield 28, 3) := by decide +kernel
theorem dX11_layTrace_258 : decode cX11_layTrace 258 = .ok (.iload_n 2, 1) := by decide +kernel
theorem dX11_layTrace_259 : decode cX11_layTrace 259 = .ok (.iload 4, 2) := by decide +kernel
theorem dX11_layTrace_261 : decode cX11_layTrace 261 = .ok (.aload_n 0, 1) := by decide +kernel
theorem dX11_layTrace_262 : decode cX11_layTrace 262 = .ok (.getfield 28, 3) := by decide +kernel
theorem dX11_layTrace_265 : decode cX11_layTrace 265 = .ok (.iload_n 2, 1) := by decide +kernel
theorem dX11_layTrace_266 : decode cX11_layTrace 266 = .ok (.iaload, 1) := by decide +kernel
theorem dX11_layTrace_267 : decode cX11_layTrace 267 = .ok (.if_icmp .le 8, 3) := by decide +kernel
theorem dX11_layTrace_270 : decode cX11_layTrace 270 = .ok (.iload 4, 2) := by decide +kernel
theorem dX11_layTrace_272 : decode cX11_layTrace 272 = .ok (.goto 9, 3) := by decide +kernel
theorem dX11_layTrace_275 : decode cX11_layTrace 275 = .ok (.aload_n 0, 1) := by decide +kernel
theorem dX11_layTrace_276 : decode cX11_layTrace 276 = .ok (.getfield 28, 3) := by decide +kernel
theorem dX11_layTrace_279 : decode cX11_layTrace 279 = .ok (.iload_n 2, 1) := by decide +kernel
theorem dX11_layTrace_280 : decode cX11_layTrace 280 = .ok (.iaload, 1) := by decide +kernel
theorem dX11_layTrace_281 : decode cX11_layTrace 281 = .ok (.iastore, 1) := by decide +kernel
theorem dX11_layTrace_282 : decode cX11_layTrace 282 = .ok (.iinc 3 1, 3) := by decide +kernel
theorem dX11_layTrace_285 : decode cX11_layTrace 285 = .ok (.goto (-58), 3) := by decide +kernel
theorem dX11_layTrace_288 : decode cX11_layTrace 288 = .ok (.iinc 2 1, 3) := by decide +kernel
theorem dX11_layTrace_291 : decode cX11_layTrace 291 = .ok (.goto (-278), 3) := by decide +kernel
theorem dX11_layTrace_294 : decode cX11_layTrace 294 = .ok (.return_, 1) := by decide +kernel
theorem dX11_v_0 : decode cX11_v 0 = .ok (.aload_n 0, 1) := by decide +kernel
theorem dX11_v_1 : decode cX11_v 1 = .ok (.getfield 25, 3) := by decide +kernel
theorem dX11_v_4 : decode cX11_v 4 = .ok (.iload_n 1, 1) := by decide +kernel
theorem dX11_v_5 : decode cX11_v 5 = .ok (.iaload, 1) := by decide +kernel
theorem dX11_v_6 : decode cX11_v 6 = .ok (.aload_n 0, 1) := by decide +kernel
theorem dX11_v_7 : decode cX11_v 7 = .ok (.getfield 28, 3) := by decide +kernel
theorem dX11_v_10 : decode cX11_v 10 = .ok (.iload_n 1, 1) := by decide +kernel
theorem dX11_v_11 : decode cX11_v 11 = .ok (.iaload, 1) := by decide +kernel
theorem dX11_v_12 : decode cX11_v 12 = .ok (.iadd, 1) := by decide +kernel
theorem dX11_v_13 : decode cX11_v 13 = .ok (.aload_n 0, 1) := by decide +kernel
theorem dX11_v_14 : decode cX11_v 14 = .ok (.getfield 31, 3) := by decide +kernel
theorem dX11_v_17 : decode cX11_v 17 = .ok (.iload_n 1, 1) := by decide +kernel
theorem dX11_v_18 : decode cX11_v 18 = .ok (.iaload, 1) := by decide +kernel
theorem dX11_v_19 : decode cX11_v 19 = .ok (.iadd, 1) := by decide +kernel
theorem dX11_v_20 : decode cX11_v 20 = .ok (.ireturn, 1) := by decide +kernel
theorem ggX11_sample_X11_samples : GoodIn wsX11_sample wsX11_samples := goodIn_sub (fun w h => (List.mem_cons.mp h).elim (fun e => ft_me e (k_wsX11_sample_wsX11_sample_r1 _ (List.mem_of_getElem? (i := 9) rfl))) (fun h => (List.mem_append.mp h).elim (fun h => (List.forall_mem_cons.mpr ⟨(k_wsX11_sample_wsX11_sample_r1 _ (List.mem_of_getElem? (i := 10) rfl)), fun _ h => absurd h List.not_mem_nil⟩) w h) (fun h => k_wsX11_sample_wsX110 w h))) gw_wsX11_samples
theorem gX11_sample_X11_samples : GoodIn wsX11_sample (wsV RX11 199 RX11 yX11_samples wsX11_samples) := goodIn_app (goodIn_sub (List.forall_mem_cons.mpr ⟨(k_wsX11_sample_wsX11_sample_r1 _ (List.mem_of_getElem? (i := 5) rfl)), List.forall_mem_cons.mpr ⟨(k_wsX11_sample_wsX11_sample_r1 _ (List.mem_of_getElem? (i := 6) rfl)), List.forall_mem_cons.mpr ⟨(k_wsX11_sample_wsX11_sample_r1 _ (List.mem_of_getElem? (i := 7) rfl)), List.forall_mem_cons.mpr ⟨(k_wsX11_sample_wsX11_sample_r1 _ (List.mem_of_getElem? (i := 8) rfl)), fun _ h => absurd h List.not_mem_nil⟩⟩⟩⟩) (by decide +kernel)) ggX11_sample_X11_samples
theorem ggX11_sample_X11_in : GoodIn wsX11_sample wsX11_in := goodIn_sub (fun w h => (List.mem_cons.mp h).elim (fun e => ft_me e (k_wsX11_sample_wsX11_sample_r1 _ (List.mem_of_getElem? (i := 13) rfl))) (fun h => absurd h List.not_mem_nil)) gw_wsX11_in
theorem gX11_sample_X11_in : GoodIn wsX11_sample (va_wsS RX11 91 yX11_in wsX11_in) := goodIn_app (goodIn_sub (List.forall_mem_cons.mpr ⟨(k_wsX11_sample_wsX11_sample_r1 _ (List.mem_of_getElem? (i := 11) rfl)), List.forall_mem_cons.mpr ⟨(k_wsX11_sample_wsX11_sample_r1 _ (List.mem_of_getElem? (i := 12) rfl)), List.forall_mem_cons.mpr ⟨(k_wsX11_sample_wsX11_sample_r1 _ (List.mem_of_getElem? (i := 8) rfl)), fun _ h => absurd h List.not_mem_nil⟩⟩⟩) (by decide +kernel)) ggX11_sample_X11_in
set_option maxRecDepth 20000 in
theorem s_X11_sample_X11_layTrace_wsX11_layTrace_r1 : ∀ w ∈ wsX11_layTrace_r1, w ∈ wsX11_sample := List.forall_mem_cons.mpr ⟨(k_wsX11_sample_wsX11_sample_r1 _ (List.mem_of_getElem? (i := 18) rfl)), List.forall_mem_cons.mpr ⟨(k_wsX11_sample_wsX11_sample_r1 _ (List.mem_of_getElem? (i := 2) rfl)), List.forall_mem_cons.mpr ⟨(k_wsX11_sample_wsX11_sample_r1 _ (List.mem_of_getElem? (i := 10) rfl)), List.forall_mem_cons.mpr ⟨(k_wsX11_sample_wsX11_sample_r1 _ (List.mem_of_getElem? (i := 3) rfl)), List.forall_mem_cons.mpr ⟨(k_wsX11_sample_wsX11_sample_r1 _ (List.mem_of_getElem? (i := 19) rfl)), List.forall_mem_cons.mpr ⟨(k_wsX11_sample_wsX11_sample_r1 _ (List.mem_of_getElem? (i := 20) rfl)), List.forall_mem_cons.mpr ⟨(k_wsX11_sample_wsX11_sample_r1 _ (List.mem_of_getElem? (i := 21) rfl)), List.forall_mem_cons.mpr ⟨(k_wsX11_sample_wsX11_sample_r1 _ (List.mem_of_getElem? (i := 22) rfl)), List.forall_mem_cons.mpr ⟨(k_wsX11_sample_wsX11_sample_r1 _ (List.mem_of_getElem? (i := 23) rfl)), List.forall_mem_cons.mpr ⟨(k_wsX11_sample_wsX11_sample_r2 _ (List.mem_of_getElem? (i := 0) rfl)), List.forall_mem_cons.mpr ⟨(k_wsX11_sample_wsX11_sample_r2 _ (List.mem_of_getElem? (i := 1) rfl)), List.forall_mem_cons.mpr ⟨(k_wsX11_sample_wsX11_sample_r2 _ (List.mem_of_getElem? (i := 2) rfl)), List.forall_mem_cons.mpr ⟨(k_wsX11_sample_wsX11_sample_r2 _ (List.mem_of_getElem? (i := 3) rfl)), List.forall_mem_cons.mpr ⟨(k_wsX11_sample_wsX11_sample_r1 _ (List.mem_of_getElem? (i := 8) rfl)), List.forall_mem_cons.mpr ⟨(k_wsX11_sample_wsX11_sample_r2 _ (List.mem_of_getElem? (i := 4) rfl)), List.forall_mem_cons.mpr ⟨(k_wsX11_sample_wsX11_sample_r2 _ (List.mem_of_getElem? (i := 5) rfl)), List.forall_mem_cons.mpr ⟨(k_wsX11_sample_wsX11_sample_r2 _ (List.mem_of_getElem? (i := 6) rfl)), List.forall_mem_cons.mpr ⟨(k_wsX11_sample_wsX11_sample_r2 _ (List.mem_of_getElem? (i := 7) rfl)), List.forall_mem_cons.mpr ⟨(k_wsX11_sample_wsX11_sample_r2 _ (List.mem_of_getElem? (i := 8) rfl)), List.forall_mem_cons.mpr ⟨(k_wsX11_sample_wsX11_sample_r2 _ (List.mem_of_getElem? (i := 9) rfl)), List.forall_mem_cons.mpr ⟨(k_wsX11_sample_wsX11_sample_r2 _ (List.mem_of_getElem? (i := 10) rfl)), List.forall_mem_cons.mpr ⟨(k_wsX11_sample_wsX11_sample_r2 _ (List.mem_of_getElem? (i := 11) rfl)), List.forall_mem_cons.mpr ⟨(k_wsX11_sample_wsX11_sample_r2 _ (List.mem_of_getElem? (i := 12) rfl)), List.forall_mem_cons.mpr ⟨(k_wsX11_sample_wsX11_sample_r2 _ (List.mem_of_getElem? (i := 13) rfl)), fun _ h => absurd h List.not_mem_nil⟩⟩⟩⟩⟩⟩⟩⟩⟩⟩⟩⟩⟩⟩⟩⟩⟩⟩⟩⟩⟩⟩⟩⟩
set_option maxRecDepth 20000 in
theorem s_X11_sample_X11_layTrace_wsX11_layTrace_r2 : ∀ w ∈ wsX11_layTrace_r2, w ∈ wsX11_sample := List.forall_mem_cons.mpr ⟨(k_wsX11_sample_wsX11_sample_r2 _ (List.mem_of_getElem? (i := 14) rfl)), List.forall_mem_cons.mpr ⟨(k_wsX11_sample_wsX11_sample_r2 _ (List.mem_of_getElem? (i := 15) rfl)), List.forall_mem_cons.mpr ⟨(k_wsX11_sample_wsX11_sample_r2 _ (List.mem_of_getElem? (i := 16) rfl)), List.forall_mem_cons.mpr ⟨(k_wsX11_sample_wsX11_sample_r2 _ (List.mem_of_getElem? (i := 17) rfl)), List.forall_mem_cons.mpr ⟨(k_wsX11_sample_wsX11_sample_r2 _ (List.mem_of_getElem? (i := 18) rfl)), List.forall_mem_cons.mpr ⟨(k_wsX11_sample_wsX11_sample_r2 _ (List.mem_of_getElem? (i := 19) rfl)), List.forall_mem_cons.mpr ⟨(k_wsX11_sample_wsX11_sample_r2 _ (List.mem_of_getElem? (i := 20) rfl)), List.forall_mem_cons.mpr ⟨(k_wsX11_sample_wsX11_sample_r2 _ (List.mem_of_getElem? (i := 21) rfl)), List.forall_mem_cons.mpr ⟨(k_wsX11_sample_wsX11_sample_r2 _ (List.mem_of_getElem? (i := 22) rfl)), List.forall_mem_cons.mpr ⟨(k_wsX11_sample_wsX11_sample_r2 _ (List.mem_of_getElem? (i := 23) rfl)), List.forall_mem_cons.mpr ⟨(k_wsX11_sample_wsX11_sample_r1 _ (List.mem_of_getElem? (i := 4) rfl)), List.forall_mem_cons.mpr ⟨(k_wsX11_sample_wsX11_sample_r1 _ (List.mem_of_getElem? (i := 5) rfl)), List.forall_mem_cons.mpr ⟨(k_wsX11_sample_wsX11_sample_r1 _ (List.mem_of_getElem? (i := 6) rfl)), List.forall_mem_cons.mpr ⟨(k_wsX11_sample_wsX11_sample_r1 _ (List.mem_of_getElem? (i := 7) rfl)), List.forall_mem_cons.mpr ⟨(k_wsX11_sample_wsX11_sample_r1 _ (List.mem_of_getElem? (i := 9) rfl)), List.forall_mem_cons.mpr ⟨(k_wsX11_sample_wsX11_sample_r3 _ (List.mem_of_getElem? (i := 0) rfl)), List.forall_mem_cons.mpr ⟨(k_wsX11_sample_wsX11_sample_r3 _ (List.mem_of_getElem? (i := 1) rfl)), List.forall_mem_cons.mpr ⟨(k_wsX11_sample_wsX11_sample_r3 _ (List.mem_of_getElem? (i := 2) rfl)), List.forall_mem_cons.mpr ⟨(k_wsX11_sample_wsX11_sample_r3 _ (List.mem_of_getElem? (i := 3) rfl)), List.forall_mem_cons.mpr ⟨(k_wsX11_sample_wsX11_sample_r3 _ (List.mem_of_getElem? (i := 4) rfl)), List.forall_mem_cons.mpr ⟨(k_wsX11_sample_wsX11_sample_r3 _ (List.mem_of_getElem? (i := 5) rfl)), List.forall_mem_cons.mpr ⟨(k_wsX11_sample_wsX11_sample_r3 _ (List.mem_of_getElem? (i := 6) rfl)), List.forall_mem_cons.mpr ⟨(k_wsX11_sample_wsX11_sample_r3 _ (List.mem_of_getElem? (i := 7) rfl)), fun _ h => absurd h List.not_mem_nil⟩⟩⟩⟩⟩⟩⟩⟩⟩⟩⟩⟩⟩⟩⟩⟩⟩⟩⟩⟩⟩⟩⟩
theorem ggX11_sample_X11_layTrace : GoodIn wsX11_sample wsX11_layTrace := goodIn_sub (fun w h => (List.mem_cons.mp h).elim (fun e => ft_me e (k_wsX11_sample_wsX11_sample_r1 _ (List.mem_of_getElem? (i := 17) rfl))) (fun h => (List.mem_append.mp h).elim (fun h => (List.mem_append.mp h).elim (fun h => s_X11_sample_X11_layTrace_wsX11_layTrace_r1 w h) (fun h => s_X11_sample_X11_layTrace_wsX11_layTrace_r2 w h)) (fun h => k_wsX11_sample_wsX110 w h))) gw_wsX11_layTrace
theorem gX11_sample_X11_layTrace : GoodIn wsX11_sample (wsV RX11 229 RX11 yX11_layTrace wsX11_layTrace) := goodIn_app (goodIn_sub (List.forall_mem_cons.mpr ⟨(k_wsX11_sample_wsX11_sample_r1 _ (List.mem_of_getElem? (i := 14) rfl)), List.forall_mem_cons.mpr ⟨(k_wsX11_sample_wsX11_sample_r1 _ (List.mem_of_getElem? (i := 15) rfl)), List.forall_mem_cons.mpr ⟨(k_wsX11_sample_wsX11_sample_r1 _ (List.mem_of_getElem? (i := 16) rfl)), List.forall_mem_cons.mpr ⟨(k_wsX11_sample_wsX11_sample_r1 _ (List.mem_of_getElem? (i := 8) rfl)), fun _ h => absurd h List.not_mem_nil⟩⟩⟩⟩) (by decide +kernel)) ggX11_sample_X11_layTrace
theorem ggX11_sample_X11_v : GoodIn wsX11_sample wsX11_v := goodIn_sub (fun w h => (List.mem_cons.mp h).elim (fun e => ft_me e (k_wsX11_sample_wsX11_sample_r3 _ (List.mem_of_getElem? (i := 11) rfl))) (fun h => (List.mem_append.mp h).elim (fun h => (List.forall_mem_cons.mpr ⟨(k_wsX11_sample_wsX11_sample_r1 _ (List.mem_of_getElem? (i := 2) rfl)), List.forall_mem_cons.mpr ⟨(k_wsX11_sample_wsX11_sample_r1 _ (List.mem_of_getElem? (i := 3) rfl)), List.forall_mem_cons.mpr ⟨(k_wsX11_sample_wsX11_sample_r1 _ (List.mem_of_getElem? (i := 4) rfl)), fun _ h => absurd h List.not_mem_nil⟩⟩⟩) w h) (fun h => k_wsX11_sample_wsX110 w h))) gw_wsX11_v
theorem gX11_sample_X11_v : GoodIn wsX11_sample (wsV RX11 232 RX11 yX11_v wsX11_v) := goodIn_app (goodIn_sub (List.forall_mem_cons.mpr ⟨(k_wsX11_sample_wsX11_sample_r3 _ (List.mem_of_getElem? (i := 8) rfl)), List.forall_mem_cons.mpr ⟨(k_wsX11_sample_wsX11_sample_r3 _ (List.mem_of_getElem? (i := 9) rfl)), List.forall_mem_cons.mpr ⟨(k_wsX11_sample_wsX11_sample_r3 _ (List.mem_of_getElem? (i := 10) rfl)), List.forall_mem_cons.mpr ⟨(k_wsX11_sample_wsX11_sample_r1 _ (List.mem_of_getElem? (i := 8) rfl)), fun _ h => absurd h List.not_mem_nil⟩⟩⟩⟩) (by decide +kernel)) ggX11_sample_X11_v
theorem dX11_sample_0 : decode cX11_sample 0 = .ok (.iload_n 1, 1) := by decide +kernel
theorem dX11_sample_1 : decode cX11_sample 1 = .ok (.i2l, 1) := by decide +kernel
theorem dX11_sample_2 : decode cX11_sample 2 = .ok (.lconst 0, 1) := by decide +kernel
theorem dX11_sample_3 : decode cX11_sample 3 = .ok (.aload_n 0, 1) := by decide +kernel
theorem dX11_sample_4 : decode cX11_sample 4 = .ok (.invokevirtual 199, 3) := by decide +kernel
theorem dX11_sample_7 : decode cX11_sample 7 = .ok (.iconst 1, 1) := by decide +kernel
theorem dX11_sample_8 : decode cX11_sample 8 = .ok (.isub, 1) := by decide +kernel
theorem dX11_sample_9 : decode cX11_sample 9 = .ok (.i2l, 1) := by decide +kernel
theorem dX11_sample_10 : decode cX11_sample 10 = .ok (.invokestatic 91, 3) := by decide +kernel
theorem dX11_sample_13 : decode cX11_sample 13 = .ok (.ifCond .eq 15, 3) := by decide +kernel
theorem dX11_sample_16 : decode cX11_sample 16 = .ok (.iload_n 2, 1) := by decide +kernel
theorem dX11_sample_17 : decode cX11_sample 17 = .ok (.i2l, 1) := by decide +kernel
theorem dX11_sample_18 : decode cX11_sample 18 = .ok (.lconst 0, 1) := by decide +kernel
theorem dX11_sample_19 : decode cX11_sample 19 = .ok (.ldc2_w 227, 3) := by decide +kernel
theorem dX11_sample_22 : decode cX11_sample 22 = .ok (.invokestatic 91, 3) := by decide +kernel
theorem dX11_sample_25 : decode cX11_sample 25 = .ok (.ifCond .ne 6, 3) := by decide +kernel
theorem dX11_sample_28 : decode cX11_sample 28 = .ok (.ldc 95, 2) := by decide +kernel
theorem dX11_sample_30 : decode cX11_sample 30 = .ok (.ireturn, 1) := by decide +kernel
theorem dX11_sample_31 : decode cX11_sample 31 = .ok (.aload_n 0, 1) := by decide +kernel
theorem dX11_sample_32 : decode cX11_sample 32 = .ok (.invokevirtual 229, 3) := by decide +kernel
theorem dX11_sample_35 : decode cX11_sample 35 = .ok (.iload_n 2, 1) := by decide +kernel
theorem dX11_sample_36 : decode cX11_sample 36 = .ok (.ifCond .ne 11, 3) := by decide +kernel
theorem dX11_sample_39 : decode cX11_sample 39 = .ok (.aload_n 0, 1) := by decide +kernel
theorem dX11_sample_40 : decode cX11_sample 40 = .ok (.iload_n 1, 1) := by decide +kernel
theorem dX11_sample_41 : decode cX11_sample 41 = .ok (.invokevirtual 232, 3) := by decide +kernel
theorem dX11_sample_44 : decode cX11_sample 44 = .ok (.goto 37, 3) := by decide +kernel
theorem dX11_sample_47 : decode cX11_sample 47 = .ok (.iload_n 2, 1) := by decide +kernel
theorem dX11_sample_48 : decode cX11_sample 48 = .ok (.iconst 1, 1) := by decide +kernel
theorem dX11_sample_49 : decode cX11_sample 49 = .ok (.if_icmp .ne 12, 3) := by decide +kernel
theorem dX11_sample_52 : decode cX11_sample 52 = .ok (.aload_n 0, 1) := by decide +kernel
theorem dX11_sample_53 : decode cX11_sample 53 = .ok (.getfield 25, 3) := by decide +kernel
theorem dX11_sample_56 : decode cX11_sample 56 = .ok (.iload_n 1, 1) := by decide +kernel
theorem dX11_sample_57 : decode cX11_sample 57 = .ok (.iaload, 1) := by decide +kernel
theorem dX11_sample_58 : decode cX11_sample 58 = .ok (.goto 23, 3) := by decide +kernel
theorem dX11_sample_61 : decode cX11_sample 61 = .ok (.iload_n 2, 1) := by decide +kernel
theorem dX11_sample_62 : decode cX11_sample 62 = .ok (.iconst 2, 1) := by decide +kernel
theorem dX11_sample_63 : decode cX11_sample 63 = .ok (.if_icmp .ne 12, 3) := by decide +kernel
theorem dX11_sample_66 : decode cX11_sample 66 = .ok (.aload_n 0, 1) := by decide +kernel
theorem dX11_sample_67 : decode cX11_sample 67 = .ok (.getfield 28, 3) := by decide +kernel
theorem dX11_sample_70 : decode cX11_sample 70 = .ok (.iload_n 1, 1) := by decide +kernel
theorem dX11_sample_71 : decode cX11_sample 71 = .ok (.iaload, 1) := by decide +kernel
theorem dX11_sample_72 : decode cX11_sample 72 = .ok (.goto 9, 3) := by decide +kernel
theorem dX11_sample_75 : decode cX11_sample 75 = .ok (.aload_n 0, 1) := by decide +kernel
theorem dX11_sample_76 : decode cX11_sample 76 = .ok (.getfield 31, 3) := by decide +kernel
theorem dX11_sample_79 : decode cX11_sample 79 = .ok (.iload_n 1, 1) := by decide +kernel
theorem dX11_sample_80 : decode cX11_sample 80 = .ok (.iaload, 1) := by decide +kernel
theorem dX11_sample_81 : decode cX11_sample 81 = .ok (.ireturn, 1) := by decide +kernel
theorem ggX11_echo_X11_in : GoodIn wsX11_echo wsX11_in := goodIn_sub (fun w h => (List.mem_cons.mp h).elim (fun e => ft_me e (k_wsX11_echo_wsX11_echo_r1 _ (List.mem_of_getElem? (i := 11) rfl))) (fun h => absurd h List.not_mem_nil)) gw_wsX11_in
theorem gX11_echo_X11_in : GoodIn wsX11_echo (va_wsS RX11 91 yX11_in wsX11_in) := goodIn_app (goodIn_sub (List.forall_mem_cons.mpr ⟨(k_wsX11_echo_wsX11_echo_r1 _ (List.mem_of_getElem? (i := 8) rfl)), List.forall_mem_cons.mpr ⟨(k_wsX11_echo_wsX11_echo_r1 _ (List.mem_of_getElem? (i := 9) rfl)), List.forall_mem_cons.mpr ⟨(k_wsX11_echo_wsX11_echo_r1 _ (List.mem_of_getElem? (i := 10) rfl)), fun _ h => absurd h List.not_mem_nil⟩⟩⟩) (by decide +kernel)) ggX11_echo_X11_in
theorem ggX11_echo_X11_layFlashes : GoodIn wsX11_echo wsX11_layFlashes := goodIn_sub (fun w h => (List.mem_cons.mp h).elim (fun e => ft_me e (k_wsX11_echo_wsX11_echo_r1 _ (List.mem_of_getElem? (i := 15) rfl))) (fun h => (List.mem_append.mp h).elim (fun h => (List.forall_mem_cons.mpr ⟨(k_wsX11_echo_wsX11_echo_r1 _ (List.mem_of_getElem? (i := 16) rfl)), List.forall_mem_cons.mpr ⟨(k_wsX11_echo_wsX11_echo_r1 _ (List.mem_of_getElem? (i := 17) rfl)), List.forall_mem_cons.mpr ⟨(k_wsX11_echo_wsX11_echo_r1 _ (List.mem_of_getElem? (i := 18) rfl)), List.forall_mem_cons.mpr ⟨(k_wsX11_echo_wsX11_echo_r1 _ (List.mem_of_getElem? (i := 19) rfl)), List.forall_mem_cons.mpr ⟨(k_wsX11_echo_wsX11_echo_r1 _ (List.mem_of_getElem? (i := 2) rfl)), List.forall_mem_cons.mpr ⟨(k_wsX11_echo_wsX11_echo_r1 _ (List.mem_of_getElem? (i := 20) rfl)), List.forall_mem_cons.mpr ⟨(k_wsX11_echo_wsX11_echo_r1 _ (List.mem_of_getElem? (i := 21) rfl)), List.forall_mem_cons.mpr ⟨(k_wsX11_echo_wsX11_echo_r1 _ (List.mem_of_getElem? (i := 22) rfl)), List.forall_mem_cons.mpr ⟨(k_wsX11_echo_wsX11_echo_r1 _ (List.mem_of_getElem? (i := 10) rfl)), List.forall_mem_cons.mpr ⟨(k_wsX11_echo_wsX11_echo_r1 _ (List.mem_of_getElem? (i := 23) rfl)), List.forall_mem_cons.mpr ⟨(k_wsX11_echo_wsX11_echo_r2 _ (List.mem_of_getElem? (i := 0) rfl)), List.forall_mem_cons.mpr ⟨(k_wsX11_echo_wsX11_echo_r2 _ (List.mem_of_getElem? (i := 1) rfl)), List.forall_mem_cons.mpr ⟨(k_wsX11_echo_wsX11_echo_r2 _ (List.mem_of_getElem? (i := 2) rfl)), List.forall_mem_cons.mpr ⟨(k_wsX11_echo_wsX11_echo_r2 _ (List.mem_of_getElem? (i := 3) rfl)), List.forall_mem_cons.mpr ⟨(k_wsX11_echo_wsX11_echo_r2 _ (List.mem_of_getElem? (i := 4) rfl)), List.forall_mem_cons.mpr ⟨(k_wsX11_echo_wsX11_echo_r2 _ (List.mem_of_getElem? (i := 5) rfl)), List.forall_mem_cons.mpr ⟨(k_wsX11_echo_wsX11_echo_r2 _ (List.mem_of_getElem? (i := 6) rfl)), List.forall_mem_cons.mpr ⟨(k_wsX11_echo_wsX11_echo_r2 _ (List.mem_of_getElem? (i := 7) rfl)), List.forall_mem_cons.mpr ⟨(k_wsX11_echo_wsX11_echo_r1 _ (List.mem_of_getElem? (i := 4) rfl)), List.forall_mem_cons.mpr ⟨(k_wsX11_echo_wsX11_echo_r1 _ (List.mem_of_getElem? (i := 6) rfl)), List.forall_mem_cons.mpr ⟨(k_wsX11_echo_wsX11_echo_r1 _ (List.mem_of_getElem? (i := 5) rfl)), List.forall_mem_cons.mpr ⟨(k_wsX11_echo_wsX11_echo_r1 _ (List.mem_of_getElem? (i := 7) rfl)), fun _ h => absurd h List.not_mem_nil⟩⟩⟩⟩⟩⟩⟩⟩⟩⟩⟩⟩⟩⟩⟩⟩⟩⟩⟩⟩⟩⟩) w h) (fun h => k_wsX11_echo_wsX110 w h))) gw_wsX11_layFlashes
theorem gX11_echo_X11_layFlashes : GoodIn wsX11_echo (wsV RX11 216 RX11 yX11_layFlashes wsX11_layFlashes) := goodIn_app (goodIn_sub (List.forall_mem_cons.mpr ⟨(k_wsX11_echo_wsX11_echo_r1 _ (List.mem_of_getElem? (i := 12) rfl)), List.forall_mem_cons.mpr ⟨(k_wsX11_echo_wsX11_echo_r1 _ (List.mem_of_getElem? (i := 13) rfl)), List.forall_mem_cons.mpr ⟨(k_wsX11_echo_wsX11_echo_r1 _ (List.mem_of_getElem? (i := 14) rfl)), List.forall_mem_cons.mpr ⟨(k_wsX11_echo_wsX11_echo_r1 _ (List.mem_of_getElem? (i := 10) rfl)), fun _ h => absurd h List.not_mem_nil⟩⟩⟩⟩) (by decide +kernel)) ggX11_echo_X11_layFlashes
theorem dX11_echo_0 : decode cX11_echo 0 = .ok (.iload_n 1, 1) := by decide +kernel
theorem dX11_echo_1 : decode cX11_echo 1 = .ok (.ifCond .lt 15, 3) := by decide +kernel
theorem dX11_echo_4 : decode cX11_echo 4 = .ok (.iload_n 2, 1) := by decide +kernel
theorem dX11_echo_5 : decode cX11_echo 5 = .ok (.i2l, 1) := by decide +kernel
theorem dX11_echo_6 : decode cX11_echo 6 = .ok (.lconst 0, 1) := by decide +kernel
theorem dX11_echo_7 : decode cX11_echo 7 = .ok (.ldc2_w 227, 3) := by decide +kernel
theorem dX11_echo_10 : decode cX11_echo 10 = .ok (.invokestatic 91, 3) := by decide +kernel
theorem dX11_echo_13 : decode cX11_echo 13 = .ok (.ifCond .ne 6, 3) := by decide +kernel
theorem dX11_echo_16 : decode cX11_echo 16 = .ok (.ldc 95, 2) := by decide +kernel
theorem dX11_echo_18 : decode cX11_echo 18 = .ok (.ireturn, 1) := by decide +kernel
theorem dX11_echo_19 : decode cX11_echo 19 = .ok (.aload_n 0, 1) := by decide +kernel
theorem dX11_echo_20 : decode cX11_echo 20 = .ok (.invokevirtual 216, 3) := by decide +kernel
theorem dX11_echo_23 : decode cX11_echo 23 = .ok (.iload_n 1, 1) := by decide +kernel
theorem dX11_echo_24 : decode cX11_echo 24 = .ok (.aload_n 0, 1) := by decide +kernel
theorem dX11_echo_25 : decode cX11_echo 25 = .ok (.getfield 208, 3) := by decide +kernel
theorem dX11_echo_28 : decode cX11_echo 28 = .ok (.if_icmp .lt 6, 3) := by decide +kernel
theorem dX11_echo_31 : decode cX11_echo 31 = .ok (.ldc 173, 2) := by decide +kernel
theorem dX11_echo_33 : decode cX11_echo 33 = .ok (.ireturn, 1) := by decide +kernel
theorem dX11_echo_34 : decode cX11_echo 34 = .ok (.iload_n 2, 1) := by decide +kernel
theorem dX11_echo_35 : decode cX11_echo 35 = .ok (.ifCond .ne 12, 3) := by decide +kernel
theorem dX11_echo_38 : decode cX11_echo 38 = .ok (.aload_n 0, 1) := by decide +kernel
theorem dX11_echo_39 : decode cX11_echo 39 = .ok (.getfield 40, 3) := by decide +kernel
theorem dX11_echo_42 : decode cX11_echo 42 = .ok (.iload_n 1, 1) := by decide +kernel
theorem dX11_echo_43 : decode cX11_echo 43 = .ok (.iaload, 1) := by decide +kernel
theorem dX11_echo_44 : decode cX11_echo 44 = .ok (.goto 37, 3) := by decide +kernel
theorem dX11_echo_47 : decode cX11_echo 47 = .ok (.iload_n 2, 1) := by decide +kernel
theorem dX11_echo_48 : decode cX11_echo 48 = .ok (.iconst 1, 1) := by decide +kernel
theorem dX11_echo_49 : decode cX11_echo 49 = .ok (.if_icmp .ne 12, 3) := by decide +kernel
theorem dX11_echo_52 : decode cX11_echo 52 = .ok (.aload_n 0, 1) := by decide +kernel
theorem dX11_echo_53 : decode cX11_echo 53 = .ok (.getfield 43, 3) := by decide +kernel
theorem dX11_echo_56 : decode cX11_echo 56 = .ok (.iload_n 1, 1) := by decide +kernel
theorem dX11_echo_57 : decode cX11_echo 57 = .ok (.iaload, 1) := by decide +kernel
theorem dX11_echo_58 : decode cX11_echo 58 = .ok (.goto 23, 3) := by decide +kernel
theorem dX11_echo_61 : decode cX11_echo 61 = .ok (.iload_n 2, 1) := by decide +kernel
theorem dX11_echo_62 : decode cX11_echo 62 = .ok (.iconst 2, 1) := by decide +kernel
theorem dX11_echo_63 : decode cX11_echo 63 = .ok (.if_icmp .ne 12, 3) := by decide +kernel
theorem dX11_echo_66 : decode cX11_echo 66 = .ok (.aload_n 0, 1) := by decide +kernel
theorem dX11_echo_67 : decode cX11_echo 67 = .ok (.getfield 46, 3) := by decide +kernel
theorem dX11_echo_70 : decode cX11_echo 70 = .ok (.iload_n 1, 1) := by decide +kernel
theorem dX11_echo_71 : decode cX11_echo 71 = .ok (.iaload, 1) := by decide +kernel
theorem dX11_echo_72 : decode cX11_echo 72 = .ok (.goto 9, 3) := by decide +kernel
theorem dX11_echo_75 : decode cX11_echo 75 = .ok (.aload_n 0, 1) := by decide +kernel
theorem dX11_echo_76 : decode cX11_echo 76 = .ok (.getfield 49, 3) := by decide +kernel
theorem dX11_echo_79 : decode cX11_echo 79 = .ok (.iload_n 1, 1) := by decide +kernel
theorem dX11_echo_80 : decode cX11_echo 80 = .ok (.iaload, 1) := by decide +kernel
theorem dX11_echo_81 : decode cX11_echo 81 = .ok (.ireturn, 1) := by decide +kernel
theorem ggX11_pulsesFor_X11_in : GoodIn wsX11_pulsesFor wsX11_in := goodIn_sub (fun w h => (List.mem_cons.mp h).elim (fun e => ft_me e (k_wsX11_pulsesFor_wsX11_pulsesFor_r1 _ (List.mem_of_getElem? (i := 8) rfl))) (fun h => absurd h List.not_mem_nil)) gw_wsX11_in
theorem gX11_pulsesFor_X11_in : GoodIn wsX11_pulsesFor (va_wsS RX11 91 yX11_in wsX11_in) := goodIn_app (goodIn_sub (List.forall_mem_cons.mpr ⟨(k_wsX11_pulsesFor_wsX11_pulsesFor_r1 _ (List.mem_of_getElem? (i := 5) rfl)), List.forall_mem_cons.mpr ⟨(k_wsX11_pulsesFor_wsX11_pulsesFor_r1 _ (List.mem_of_getElem? (i := 6) rfl)), List.forall_mem_cons.mpr ⟨(k_wsX11_pulsesFor_wsX11_pulsesFor_r1 _ (List.mem_of_getElem? (i := 7) rfl)), fun _ h => absurd h List.not_mem_nil⟩⟩⟩) (by decide +kernel)) ggX11_pulsesFor_X11_in
theorem ggX11_pulsesFor_X11_setting : GoodIn wsX11_pulsesFor wsX11_setting := goodIn_sub (fun w h => (List.mem_cons.mp h).elim (fun e => ft_me e (k_wsX11_pulsesFor_wsX11_pulsesFor_r1 _ (List.mem_of_getElem? (i := 12) rfl))) (fun h => (List.mem_append.mp h).elim (fun h => (List.forall_mem_cons.mpr ⟨(k_wsX11_pulsesFor_wsX11_pulsesFor_r1 _ (List.mem_of_getElem? (i := 3) rfl)), fun _ h => absurd h List.not_mem_nil⟩) w h) (fun h => k_wsX11_pulsesFor_wsX110 w h))) gw_wsX11_setting
theorem gX11_pulsesFor_X11_setting : GoodIn wsX11_pulsesFor (wsV RX11 194 RX11 yX11_setting wsX11_setting) := goodIn_app (goodIn_sub (List.forall_mem_cons.mpr ⟨(k_wsX11_pulsesFor_wsX11_pulsesFor_r1 _ (List.mem_of_getElem? (i := 9) rfl)), List.forall_mem_cons.mpr ⟨(k_wsX11_pulsesFor_wsX11_pulsesFor_r1 _ (List.mem_of_getElem? (i := 10) rfl)), List.forall_mem_cons.mpr ⟨(k_wsX11_pulsesFor_wsX11_pulsesFor_r1 _ (List.mem_of_getElem? (i := 11) rfl)), List.forall_mem_cons.mpr ⟨(k_wsX11_pulsesFor_wsX11_pulsesFor_r1 _ (List.mem_of_getElem? (i := 7) rfl)), fun _ h => absurd h List.not_mem_nil⟩⟩⟩⟩) (by decide +kernel)) ggX11_pulsesFor_X11_setting
theorem ggX11_pulsesFor_X11_layNoise : GoodIn wsX11_pulsesFor wsX11_layNoise := goodIn_sub (fun w h => (List.mem_cons.mp h).elim (fun e => ft_me e (k_wsX11_pulsesFor_wsX11_pulsesFor_r1 _ (List.mem_of_getElem? (i := 16) rfl))) (fun h => (List.mem_append.mp h).elim (fun h => (List.forall_mem_cons.mpr ⟨(k_wsX11_pulsesFor_wsX11_pulsesFor_r1 _ (List.mem_of_getElem? (i := 17) rfl)), List.forall_mem_cons.mpr ⟨(k_wsX11_pulsesFor_wsX11_pulsesFor_r1 _ (List.mem_of_getElem? (i := 4) rfl)), List.forall_mem_cons.mpr ⟨(k_wsX11_pulsesFor_wsX11_pulsesFor_r1 _ (List.mem_of_getElem? (i := 9) rfl)), List.forall_mem_cons.mpr ⟨(k_wsX11_pulsesFor_wsX11_pulsesFor_r1 _ (List.mem_of_getElem? (i := 10) rfl)), List.forall_mem_cons.mpr ⟨(k_wsX11_pulsesFor_wsX11_pulsesFor_r1 _ (List.mem_of_getElem? (i := 11) rfl)), List.forall_mem_cons.mpr ⟨(k_wsX11_pulsesFor_wsX11_pulsesFor_r1 _ (List.mem_of_getElem? (i := 7) rfl)), List.forall_mem_cons.mpr ⟨(k_wsX11_pulsesFor_wsX11_pulsesFor_r1 _ (List.mem_of_getElem? (i := 12) rfl)), List.forall_mem_cons.mpr ⟨(k_wsX11_pulsesFor_wsX11_pulsesFor_r1 _ (List.mem_of_getElem? (i := 3) rfl)), List.forall_mem_cons.mpr ⟨(k_wsX11_pulsesFor_wsX11_pulsesFor_r1 _ (List.mem_of_getElem? (i := 18) rfl)), List.forall_mem_cons.mpr ⟨(k_wsX11_pulsesFor_wsX11_pulsesFor_r1 _ (List.mem_of_getElem? (i := 19) rfl)), List.forall_mem_cons.mpr ⟨(k_wsX11_pulsesFor_wsX11_pulsesFor_r1 _ (List.mem_of_getElem? (i := 20) rfl)), List.forall_mem_cons.mpr ⟨(k_wsX11_pulsesFor_wsX11_pulsesFor_r1 _ (List.mem_of_getElem? (i := 21) rfl)), fun _ h => absurd h List.not_mem_nil⟩⟩⟩⟩⟩⟩⟩⟩⟩⟩⟩⟩) w h) (fun h => k_wsX11_pulsesFor_wsX110 w h))) gw_wsX11_layNoise
theorem gX11_pulsesFor_X11_layNoise : GoodIn wsX11_pulsesFor (wsV RX11 219 RX11 yX11_layNoise wsX11_layNoise) := goodIn_app (goodIn_sub (List.forall_mem_cons.mpr ⟨(k_wsX11_pulsesFor_wsX11_pulsesFor_r1 _ (List.mem_of_getElem? (i := 13) rfl)), List.forall_mem_cons.mpr ⟨(k_wsX11_pulsesFor_wsX11_pulsesFor_r1 _ (List.mem_of_getElem? (i := 14) rfl)), List.forall_mem_cons.mpr ⟨(k_wsX11_pulsesFor_wsX11_pulsesFor_r1 _ (List.mem_of_getElem? (i := 15) rfl)), List.forall_mem_cons.mpr ⟨(k_wsX11_pulsesFor_wsX11_pulsesFor_r1 _ (List.mem_of_getElem? (i := 7) rfl)), fun _ h => absurd h List.not_mem_nil⟩⟩⟩⟩) (by decide +kernel)) ggX11_pulsesFor_X11_layNoise
theorem ggX11_pulsesFor_X11_samples : GoodIn wsX11_pulsesFor wsX11_samples := goodIn_sub (fun w h => (List.mem_cons.mp h).elim (fun e => ft_me e (k_wsX11_pulsesFor_wsX11_pulsesFor_r1 _ (List.mem_of_getElem? (i := 21) rfl))) (fun h => (List.mem_append.mp h).elim (fun h => (List.forall_mem_cons.mpr ⟨(k_wsX11_pulsesFor_wsX11_pulsesFor_r1 _ (List.mem_of_getElem? (i := 3) rfl)), fun _ h => absurd h List.not_mem_nil⟩) w h) (fun h => k_wsX11_pulsesFor_wsX110 w h))) gw_wsX11_samples
theorem gX11_pulsesFor_X11_samples : GoodIn wsX11_pulsesFor (wsV RX11 199 RX11 yX11_samples wsX11_samples) := goodIn_app (goodIn_sub (List.forall_mem_cons.mpr ⟨(k_wsX11_pulsesFor_wsX11_pulsesFor_r1 _ (List.mem_of_getElem? (i := 18) rfl)), List.forall_mem_cons.mpr ⟨(k_wsX11_pulsesFor_wsX11_pulsesFor_r1 _ (List.mem_of_getElem? (i := 19) rfl)), List.forall_mem_cons.mpr ⟨(k_wsX11_pulsesFor_wsX11_pulsesFor_r1 _ (List.mem_of_getElem? (i := 20) rfl)), List.forall_mem_cons.mpr ⟨(k_wsX11_pulsesFor_wsX11_pulsesFor_r1 _ (List.mem_of_getElem? (i := 7) rfl)), fun _ h => absurd h List.not_mem_nil⟩⟩⟩⟩) (by decide +kernel)) ggX11_pulsesFor_X11_samples
theorem ggX11_pulsesFor_X11_sizeOf : GoodIn wsX11_pulsesFor wsX11_sizeOf := goodIn_sub (fun w h => (List.mem_cons.mp h).elim (fun e => ft_me e (k_wsX11_pulsesFor_wsX11_pulsesFor_r2 _ (List.mem_of_getElem? (i := 0) rfl))) (fun h => absurd h List.not_mem_nil)) gw_wsX11_sizeOf
theorem gX11_pulsesFor_X11_sizeOf : GoodIn wsX11_pulsesFor (va_wsS RX11 235 yX11_sizeOf wsX11_sizeOf) := goodIn_app (goodIn_sub (List.forall_mem_cons.mpr ⟨(k_wsX11_pulsesFor_wsX11_pulsesFor_r1 _ (List.mem_of_getElem? (i := 22) rfl)), List.forall_mem_cons.mpr ⟨(k_wsX11_pulsesFor_wsX11_pulsesFor_r1 _ (List.mem_of_getElem? (i := 23) rfl)), List.forall_mem_cons.mpr ⟨(k_wsX11_pulsesFor_wsX11_pulsesFor_r1 _ (List.mem_of_getElem? (i := 7) rfl)), fun _ h => absurd h List.not_mem_nil⟩⟩⟩) (by decide +kernel)) ggX11_pulsesFor_X11_sizeOf
theorem dX11_pulsesFor_0 : decode cX11_pulsesFor 0 = .ok (.iload_n 1, 1) := by decide +kernel
theorem dX11_pulsesFor_1 : decode cX11_pulsesFor 1 = .ok (.i2l, 1) := by decide +kernel
theorem dX11_pulsesFor_2 : decode cX11_pulsesFor 2 = .ok (.lconst 0, 1) := by decide +kernel
theorem dX11_pulsesFor_3 : decode cX11_pulsesFor 3 = .ok (.ldc2_w 124, 3) := by decide +kernel
theorem dX11_pulsesFor_6 : decode cX11_pulsesFor 6 = .ok (.invokestatic 91, 3) := by decide +kernel
theorem dX11_pulsesFor_9 : decode cX11_pulsesFor 9 = .ok (.ifCond .ne 6, 3) := by decide +kernel
theorem dX11_pulsesFor_12 : decode cX11_pulsesFor 12 = .ok (.ldc 95, 2) := by decide +kernel
theorem dX11_pulsesFor_14 : decode cX11_pulsesFor 14 = .ok (.ireturn, 1) := by decide +kernel
theorem dX11_pulsesFor_15 : decode cX11_pulsesFor 15 = .ok (.aload_n 0, 1) := by decide +kernel
theorem dX11_pulsesFor_16 : decode cX11_pulsesFor 16 = .ok (.iconst 4, 1) := by decide +kernel
theorem dX11_pulsesFor_17 : decode cX11_pulsesFor 17 = .ok (.invokevirtual 194, 3) := by decide +kernel
theorem dX11_pulsesFor_20 : decode cX11_pulsesFor 20 = .ok (.istore_n 2, 1) := by decide +kernel
theorem dX11_pulsesFor_21 : decode cX11_pulsesFor 21 = .ok (.ldc 173, 2) := by decide +kernel
theorem dX11_pulsesFor_23 : decode cX11_pulsesFor 23 = .ok (.istore_n 3, 1) := by decide +kernel
theorem dX11_pulsesFor_24 : decode cX11_pulsesFor 24 = .ok (.bipush 32, 2) := by decide +kernel
theorem dX11_pulsesFor_26 : decode cX11_pulsesFor 26 = .ok (.istore 4, 2) := by decide +kernel
theorem dX11_pulsesFor_28 : decode cX11_pulsesFor 28 = .ok (.iload 4, 2) := by decide +kernel
theorem dX11_pulsesFor_30 : decode cX11_pulsesFor 30 = .ok (.ifCond .le 81, 3) := by decide +kernel
theorem dX11_pulsesFor_33 : decode cX11_pulsesFor 33 = .ok (.aload_n 0, 1) := by decide +kernel
theorem dX11_pulsesFor_34 : decode cX11_pulsesFor 34 = .ok (.getfield 7, 3) := by decide +kernel
theorem dX11_pulsesFor_37 : decode cX11_pulsesFor 37 = .ok (.bipush 48, 2) := by decide +kernel
theorem dX11_pulsesFor_39 : decode cX11_pulsesFor 39 = .ok (.iload 4, 2) := by decide +kernel
theorem dX11_pulsesFor_41 : decode cX11_pulsesFor 41 = .ok (.iastore, 1) := by decide +kernel
theorem dX11_pulsesFor_42 : decode cX11_pulsesFor 42 = .ok (.aload_n 0, 1) := by decide +kernel
theorem dX11_pulsesFor_43 : decode cX11_pulsesFor 43 = .ok (.invokevirtual 219, 3) := by decide +kernel
theorem dX11_pulsesFor_46 : decode cX11_pulsesFor 46 = .ok (.iconst 1, 1) := by decide +kernel
theorem dX11_pulsesFor_47 : decode cX11_pulsesFor 47 = .ok (.istore 5, 2) := by decide +kernel
theorem dX11_pulsesFor_49 : decode cX11_pulsesFor 49 = .ok (.iconst 0, 1) := by decide +kernel
theorem dX11_pulsesFor_50 : decode cX11_pulsesFor 50 = .ok (.istore 6, 2) := by decide +kernel
theorem dX11_pulsesFor_52 : decode cX11_pulsesFor 52 = .ok (.iload 6, 2) := by decide +kernel
theorem dX11_pulsesFor_54 : decode cX11_pulsesFor 54 = .ok (.aload_n 0, 1) := by decide +kernel
theorem dX11_pulsesFor_55 : decode cX11_pulsesFor 55 = .ok (.invokevirtual 199, 3) := by decide +kernel
theorem dX11_pulsesFor_58 : decode cX11_pulsesFor 58 = .ok (.if_icmp .ge 35, 3) := by decide +kernel
theorem dX11_pulsesFor_61 : decode cX11_pulsesFor 61 = .ok (.iload 5, 2) := by decide +kernel
theorem dX11_pulsesFor_63 : decode cX11_pulsesFor 63 = .ok (.ifCond .eq 21, 3) := by decide +kernel
theorem dX11_pulsesFor_66 : decode cX11_pulsesFor 66 = .ok (.aload_n 0, 1) := by decide +kernel
theorem dX11_pulsesFor_67 : decode cX11_pulsesFor 67 = .ok (.getfield 31, 3) := by decide +kernel
theorem dX11_pulsesFor_70 : decode cX11_pulsesFor 70 = .ok (.iload 6, 2) := by decide +kernel
theorem dX11_pulsesFor_72 : decode cX11_pulsesFor 72 = .ok (.iaload, 1) := by decide +kernel
theorem dX11_pulsesFor_73 : decode cX11_pulsesFor 73 = .ok (.invokestatic 235, 3) := by decide +kernel
theorem dX11_pulsesFor_76 : decode cX11_pulsesFor 76 = .ok (.iload_n 1, 1) := by decide +kernel
theorem dX11_pulsesFor_77 : decode cX11_pulsesFor 77 = .ok (.if_icmp .gt 7, 3) := by decide +kernel
theorem dX11_pulsesFor_80 : decode cX11_pulsesFor 80 = .ok (.iconst 1, 1) := by decide +kernel
theorem dX11_pulsesFor_81 : decode cX11_pulsesFor 81 = .ok (.goto 4, 3) := by decide +kernel
theorem dX11_pulsesFor_84 : decode cX11_pulsesFor 84 = .ok (.iconst 0, 1) := by decide +kernel
theorem dX11_pulsesFor_85 : decode cX11_pulsesFor 85 = .ok (.istore 5, 2) := by decide +kernel
theorem dX11_pulsesFor_87 : decode cX11_pulsesFor 87 = .ok (.iinc 6 1, 3) := by decide +kernel
theorem dX11_pulsesFor_90 : decode cX11_pulsesFor 90 = .ok (.goto (-38), 3) := by decide +kernel
theorem dX11_pulsesFor_93 : decode cX11_pulsesFor 93 = .ok (.iload 5, 2) := by decide +kernel
theorem dX11_pulsesFor_95 : decode cX11_pulsesFor 95 = .ok (.ifCond .eq 8, 3) := by decide +kernel
theorem dX11_pulsesFor_98 : decode cX11_pulsesFor 98 = .ok (.iload 4, 2) := by decide +kernel
theorem dX11_pulsesFor_100 : decode cX11_pulsesFor 100 = .ok (.goto 4, 3) := by decide +kernel
theorem dX11_pulsesFor_103 : decode cX11_pulsesFor 103 = .ok (.iload_n 3, 1) := by decide +kernel
theorem dX11_pulsesFor_104 : decode cX11_pulsesFor 104 = .ok (.istore_n 3, 1) := by decide +kernel
theorem dX11_pulsesFor_105 : decode cX11_pulsesFor 105 = .ok (.iinc 4 (-1), 3) := by decide +kernel
theorem dX11_pulsesFor_108 : decode cX11_pulsesFor 108 = .ok (.goto (-80), 3) := by decide +kernel
theorem dX11_pulsesFor_111 : decode cX11_pulsesFor 111 = .ok (.aload_n 0, 1) := by decide +kernel
theorem dX11_pulsesFor_112 : decode cX11_pulsesFor 112 = .ok (.getfield 7, 3) := by decide +kernel
theorem dX11_pulsesFor_115 : decode cX11_pulsesFor 115 = .ok (.bipush 48, 2) := by decide +kernel
theorem dX11_pulsesFor_117 : decode cX11_pulsesFor 117 = .ok (.iload_n 2, 1) := by decide +kernel
theorem dX11_pulsesFor_118 : decode cX11_pulsesFor 118 = .ok (.iastore, 1) := by decide +kernel
theorem dX11_pulsesFor_119 : decode cX11_pulsesFor 119 = .ok (.iload_n 3, 1) := by decide +kernel
theorem dX11_pulsesFor_120 : decode cX11_pulsesFor 120 = .ok (.ireturn, 1) := by decide +kernel
theorem ggX11_endOf_X11_samples : GoodIn wsX11_endOf wsX11_samples := goodIn_sub (fun w h => (List.mem_cons.mp h).elim (fun e => ft_me e (List.mem_cons_of_mem _ (List.mem_append_left _ (List.mem_of_getElem? (i := 4) rfl)))) (fun h => (List.mem_append.mp h).elim (fun h => (List.forall_mem_cons.mpr ⟨(List.mem_cons_of_mem _ (List.mem_append_left _ (List.mem_of_getElem? (i := 5) rfl))), fun _ h => absurd h List.not_mem_nil⟩) w h) (fun h => k_wsX11_endOf_wsX110 w h))) gw_wsX11_samples
theorem gX11_endOf_X11_samples : GoodIn wsX11_endOf (wsV RX11 199 RX11 yX11_samples wsX11_samples) := goodIn_app (goodIn_sub (List.forall_mem_cons.mpr ⟨(List.mem_cons_of_mem _ (List.mem_append_left _ (List.mem_of_getElem? (i := 0) rfl))), List.forall_mem_cons.mpr ⟨(List.mem_cons_of_mem _ (List.mem_append_left _ (List.mem_of_getElem? (i := 1) rfl))), List.forall_mem_cons.mpr ⟨(List.mem_cons_of_mem _ (List.mem_append_left _ (List.mem_of_getElem? (i := 2) rfl))), List.forall_mem_cons.mpr ⟨(List.mem_cons_of_mem _ (List.mem_append_left _ (List.mem_of_getElem? (i := 3) rfl))), fun _ h => absurd h List.not_mem_nil⟩⟩⟩⟩) (by decide +kernel)) ggX11_endOf_X11_samples
theorem ggX11_endOf_X11_setting : GoodIn wsX11_endOf wsX11_setting := goodIn_sub (fun w h => (List.mem_cons.mp h).elim (fun e => ft_me e (List.mem_cons_of_mem _ (List.mem_append_left _ (List.mem_of_getElem? (i := 9) rfl)))) (fun h => (List.mem_append.mp h).elim (fun h => (List.forall_mem_cons.mpr ⟨(List.mem_cons_of_mem _ (List.mem_append_left _ (List.mem_of_getElem? (i := 5) rfl))), fun _ h => absurd h List.not_mem_nil⟩) w h) (fun h => k_wsX11_endOf_wsX110 w h))) gw_wsX11_setting
theorem gX11_endOf_X11_setting : GoodIn wsX11_endOf (wsV RX11 194 RX11 yX11_setting wsX11_setting) := goodIn_app (goodIn_sub (List.forall_mem_cons.mpr ⟨(List.mem_cons_of_mem _ (List.mem_append_left _ (List.mem_of_getElem? (i := 6) rfl))), List.forall_mem_cons.mpr ⟨(List.mem_cons_of_mem _ (List.mem_append_left _ (List.mem_of_getElem? (i := 7) rfl))), List.forall_mem_cons.mpr ⟨(List.mem_cons_of_mem _ (List.mem_append_left _ (List.mem_of_getElem? (i := 8) rfl))), List.forall_mem_cons.mpr ⟨(List.mem_cons_of_mem _ (List.mem_append_left _ (List.mem_of_getElem? (i := 3) rfl))), fun _ h => absurd h List.not_mem_nil⟩⟩⟩⟩) (by decide +kernel)) ggX11_endOf_X11_setting
theorem ggX11_endOf_X11_v : GoodIn wsX11_endOf wsX11_v := goodIn_sub (fun w h => (List.mem_cons.mp h).elim (fun e => ft_me e (List.mem_cons_of_mem _ (List.mem_append_left _ (List.mem_of_getElem? (i := 13) rfl)))) (fun h => (List.mem_append.mp h).elim (fun h => (List.forall_mem_cons.mpr ⟨(List.mem_cons_of_mem _ (List.mem_append_left _ (List.mem_of_getElem? (i := 14) rfl))), List.forall_mem_cons.mpr ⟨(List.mem_cons_of_mem _ (List.mem_append_left _ (List.mem_of_getElem? (i := 15) rfl))), List.forall_mem_cons.mpr ⟨(List.mem_cons_of_mem _ (List.mem_append_left _ (List.mem_of_getElem? (i := 16) rfl))), fun _ h => absurd h List.not_mem_nil⟩⟩⟩) w h) (fun h => k_wsX11_endOf_wsX110 w h))) gw_wsX11_v
theorem gX11_endOf_X11_v : GoodIn wsX11_endOf (wsV RX11 232 RX11 yX11_v wsX11_v) := goodIn_app (goodIn_sub (List.forall_mem_cons.mpr ⟨(List.mem_cons_of_mem _ (List.mem_append_left _ (List.mem_of_getElem? (i := 10) rfl))), List.forall_mem_cons.mpr ⟨(List.mem_cons_of_mem _ (List.mem_append_left _ (List.mem_of_getElem? (i := 11) rfl))), List.forall_mem_cons.mpr ⟨(List.mem_cons_of_mem _ (List.mem_append_left _ (List.mem_of_getElem? (i := 12) rfl))), List.forall_mem_cons.mpr ⟨(List.mem_cons_of_mem _ (List.mem_append_left _ (List.mem_of_getElem? (i := 3) rfl))), fun _ h => absurd h List.not_mem_nil⟩⟩⟩⟩) (by decide +kernel)) ggX11_endOf_X11_v
theorem ggX11_endOf_X11_sizeOf : GoodIn wsX11_endOf wsX11_sizeOf := goodIn_sub (fun w h => (List.mem_cons.mp h).elim (fun e => ft_me e (List.mem_cons_of_mem _ (List.mem_append_left _ (List.mem_of_getElem? (i := 19) rfl)))) (fun h => absurd h List.not_mem_nil)) gw_wsX11_sizeOf
theorem gX11_endOf_X11_sizeOf : GoodIn wsX11_endOf (va_wsS RX11 235 yX11_sizeOf wsX11_sizeOf) := goodIn_app (goodIn_sub (List.forall_mem_cons.mpr ⟨(List.mem_cons_of_mem _ (List.mem_append_left _ (List.mem_of_getElem? (i := 17) rfl))), List.forall_mem_cons.mpr ⟨(List.mem_cons_of_mem _ (List.mem_append_left _ (List.mem_of_getElem? (i := 18) rfl))), List.forall_mem_cons.mpr ⟨(List.mem_cons_of_mem _ (List.mem_append_left _ (List.mem_of_getElem? (i := 3) rfl))), fun _ h => absurd h List.not_mem_nil⟩⟩⟩) (by decide +kernel)) ggX11_endOf_X11_sizeOf
theorem dX11_endOf_0 : decode cX11_endOf 0 = .ok (.aload_n 0, 1) := by decide +kernel
theorem dX11_endOf_1 : decode cX11_endOf 1 = .ok (.invokevirtual 199, 3) := by decide +kernel
theorem dX11_endOf_4 : decode cX11_endOf 4 = .ok (.iconst 1, 1) := by decide +kernel
theorem dX11_endOf_5 : decode cX11_endOf 5 = .ok (.isub, 1) := by decide +kernel
theorem dX11_endOf_6 : decode cX11_endOf 6 = .ok (.istore_n 3, 1) := by decide +kernel
theorem dX11_endOf_7 : decode cX11_endOf 7 = .ok (.iload_n 2, 1) := by decide +kernel
theorem dX11_endOf_8 : decode cX11_endOf 8 = .ok (.ifCond .eq 15, 3) := by decide +kernel
theorem dX11_endOf_11 : decode cX11_endOf 11 = .ok (.iload_n 1, 1) := by decide +kernel
theorem dX11_endOf_12 : decode cX11_endOf 12 = .ok (.aload_n 0, 1) := by decide +kernel
theorem dX11_endOf_13 : decode cX11_endOf 13 = .ok (.iconst 0, 1) := by decide +kernel
theorem dX11_endOf_14 : decode cX11_endOf 14 = .ok (.invokevirtual 194, 3) := by decide +kernel
theorem dX11_endOf_17 : decode cX11_endOf 17 = .ok (.iadd, 1) := by decide +kernel
theorem dX11_endOf_18 : decode cX11_endOf 18 = .ok (.iconst 1, 1) := by decide +kernel
theorem dX11_endOf_19 : decode cX11_endOf 19 = .ok (.isub, 1) := by decide +kernel
theorem dX11_endOf_20 : decode cX11_endOf 20 = .ok (.goto 4, 3) := by decide +kernel
theorem dX11_endOf_23 : decode cX11_endOf 23 = .ok (.iload_n 1, 1) := by decide +kernel
theorem dX11_endOf_24 : decode cX11_endOf 24 = .ok (.istore 4, 2) := by decide +kernel
theorem dX11_endOf_26 : decode cX11_endOf 26 = .ok (.iload 4, 2) := by decide +kernel
theorem dX11_endOf_28 : decode cX11_endOf 28 = .ok (.iload_n 3, 1) := by decide +kernel
theorem dX11_endOf_29 : decode cX11_endOf 29 = .ok (.if_icmp .ge 39, 3) := by decide +kernel
theorem dX11_endOf_32 : decode cX11_endOf 32 = .ok (.aload_n 0, 1) := by decide +kernel
theorem dX11_endOf_33 : decode cX11_endOf 33 = .ok (.iload 4, 2) := by decide +kernel
theorem dX11_endOf_35 : decode cX11_endOf 35 = .ok (.iconst 1, 1) := by decide +kernel
theorem dX11_endOf_36 : decode cX11_endOf 36 = .ok (.iadd, 1) := by decide +kernel
theorem dX11_endOf_37 : decode cX11_endOf 37 = .ok (.invokevirtual 232, 3) := by decide +kernel
theorem dX11_endOf_40 : decode cX11_endOf 40 = .ok (.aload_n 0, 1) := by decide +kernel
theorem dX11_endOf_41 : decode cX11_endOf 41 = .ok (.iload 4, 2) := by decide +kernel
theorem dX11_endOf_43 : decode cX11_endOf 43 = .ok (.invokevirtual 232, 3) := by decide +kernel
theorem dX11_endOf_46 : decode cX11_endOf 46 = .ok (.isub, 1) := by decide +kernel
theorem dX11_endOf_47 : decode cX11_endOf 47 = .ok (.invokestatic 235, 3) := by decide +kernel
theorem dX11_endOf_50 : decode cX11_endOf 50 = .ok (.aload_n 0, 1) := by decide +kernel
theorem dX11_endOf_51 : decode cX11_endOf 51 = .ok (.bipush 7, 2) := by decide +kernel
theorem dX11_endOf_53 : decode cX11_endOf 53 = .ok (.invokevirtual 194, 3) := by decide +kernel
theorem dX11_endOf_56 : decode cX11_endOf 56 = .ok (.if_icmp .gt 6, 3) := by decide +kernel
theorem dX11_endOf_59 : decode cX11_endOf 59 = .ok (.iload 4, 2) := by decide +kernel
theorem dX11_endOf_61 : decode cX11_endOf 61 = .ok (.ireturn, 1) := by decide +kernel
theorem dX11_endOf_62 : decode cX11_endOf 62 = .ok (.iinc 4 1, 3) := by decide +kernel
theorem dX11_endOf_65 : decode cX11_endOf 65 = .ok (.goto (-39), 3) := by decide +kernel
theorem dX11_endOf_68 : decode cX11_endOf 68 = .ok (.iload_n 3, 1) := by decide +kernel
theorem dX11_endOf_69 : decode cX11_endOf 69 = .ok (.ireturn, 1) := by decide +kernel
theorem ggX11_hasMakers_X11_sizeOf : GoodIn wsX11_hasMakers wsX11_sizeOf := goodIn_sub (fun w h => (List.mem_cons.mp h).elim (fun e => ft_me e (List.mem_cons_of_mem _ (List.mem_append_left _ (List.mem_of_getElem? (i := 7) rfl)))) (fun h => absurd h List.not_mem_nil)) gw_wsX11_sizeOf
theorem gX11_hasMakers_X11_sizeOf : GoodIn wsX11_hasMakers (va_wsS RX11 235 yX11_sizeOf wsX11_sizeOf) := goodIn_app (goodIn_sub (List.forall_mem_cons.mpr ⟨(List.mem_cons_of_mem _ (List.mem_append_left _ (List.mem_of_getElem? (i := 4) rfl))), List.forall_mem_cons.mpr ⟨(List.mem_cons_of_mem _ (List.mem_append_left _ (List.mem_of_getElem? (i := 5) rfl))), List.forall_mem_cons.mpr ⟨(List.mem_cons_of_mem _ (List.mem_append_left _ (List.mem_of_getElem? (i := 6) rfl))), fun _ h => absurd h List.not_mem_nil⟩⟩⟩) (by decide +kernel)) ggX11_hasMakers_X11_sizeOf
theorem ggX11_hasMakers_X11_setting : GoodIn wsX11_hasMakers wsX11_setting := goodIn_sub (fun w h => (List.mem_cons.mp h).elim (fun e => ft_me e (List.mem_cons_of_mem _ (List.mem_append_left _ (List.mem_of_getElem? (i := 11) rfl)))) (fun h => (List.mem_append.mp h).elim (fun h => (List.forall_mem_cons.mpr ⟨(List.mem_cons_of_mem _ (List.mem_append_left _ (List.mem_of_getElem? (i := 12) rfl))), fun _ h => absurd h List.not_mem_nil⟩) w h) (fun h => k_wsX11_hasMakers_wsX110 w h))) gw_wsX11_setting
theorem gX11_hasMakers_X11_setting : GoodIn wsX11_hasMakers (wsV RX11 194 RX11 yX11_setting wsX11_setting) := goodIn_app (goodIn_sub (List.forall_mem_cons.mpr ⟨(List.mem_cons_of_mem _ (List.mem_append_left _ (List.mem_of_getElem? (i := 8) rfl))), List.forall_mem_cons.mpr ⟨(List.mem_cons_of_mem _ (List.mem_append_left _ (List.mem_of_getElem? (i := 9) rfl))), List.forall_mem_cons.mpr ⟨(List.mem_cons_of_mem _ (List.mem_append_left _ (List.mem_of_getElem? (i := 10) rfl))), List.forall_mem_cons.mpr ⟨(List.mem_cons_of_mem _ (List.mem_append_left _ (List.mem_of_getElem? (i := 6) rfl))), fun _ h => absurd h List.not_mem_nil⟩⟩⟩⟩) (by decide +kernel)) ggX11_hasMakers_X11_setting
theorem dX11_hasMakers_0 : decode cX11_hasMakers 0 = .ok (.iconst 0, 1) := by decide +kernel
theorem dX11_hasMakers_1 : decode cX11_hasMakers 1 = .ok (.istore_n 2, 1) := by decide +kernel
theorem dX11_hasMakers_2 : decode cX11_hasMakers 2 = .ok (.iload_n 2, 1) := by decide +kernel
theorem dX11_hasMakers_3 : decode cX11_hasMakers 3 = .ok (.iload_n 1, 1) := by decide +kernel
theorem dX11_hasMakers_4 : decode cX11_hasMakers 4 = .ok (.if_icmp .ge 94, 3) := by decide +kernel
theorem dX11_hasMakers_7 : decode cX11_hasMakers 7 = .ok (.iload_n 2, 1) := by decide +kernel
theorem dX11_hasMakers_8 : decode cX11_hasMakers 8 = .ok (.iconst 1, 1) := by decide +kernel
theorem dX11_hasMakers_9 : decode cX11_hasMakers 9 = .ok (.iadd, 1) := by decide +kernel
theorem dX11_hasMakers_10 : decode cX11_hasMakers 10 = .ok (.istore_n 3, 1) := by decide +kernel
theorem dX11_hasMakers_11 : decode cX11_hasMakers 11 = .ok (.iload_n 3, 1) := by decide +kernel
theorem dX11_hasMakers_12 : decode cX11_hasMakers 12 = .ok (.iload_n 1, 1) := by decide +kernel
theorem dX11_hasMakers_13 : decode cX11_hasMakers 13 = .ok (.if_icmp .ge 79, 3) := by decide +kernel
theorem dX11_hasMakers_16 : decode cX11_hasMakers 16 = .ok (.aload_n 0, 1) := by decide +kernel
theorem dX11_hasMakers_17 : decode cX11_hasMakers 17 = .ok (.getfield 64, 3) := by decide +kernel
theorem dX11_hasMakers_20 : decode cX11_hasMakers 20 = .ok (.iload_n 2, 1) := by decide +kernel
theorem dX11_hasMakers_21 : decode cX11_hasMakers 21 = .ok (.iaload, 1) := by decide +kernel
theorem dX11_hasMakers_22 : decode cX11_hasMakers 22 = .ok (.iconst 1, 1) := by decide +kernel
theorem dX11_hasMakers_23 : decode cX11_hasMakers 23 = .ok (.if_icmp .ne 63, 3) := by decide +kernel
theorem dX11_hasMakers_26 : decode cX11_hasMakers 26 = .ok (.aload_n 0, 1) := by decide +kernel
theorem dX11_hasMakers_27 : decode cX11_hasMakers 27 = .ok (.getfield 64, 3) := by decide +kernel
theorem dX11_hasMakers_30 : decode cX11_hasMakers 30 = .ok (.iload_n 3, 1) := by decide +kernel
theorem dX11_hasMakers_31 : decode cX11_hasMakers 31 = .ok (.iaload, 1) := by decide +kernel
theorem dX11_hasMakers_32 : decode cX11_hasMakers 32 = .ok (.iconst 1, 1) := by decide +kernel
theorem dX11_hasMakers_33 : decode cX11_hasMakers 33 = .ok (.if_icmp .ne 53, 3) := by decide +kernel
theorem dX11_hasMakers_36 : decode cX11_hasMakers 36 = .ok (.iconst 2, 1) := by decide +kernel
theorem dX11_hasMakers_37 : decode cX11_hasMakers 37 = .ok (.aload_n 0, 1) := by decide +kernel
theorem dX11_hasMakers_38 : decode cX11_hasMakers 38 = .ok (.getfield 52, 3) := by decide +kernel
theorem dX11_hasMakers_41 : decode cX11_hasMakers 41 = .ok (.iload_n 3, 1) := by decide +kernel
theorem dX11_hasMakers_42 : decode cX11_hasMakers 42 = .ok (.iaload, 1) := by decide +kernel
theorem dX11_hasMakers_43 : decode cX11_hasMakers 43 = .ok (.imul, 1) := by decide +kernel
theorem dX11_hasMakers_44 : decode cX11_hasMakers 44 = .ok (.aload_n 0, 1) := by decide +kernel
theorem dX11_hasMakers_45 : decode cX11_hasMakers 45 = .ok (.getfield 52, 3) := by decide +kernel
theorem dX11_hasMakers_48 : decode cX11_hasMakers 48 = .ok (.iload_n 2, 1) := by decide +kernel
theorem dX11_hasMakers_49 : decode cX11_hasMakers 49 = .ok (.iaload, 1) := by decide +kernel
theorem dX11_hasMakers_50 : decode cX11_hasMakers 50 = .ok (.isub, 1) := by decide +kernel
theorem dX11_hasMakers_51 : decode cX11_hasMakers 51 = .ok (.aload_n 0, 1) := by decide +kernel
theorem dX11_hasMakers_52 : decode cX11_hasMakers 52 = .ok (.getfield 52, 3) := by decide +kernel
theorem dX11_hasMakers_55 : decode cX11_hasMakers 55 = .ok (.iload_n 1, 1) := by decide +kernel
theorem dX11_hasMakers_56 : decode cX11_hasMakers 56 = .ok (.iaload, 1) := by decide +kernel
theorem dX11_hasMakers_57 : decode cX11_hasMakers 57 = .ok (.isub, 1) := by decide +kernel
theorem dX11_hasMakers_58 : decode cX11_hasMakers 58 = .ok (.invokestatic 235, 3) := by decide +kernel
theorem dX11_hasMakers_61 : decode cX11_hasMakers 61 = .ok (.aload_n 0, 1) := by decide +kernel
theorem dX11_hasMakers_62 : decode cX11_hasMakers 62 = .ok (.bipush 9, 2) := by decide +kernel
theorem dX11_hasMakers_64 : decode cX11_hasMakers 64 = .ok (.invokevirtual 194, 3) := by decide +kernel
theorem dX11_hasMakers_67 : decode cX11_hasMakers 67 = .ok (.if_icmp .gt 19, 3) := by decide +kernel
theorem dX11_hasMakers_70 : decode cX11_hasMakers 70 = .ok (.aload_n 0, 1) := by decide +kernel
theorem dX11_hasMakers_71 : decode cX11_hasMakers 71 = .ok (.getfield 70, 3) := by decide +kernel
theorem dX11_hasMakers_74 : decode cX11_hasMakers 74 = .ok (.iload_n 1, 1) := by decide +kernel
theorem dX11_hasMakers_75 : decode cX11_hasMakers 75 = .ok (.iload_n 2, 1) := by decide +kernel
theorem dX11_hasMakers_76 : decode cX11_hasMakers 76 = .ok (.iastore, 1) := by decide +kernel
theorem dX11_hasMakers_77 : decode cX11_hasMakers 77 = .ok (.aload_n 0, 1) := by decide +kernel
theorem dX11_hasMakers_78 : decode cX11_hasMakers 78 = .ok (.getfield 73, 3) := by decide +kernel
theorem dX11_hasMakers_81 : decode cX11_hasMakers 81 = .ok (.iload_n 1, 1) := by decide +kernel
theorem dX11_hasMakers_82 : decode cX11_hasMakers 82 = .ok (.iload_n 3, 1) := by decide +kernel
theorem dX11_hasMakers_83 : decode cX11_hasMakers 83 = .ok (.iastore, 1) := by decide +kernel
theorem dX11_hasMakers_84 : decode cX11_hasMakers 84 = .ok (.iconst 1, 1) := by decide +kernel
theorem dX11_hasMakers_85 : decode cX11_hasMakers 85 = .ok (.ireturn, 1) := by decide +kernel
theorem dX11_hasMakers_86 : decode cX11_hasMakers 86 = .ok (.iinc 3 1, 3) := by decide +kernel
theorem dX11_hasMakers_89 : decode cX11_hasMakers 89 = .ok (.goto (-78), 3) := by decide +kernel
theorem dX11_hasMakers_92 : decode cX11_hasMakers 92 = .ok (.iinc 2 1, 3) := by decide +kernel
theorem dX11_hasMakers_95 : decode cX11_hasMakers 95 = .ok (.goto (-93), 3) := by decide +kernel
theorem dX11_hasMakers_98 : decode cX11_hasMakers 98 = .ok (.iconst 0, 1) := by decide +kernel
theorem dX11_hasMakers_99 : decode cX11_hasMakers 99 = .ok (.ireturn, 1) := by decide +kernel
theorem ggX11_eventComes_X11_endOf : GoodIn wsX11_eventComes wsX11_endOf := goodIn_sub (fun w h => (List.mem_cons.mp h).elim (fun e => ft_me e (k_wsX11_eventComes_wsX11_eventComes_r1 _ (List.mem_of_getElem? (i := 12) rfl))) (fun h => (List.mem_append.mp h).elim (fun h => (List.forall_mem_cons.mpr ⟨(k_wsX11_eventComes_wsX11_eventComes_r1 _ (List.mem_of_getElem? (i := 13) rfl)), List.forall_mem_cons.mpr ⟨(k_wsX11_eventComes_wsX11_eventComes_r1 _ (List.mem_of_getElem? (i := 14) rfl)), List.forall_mem_cons.mpr ⟨(k_wsX11_eventComes_wsX11_eventComes_r1 _ (List.mem_of_getElem? (i := 15) rfl)), List.forall_mem_cons.mpr ⟨(k_wsX11_eventComes_wsX11_eventComes_r1 _ (List.mem_of_getElem? (i := 11) rfl)), List.forall_mem_cons.mpr ⟨(k_wsX11_eventComes_wsX11_eventComes_r1 _ (List.mem_of_getElem? (i := 16) rfl)), List.forall_mem_cons.mpr ⟨(k_wsX11_eventComes_wsX11_eventComes_r1 _ (List.mem_of_getElem? (i := 17) rfl)), List.forall_mem_cons.mpr ⟨(k_wsX11_eventComes_wsX11_eventComes_r1 _ (List.mem_of_getElem? (i := 18) rfl)), List.forall_mem_cons.mpr ⟨(k_wsX11_eventComes_wsX11_eventComes_r1 _ (List.mem_of_getElem? (i := 19) rfl)), List.forall_mem_cons.mpr ⟨(k_wsX11_eventComes_wsX11_eventComes_r1 _ (List.mem_of_getElem? (i := 20) rfl)), List.forall_mem_cons.mpr ⟨(k_wsX11_eventComes_wsX11_eventComes_r1 _ (List.mem_of_getElem? (i := 21) rfl)), List.forall_mem_cons.mpr ⟨(k_wsX11_eventComes_wsX11_eventComes_r1 _ (List.mem_of_getElem? (i := 22) rfl)), List.forall_mem_cons.mpr ⟨(k_wsX11_eventComes_wsX11_eventComes_r1 _ (List.mem_of_getElem? (i := 23) rfl)), List.forall_mem_cons.mpr ⟨(k_wsX11_eventComes_wsX11_eventComes_r2 _ (List.mem_of_getElem? (i := 0) rfl)), List.forall_mem_cons.mpr ⟨(k_wsX11_eventComes_wsX11_eventComes_r2 _ (List.mem_of_getElem? (i := 1) rfl)), List.forall_mem_cons.mpr ⟨(k_wsX11_eventComes_wsX11_eventComes_r2 _ (List.mem_of_getElem? (i := 2) rfl)), List.forall_mem_cons.mpr ⟨(k_wsX11_eventComes_wsX11_eventComes_r2 _ (List.mem_of_getElem? (i := 3) rfl)), List.forall_mem_cons.mpr ⟨(k_wsX11_eventComes_wsX11_eventComes_r2 _ (List.mem_of_getElem? (i := 4) rfl)), List.forall_mem_cons.mpr ⟨(k_wsX11_eventComes_wsX11_eventComes_r2 _ (List.mem_of_getElem? (i := 5) rfl)), List.forall_mem_cons.mpr ⟨(k_wsX11_eventComes_wsX11_eventComes_r2 _ (List.mem_of_getElem? (i := 6) rfl)), List.forall_mem_cons.mpr ⟨(k_wsX11_eventComes_wsX11_eventComes_r2 _ (List.mem_of_getElem? (i := 7) rfl)), fun _ h => absurd h List.not_mem_nil⟩⟩⟩⟩⟩⟩⟩⟩⟩⟩⟩⟩⟩⟩⟩⟩⟩⟩⟩⟩) w h) (fun h => k_wsX11_eventComes_wsX110 w h))) gw_wsX11_endOf
theorem gX11_eventComes_X11_endOf : GoodIn wsX11_eventComes (wsV RX11 241 RX11 yX11_endOf wsX11_endOf) := goodIn_app (goodIn_sub (List.forall_mem_cons.mpr ⟨(k_wsX11_eventComes_wsX11_eventComes_r1 _ (List.mem_of_getElem? (i := 8) rfl)), List.forall_mem_cons.mpr ⟨(k_wsX11_eventComes_wsX11_eventComes_r1 _ (List.mem_of_getElem? (i := 9) rfl)), List.forall_mem_cons.mpr ⟨(k_wsX11_eventComes_wsX11_eventComes_r1 _ (List.mem_of_getElem? (i := 10) rfl)), List.forall_mem_cons.mpr ⟨(k_wsX11_eventComes_wsX11_eventComes_r1 _ (List.mem_of_getElem? (i := 11) rfl)), fun _ h => absurd h List.not_mem_nil⟩⟩⟩⟩) (by decide +kernel)) ggX11_eventComes_X11_endOf
theorem ggX11_eventComes_X11_v : GoodIn wsX11_eventComes wsX11_v := goodIn_sub (fun w h => (List.mem_cons.mp h).elim (fun e => ft_me e (k_wsX11_eventComes_wsX11_eventComes_r2 _ (List.mem_of_getElem? (i := 1) rfl))) (fun h => (List.mem_append.mp h).elim (fun h => (List.forall_mem_cons.mpr ⟨(k_wsX11_eventComes_wsX11_eventComes_r2 _ (List.mem_of_getElem? (i := 2) rfl)), List.forall_mem_cons.mpr ⟨(k_wsX11_eventComes_wsX11_eventComes_r2 _ (List.mem_of_getElem? (i := 3) rfl)), List.forall_mem_cons.mpr ⟨(k_wsX11_eventComes_wsX11_eventComes_r2 _ (List.mem_of_getElem? (i := 4) rfl)), fun _ h => absurd h List.not_mem_nil⟩⟩⟩) w h) (fun h => k_wsX11_eventComes_wsX110 w h))) gw_wsX11_v
theorem gX11_eventComes_X11_v : GoodIn wsX11_eventComes (wsV RX11 232 RX11 yX11_v wsX11_v) := goodIn_app (goodIn_sub (List.forall_mem_cons.mpr ⟨(k_wsX11_eventComes_wsX11_eventComes_r1 _ (List.mem_of_getElem? (i := 22) rfl)), List.forall_mem_cons.mpr ⟨(k_wsX11_eventComes_wsX11_eventComes_r1 _ (List.mem_of_getElem? (i := 23) rfl)), List.forall_mem_cons.mpr ⟨(k_wsX11_eventComes_wsX11_eventComes_r2 _ (List.mem_of_getElem? (i := 0) rfl)), List.forall_mem_cons.mpr ⟨(k_wsX11_eventComes_wsX11_eventComes_r1 _ (List.mem_of_getElem? (i := 11) rfl)), fun _ h => absurd h List.not_mem_nil⟩⟩⟩⟩) (by decide +kernel)) ggX11_eventComes_X11_v
theorem ggX11_eventComes_X11_setting : GoodIn wsX11_eventComes wsX11_setting := goodIn_sub (fun w h => (List.mem_cons.mp h).elim (fun e => ft_me e (k_wsX11_eventComes_wsX11_eventComes_r1 _ (List.mem_of_getElem? (i := 21) rfl))) (fun h => (List.mem_append.mp h).elim (fun h => (List.forall_mem_cons.mpr ⟨(k_wsX11_eventComes_wsX11_eventComes_r1 _ (List.mem_of_getElem? (i := 17) rfl)), fun _ h => absurd h List.not_mem_nil⟩) w h) (fun h => k_wsX11_eventComes_wsX110 w h))) gw_wsX11_setting
theorem gX11_eventComes_X11_setting : GoodIn wsX11_eventComes (wsV RX11 194 RX11 yX11_setting wsX11_setting) := goodIn_app (goodIn_sub (List.forall_mem_cons.mpr ⟨(k_wsX11_eventComes_wsX11_eventComes_r1 _ (List.mem_of_getElem? (i := 18) rfl)), List.forall_mem_cons.mpr ⟨(k_wsX11_eventComes_wsX11_eventComes_r1 _ (List.mem_of_getElem? (i := 19) rfl)), List.forall_mem_cons.mpr ⟨(k_wsX11_eventComes_wsX11_eventComes_r1 _ (List.mem_of_getElem? (i := 20) rfl)), List.forall_mem_cons.mpr ⟨(k_wsX11_eventComes_wsX11_eventComes_r1 _ (List.mem_of_getElem? (i := 11) rfl)), fun _ h => absurd h List.not_mem_nil⟩⟩⟩⟩) (by decide +kernel)) ggX11_eventComes_X11_setting
theorem ggX11_eventComes_X11_sizeOf : GoodIn wsX11_eventComes wsX11_sizeOf := goodIn_sub (fun w h => (List.mem_cons.mp h).elim (fun e => ft_me e (k_wsX11_eventComes_wsX11_eventComes_r2 _ (List.mem_of_getElem? (i := 7) rfl))) (fun h => absurd h List.not_mem_nil)) gw_wsX11_sizeOf
theorem gX11_eventComes_X11_sizeOf : GoodIn wsX11_eventComes (va_wsS RX11 235 yX11_sizeOf wsX11_sizeOf) := goodIn_app (goodIn_sub (List.forall_mem_cons.mpr ⟨(k_wsX11_eventComes_wsX11_eventComes_r2 _ (List.mem_of_getElem? (i := 5) rfl)), List.forall_mem_cons.mpr ⟨(k_wsX11_eventComes_wsX11_eventComes_r2 _ (List.mem_of_getElem? (i := 6) rfl)), List.forall_mem_cons.mpr ⟨(k_wsX11_eventComes_wsX11_eventComes_r1 _ (List.mem_of_getElem? (i := 11) rfl)), fun _ h => absurd h List.not_mem_nil⟩⟩⟩) (by decide +kernel)) ggX11_eventComes_X11_sizeOf
theorem ggX11_eventComes_X11_hasMakers : GoodIn wsX11_eventComes wsX11_hasMakers := goodIn_sub (fun w h => (List.mem_cons.mp h).elim (fun e => ft_me e (k_wsX11_eventComes_wsX11_eventComes_r2 _ (List.mem_of_getElem? (i := 11) rfl))) (fun h => (List.mem_append.mp h).elim (fun h => (List.forall_mem_cons.mpr ⟨(k_wsX11_eventComes_wsX11_eventComes_r1 _ (List.mem_of_getElem? (i := 7) rfl)), List.forall_mem_cons.mpr ⟨(k_wsX11_eventComes_wsX11_eventComes_r1 _ (List.mem_of_getElem? (i := 1) rfl)), List.forall_mem_cons.mpr ⟨(k_wsX11_eventComes_wsX11_eventComes_r2 _ (List.mem_of_getElem? (i := 12) rfl)), List.forall_mem_cons.mpr ⟨(k_wsX11_eventComes_wsX11_eventComes_r2 _ (List.mem_of_getElem? (i := 13) rfl)), List.forall_mem_cons.mpr ⟨(k_wsX11_eventComes_wsX11_eventComes_r2 _ (List.mem_of_getElem? (i := 5) rfl)), List.forall_mem_cons.mpr ⟨(k_wsX11_eventComes_wsX11_eventComes_r2 _ (List.mem_of_getElem? (i := 6) rfl)), List.forall_mem_cons.mpr ⟨(k_wsX11_eventComes_wsX11_eventComes_r1 _ (List.mem_of_getElem? (i := 11) rfl)), List.forall_mem_cons.mpr ⟨(k_wsX11_eventComes_wsX11_eventComes_r2 _ (List.mem_of_getElem? (i := 7) rfl)), List.forall_mem_cons.mpr ⟨(k_wsX11_eventComes_wsX11_eventComes_r1 _ (List.mem_of_getElem? (i := 18) rfl)), List.forall_mem_cons.mpr ⟨(k_wsX11_eventComes_wsX11_eventComes_r1 _ (List.mem_of_getElem? (i := 19) rfl)), List.forall_mem_cons.mpr ⟨(k_wsX11_eventComes_wsX11_eventComes_r1 _ (List.mem_of_getElem? (i := 20) rfl)), List.forall_mem_cons.mpr ⟨(k_wsX11_eventComes_wsX11_eventComes_r1 _ (List.mem_of_getElem? (i := 21) rfl)), List.forall_mem_cons.mpr ⟨(k_wsX11_eventComes_wsX11_eventComes_r1 _ (List.mem_of_getElem? (i := 17) rfl)), fun _ h => absurd h List.not_mem_nil⟩⟩⟩⟩⟩⟩⟩⟩⟩⟩⟩⟩⟩) w h) (fun h => k_wsX11_eventComes_wsX110 w h))) gw_wsX11_hasMakers
theorem gX11_eventComes_X11_hasMakers : GoodIn wsX11_eventComes (wsV RX11 248 RX11 yX11_hasMakers wsX11_hasMakers) := goodIn_app (goodIn_sub (List.forall_mem_cons.mpr ⟨(k_wsX11_eventComes_wsX11_eventComes_r2 _ (List.mem_of_getElem? (i := 8) rfl)), List.forall_mem_cons.mpr ⟨(k_wsX11_eventComes_wsX11_eventComes_r2 _ (List.mem_of_getElem? (i := 9) rfl)), List.forall_mem_cons.mpr ⟨(k_wsX11_eventComes_wsX11_eventComes_r2 _ (List.mem_of_getElem? (i := 10) rfl)), List.forall_mem_cons.mpr ⟨(k_wsX11_eventComes_wsX11_eventComes_r1 _ (List.mem_of_getElem? (i := 11) rfl)), fun _ h => absurd h List.not_mem_nil⟩⟩⟩⟩) (by decide +kernel)) ggX11_eventComes_X11_hasMakers
theorem dX11_eventComes_0 : decode cX11_eventComes 0 = .ok (.aload_n 0, 1) := by decide +kernel
theorem dX11_eventComes_1 : decode cX11_eventComes 1 = .ok (.getfield 238, 3) := by decide +kernel
theorem dX11_eventComes_4 : decode cX11_eventComes 4 = .ok (.istore_n 3, 1) := by decide +kernel
theorem dX11_eventComes_5 : decode cX11_eventComes 5 = .ok (.aload_n 0, 1) := by decide +kernel
theorem dX11_eventComes_6 : decode cX11_eventComes 6 = .ok (.getfield 52, 3) := by decide +kernel
theorem dX11_eventComes_9 : decode cX11_eventComes 9 = .ok (.iload_n 3, 1) := by decide +kernel
theorem dX11_eventComes_10 : decode cX11_eventComes 10 = .ok (.iload_n 1, 1) := by decide +kernel
theorem dX11_eventComes_11 : decode cX11_eventComes 11 = .ok (.iastore, 1) := by decide +kernel
theorem dX11_eventComes_12 : decode cX11_eventComes 12 = .ok (.aload_n 0, 1) := by decide +kernel
theorem dX11_eventComes_13 : decode cX11_eventComes 13 = .ok (.getfield 55, 3) := by decide +kernel
theorem dX11_eventComes_16 : decode cX11_eventComes 16 = .ok (.iload_n 3, 1) := by decide +kernel
theorem dX11_eventComes_17 : decode cX11_eventComes 17 = .ok (.aload_n 0, 1) := by decide +kernel
theorem dX11_eventComes_18 : decode cX11_eventComes 18 = .ok (.iload_n 1, 1) := by decide +kernel
theorem dX11_eventComes_19 : decode cX11_eventComes 19 = .ok (.iload_n 2, 1) := by decide +kernel
theorem dX11_eventComes_20 : decode cX11_eventComes 20 = .ok (.invokevirtual 241, 3) := by decide +kernel
theorem dX11_eventComes_23 : decode cX11_eventComes 23 = .ok (.iastore, 1) := by decide +kernel
theorem dX11_eventComes_24 : decode cX11_eventComes 24 = .ok (.aload_n 0, 1) := by decide +kernel
theorem dX11_eventComes_25 : decode cX11_eventComes 25 = .ok (.getfield 58, 3) := by decide +kernel
theorem dX11_eventComes_28 : decode cX11_eventComes 28 = .ok (.iload_n 3, 1) := by decide +kernel
theorem dX11_eventComes_29 : decode cX11_eventComes 29 = .ok (.aload_n 0, 1) := by decide +kernel
theorem dX11_eventComes_30 : decode cX11_eventComes 30 = .ok (.iload_n 1, 1) := by decide +kernel
theorem dX11_eventComes_31 : decode cX11_eventComes 31 = .ok (.iconst 1, 1) := by decide +kernel
theorem dX11_eventComes_32 : decode cX11_eventComes 32 = .ok (.isub, 1) := by decide +kernel
theorem dX11_eventComes_33 : decode cX11_eventComes 33 = .ok (.invokevirtual 232, 3) := by decide +kernel
theorem dX11_eventComes_36 : decode cX11_eventComes 36 = .ok (.aload_n 0, 1) := by decide +kernel
theorem dX11_eventComes_37 : decode cX11_eventComes 37 = .ok (.aload_n 0, 1) := by decide +kernel
theorem dX11_eventComes_38 : decode cX11_eventComes 38 = .ok (.getfield 55, 3) := by decide +kernel
theorem dX11_eventComes_41 : decode cX11_eventComes 41 = .ok (.iload_n 3, 1) := by decide +kernel
theorem dX11_eventComes_42 : decode cX11_eventComes 42 = .ok (.iaload, 1) := by decide +kernel
theorem dX11_eventComes_43 : decode cX11_eventComes 43 = .ok (.invokevirtual 232, 3) := by decide +kernel
theorem dX11_eventComes_46 : decode cX11_eventComes 46 = .ok (.isub, 1) := by decide +kernel
theorem dX11_eventComes_47 : decode cX11_eventComes 47 = .ok (.iastore, 1) := by decide +kernel
theorem dX11_eventComes_48 : decode cX11_eventComes 48 = .ok (.aload_n 0, 1) := by decide +kernel
theorem dX11_eventComes_49 : decode cX11_eventComes 49 = .ok (.getfield 67, 3) := by decide +kernel
theorem dX11_eventComes_52 : decode cX11_eventComes 52 = .ok (.iload_n 3, 1) := by decide +kernel
theorem dX11_eventComes_53 : decode cX11_eventComes 53 = .ok (.aload_n 0, 1) := by decide +kernel
theorem dX11_eventComes_54 : decode cX11_eventComes 54 = .ok (.iload_n 3, 1) := by decide +kernel
theorem dX11_eventComes_55 : decode cX11_eventComes 55 = .ok (.ifCond .ne 7, 3) := by decide +kernel
theorem dX11_eventComes_58 : decode cX11_eventComes 58 = .ok (.iconst 0, 1) := by decide +kernel
theorem dX11_eventComes_59 : decode cX11_eventComes 59 = .ok (.goto 11, 3) := by decide +kernel
theorem dX11_eventComes_62 : decode cX11_eventComes 62 = .ok (.aload_n 0, 1) := by decide +kernel
theorem dX11_eventComes_63 : decode cX11_eventComes 63 = .ok (.getfield 55, 3) := by decide +kernel
theorem dX11_eventComes_66 : decode cX11_eventComes 66 = .ok (.iload_n 3, 1) := by decide +kernel
theorem dX11_eventComes_67 : decode cX11_eventComes 67 = .ok (.iconst 1, 1) := by decide +kernel
theorem dX11_eventComes_68 : decode cX11_eventComes 68 = .ok (.isub, 1) := by decide +kernel
theorem dX11_eventComes_69 : decode cX11_eventComes 69 = .ok (.iaload, 1) := by decide +kernel
theorem dX11_eventComes_70 : decode cX11_eventComes 70 = .ok (.invokevirtual 232, 3) := by decide +kernel
theorem dX11_eventComes_73 : decode cX11_eventComes 73 = .ok (.aload_n 0, 1) := by decide +kernel
theorem dX11_eventComes_74 : decode cX11_eventComes 74 = .ok (.iload_n 1, 1) := by decide +kernel
theorem dX11_eventComes_75 : decode cX11_eventComes 75 = .ok (.iconst 1, 1) := by decide +kernel
theorem dX11_eventComes_76 : decode cX11_eventComes 76 = .ok (.isub, 1) := by decide +kernel
theorem dX11_eventComes_77 : decode cX11_eventComes 77 = .ok (.invokevirtual 232, 3) := by decide +kernel
theorem dX11_eventComes_80 : decode cX11_eventComes 80 = .ok (.isub, 1) := by decide +kernel
theorem dX11_eventComes_81 : decode cX11_eventComes 81 = .ok (.iastore, 1) := by decide +kernel
theorem dX11_eventComes_82 : decode cX11_eventComes 82 = .ok (.aload_n 0, 1) := by decide +kernel
theorem dX11_eventComes_83 : decode cX11_eventComes 83 = .ok (.iload_n 1, 1) := by decide +kernel
theorem dX11_eventComes_84 : decode cX11_eventComes 84 = .ok (.invokevirtual 232, 3) := by decide +kernel
theorem dX11_eventComes_87 : decode cX11_eventComes 87 = .ok (.istore 4, 2) := by decide +kernel
theorem dX11_eventComes_89 : decode cX11_eventComes 89 = .ok (.iload_n 1, 1) := by decide +kernel
theorem dX11_eventComes_90 : decode cX11_eventComes 90 = .ok (.istore 5, 2) := by decide +kernel
theorem dX11_eventComes_92 : decode cX11_eventComes 92 = .ok (.iload 5, 2) := by decide +kernel
theorem dX11_eventComes_94 : decode cX11_eventComes 94 = .ok (.aload_n 0, 1) := by decide +kernel
theorem dX11_eventComes_95 : decode cX11_eventComes 95 = .ok (.getfield 55, 3) := by decide +kernel
theorem dX11_eventComes_98 : decode cX11_eventComes 98 = .ok (.iload_n 3, 1) := by decide +kernel
theorem dX11_eventComes_99 : decode cX11_eventComes 99 = .ok (.iaload, 1) := by decide +kernel
theorem dX11_eventComes_100 : decode cX11_eventComes 100 = .ok (.if_icmp .gt 33, 3) := by decide +kernel
theorem dX11_eventComes_103 : decode cX11_eventComes 103 = .ok (.aload_n 0, 1) := by decide +kernel
theorem dX11_eventComes_104 : decode cX11_eventComes 104 = .ok (.iload 5, 2) := by decide +kernel
theorem dX11_eventComes_106 : decode cX11_eventComes 106 = .ok (.invokevirtual 232, 3) := by decide +kernel
theorem dX11_eventComes_109 : decode cX11_eventComes 109 = .ok (.iload 4, 2) := by decide +kernel
theorem dX11_eventComes_111 : decode cX11_eventComes 111 = .ok (.if_icmp .le 12, 3) := by decide +kernel
theorem dX11_eventComes_114 : decode cX11_eventComes 114 = .ok (.aload_n 0, 1) := by decide +kernel
theorem dX11_eventComes_115 : decode cX11_eventComes 115 = .ok (.iload 5, 2) := by decide +kernel
theorem dX11_eventComes_117 : decode cX11_eventComes 117 = .ok (.invokevirtual 232, 3) := by decide +kernel
theorem dX11_eventComes_120 : decode cX11_eventComes 120 = .ok (.goto 5, 3) := by decide +kernel
theorem dX11_eventComes_123 : decode cX11_eventComes 123 = .ok (.iload 4, 2) := by decide +kernel
theorem dX11_eventComes_125 : decode cX11_eventComes 125 = .ok (.istore 4, 2) := by decide +kernel
theorem dX11_eventComes_127 : decode cX11_eventComes 127 = .ok (.iinc 5 1, 3) := by decide +kernel
theorem dX11_eventComes_130 : decode cX11_eventComes 130 = .ok (.goto (-38), 3) := by decide +kernel
theorem dX11_eventComes_133 : decode cX11_eventComes 133 = .ok (.aload_n 0, 1) := by decide +kernel
theorem dX11_eventComes_134 : decode cX11_eventComes 134 = .ok (.getfield 61, 3) := by decide +kernel
theorem dX11_eventComes_137 : decode cX11_eventComes 137 = .ok (.iload_n 3, 1) := by decide +kernel
theorem dX11_eventComes_138 : decode cX11_eventComes 138 = .ok (.iload_n 2, 1) := by decide +kernel
theorem dX11_eventComes_139 : decode cX11_eventComes 139 = .ok (.ifCond .eq 16, 3) := by decide +kernel
theorem dX11_eventComes_142 : decode cX11_eventComes 142 = .ok (.iload 4, 2) := by decide +kernel
theorem dX11_eventComes_144 : decode cX11_eventComes 144 = .ok (.aload_n 0, 1) := by decide +kernel
theorem dX11_eventComes_145 : decode cX11_eventComes 145 = .ok (.iload_n 1, 1) := by decide +kernel
theorem dX11_eventComes_146 : decode cX11_eventComes 146 = .ok (.iconst 1, 1) := by decide +kernel
theorem dX11_eventComes_147 : decode cX11_eventComes 147 = .ok (.isub, 1) := by decide +kernel
theorem dX11_eventComes_148 : decode cX11_eventComes 148 = .ok (.invokevirtual 232, 3) := by decide +kernel
theorem dX11_eventComes_151 : decode cX11_eventComes 151 = .ok (.isub, 1) := by decide +kernel
theorem dX11_eventComes_152 : decode cX11_eventComes 152 = .ok (.goto 4, 3) := by decide +kernel
theorem dX11_eventComes_155 : decode cX11_eventComes 155 = .ok (.iconst 0, 1) := by decide +kernel
theorem dX11_eventComes_156 : decode cX11_eventComes 156 = .ok (.iastore, 1) := by decide +kernel
theorem dX11_eventComes_157 : decode cX11_eventComes 157 = .ok (.aload_n 0, 1) := by decide +kernel
theorem dX11_eventComes_158 : decode cX11_eventComes 158 = .ok (.aload_n 0, 1) := by decide +kernel
theorem dX11_eventComes_159 : decode cX11_eventComes 159 = .ok (.aload_n 0, 1) := by decide +kernel
theorem dX11_eventComes_160 : decode cX11_eventComes 160 = .ok (.getfield 55, 3) := by decide +kernel
theorem dX11_eventComes_163 : decode cX11_eventComes 163 = .ok (.iload_n 3, 1) := by decide +kernel
theorem dX11_eventComes_164 : decode cX11_eventComes 164 = .ok (.iaload, 1) := by decide +kernel
theorem dX11_eventComes_165 : decode cX11_eventComes 165 = .ok (.invokevirtual 232, 3) := by decide +kernel
theorem dX11_eventComes_168 : decode cX11_eventComes 168 = .ok (.aload_n 0, 1) := by decide +kernel
theorem dX11_eventComes_169 : decode cX11_eventComes 169 = .ok (.bipush 8, 2) := by decide +kernel
theorem dX11_eventComes_171 : decode cX11_eventComes 171 = .ok (.invokevirtual 194, 3) := by decide +kernel
theorem dX11_eventComes_174 : decode cX11_eventComes 174 = .ok (.if_icmp .ge 7, 3) := by decide +kernel
theorem dX11_eventComes_177 : decode cX11_eventComes 177 = .ok (.iconst 1, 1) := by decide +kernel
theorem dX11_eventComes_178 : decode cX11_eventComes 178 = .ok (.goto 4, 3) := by decide +kernel
theorem dX11_eventComes_181 : decode cX11_eventComes 181 = .ok (.iconst 0, 1) := by decide +kernel
theorem dX11_eventComes_182 : decode cX11_eventComes 182 = .ok (.putfield 245, 3) := by decide +kernel
theorem dX11_eventComes_185 : decode cX11_eventComes 185 = .ok (.aload_n 0, 1) := by decide +kernel
theorem dX11_eventComes_186 : decode cX11_eventComes 186 = .ok (.getfield 64, 3) := by decide +kernel
theorem dX11_eventComes_189 : decode cX11_eventComes 189 = .ok (.iload_n 3, 1) := by decide +kernel
theorem dX11_eventComes_190 : decode cX11_eventComes 190 = .ok (.aload_n 0, 1) := by decide +kernel
theorem dX11_eventComes_191 : decode cX11_eventComes 191 = .ok (.getfield 245, 3) := by decide +kernel
theorem dX11_eventComes_194 : decode cX11_eventComes 194 = .ok (.ifCond .eq 7, 3) := by decide +kernel
theorem dX11_eventComes_197 : decode cX11_eventComes 197 = .ok (.iconst 3, 1) := by decide +kernel
theorem dX11_eventComes_198 : decode cX11_eventComes 198 = .ok (.goto 12, 3) := by decide +kernel
theorem dX11_eventComes_201 : decode cX11_eventComes 201 = .ok (.iload_n 2, 1) := by decide +kernel
theorem dX11_eventComes_202 : decode cX11_eventComes 202 = .ok (.ifCond .eq 7, 3) := by decide +kernel
theorem dX11_eventComes_205 : decode cX11_eventComes 205 = .ok (.iconst 1, 1) := by decide +kernel
theorem dX11_eventComes_206 : decode cX11_eventComes 206 = .ok (.goto 4, 3) := by decide +kernel
theorem dX11_eventComes_209 : decode cX11_eventComes 209 = .ok (.iconst 0, 1) := by decide +kernel
theorem dX11_eventComes_210 : decode cX11_eventComes 210 = .ok (.iastore, 1) := by decide +kernel
theorem dX11_eventComes_211 : decode cX11_eventComes 211 = .ok (.aload_n 0, 1) := by decide +kernel
theorem dX11_eventComes_212 : decode cX11_eventComes 212 = .ok (.getfield 64, 3) := by decide +kernel
theorem dX11_eventComes_215 : decode cX11_eventComes 215 = .ok (.iload_n 3, 1) := by decide +kernel
theorem dX11_eventComes_216 : decode cX11_eventComes 216 = .ok (.iaload, 1) := by decide +kernel
theorem dX11_eventComes_217 : decode cX11_eventComes 217 = .ok (.iconst 1, 1) := by decide +kernel
theorem dX11_eventComes_218 : decode cX11_eventComes 218 = .ok (.if_icmp .ne 36, 3) := by decide +kernel
theorem dX11_eventComes_221 : decode cX11_eventComes 221 = .ok (.aload_n 0, 1) := by decide +kernel
theorem dX11_eventComes_222 : decode cX11_eventComes 222 = .ok (.getfield 58, 3) := by decide +kernel
theorem dX11_eventComes_225 : decode cX11_eventComes 225 = .ok (.iload_n 3, 1) := by decide +kernel
theorem dX11_eventComes_226 : decode cX11_eventComes 226 = .ok (.iaload, 1) := by decide +kernel
theorem dX11_eventComes_227 : decode cX11_eventComes 227 = .ok (.invokestatic 235, 3) := by decide +kernel
theorem dX11_eventComes_230 : decode cX11_eventComes 230 = .ok (.aload_n 0, 1) := by decide +kernel
theorem dX11_eventComes_231 : decode cX11_eventComes 231 = .ok (.bipush 10, 2) := by decide +kernel
theorem dX11_eventComes_233 : decode cX11_eventComes 233 = .ok (.invokevirtual 194, 3) := by decide +kernel
theorem dX11_eventComes_236 : decode cX11_eventComes 236 = .ok (.if_icmp .gt 18, 3) := by decide +kernel
theorem dX11_eventComes_239 : decode cX11_eventComes 239 = .ok (.aload_n 0, 1) := by decide +kernel
theorem dX11_eventComes_240 : decode cX11_eventComes 240 = .ok (.iload_n 3, 1) := by decide +kernel
theorem dX11_eventComes_241 : decode cX11_eventComes 241 = .ok (.invokevirtual 248, 3) := by decide +kernel
theorem dX11_eventComes_244 : decode cX11_eventComes 244 = .ok (.ifCond .eq 10, 3) := by decide +kernel
theorem dX11_eventComes_247 : decode cX11_eventComes 247 = .ok (.aload_n 0, 1) := by decide +kernel
theorem dX11_eventComes_248 : decode cX11_eventComes 248 = .ok (.getfield 64, 3) := by decide +kernel
theorem dX11_eventComes_251 : decode cX11_eventComes 251 = .ok (.iload_n 3, 1) := by decide +kernel
theorem dX11_eventComes_252 : decode cX11_eventComes 252 = .ok (.iconst 2, 1) := by decide +kernel
theorem dX11_eventComes_253 : decode cX11_eventComes 253 = .ok (.iastore, 1) := by decide +kernel
theorem dX11_eventComes_254 : decode cX11_eventComes 254 = .ok (.aload_n 0, 1) := by decide +kernel
theorem dX11_eventComes_255 : decode cX11_eventComes 255 = .ok (.dup, 1) := by decide +kernel
theorem dX11_eventComes_256 : decode cX11_eventComes 256 = .ok (.getfield 238, 3) := by decide +kernel
theorem dX11_eventComes_259 : decode cX11_eventComes 259 = .ok (.iconst 1, 1) := by decide +kernel
theorem dX11_eventComes_260 : decode cX11_eventComes 260 = .ok (.iadd, 1) := by decide +kernel
theorem dX11_eventComes_261 : decode cX11_eventComes 261 = .ok (.putfield 238, 3) := by decide +kernel
theorem dX11_eventComes_264 : decode cX11_eventComes 264 = .ok (.return_, 1) := by decide +kernel
set_option maxRecDepth 20000 in
theorem s_X11_layEvents_X11_layTrace_wsX11_layTrace_r1 : ∀ w ∈ wsX11_layTrace_r1, w ∈ wsX11_layEvents := List.forall_mem_cons.mpr ⟨(k_wsX11_layEvents_wsX11_layEvents_r1 _ (List.mem_of_getElem? (i := 8) rfl)), List.forall_mem_cons.mpr ⟨(k_wsX11_layEvents_wsX11_layEvents_r1 _ (List.mem_of_getElem? (i := 9) rfl)), List.forall_mem_cons.mpr ⟨(k_wsX11_layEvents_wsX11_layEvents_r1 _ (List.mem_of_getElem? (i := 10) rfl)), List.forall_mem_cons.mpr ⟨(k_wsX11_layEvents_wsX11_layEvents_r1 _ (List.mem_of_getElem? (i := 11) rfl)), List.forall_mem_cons.mpr ⟨(k_wsX11_layEvents_wsX11_layEvents_r1 _ (List.mem_of_getElem? (i := 12) rfl)), List.forall_mem_cons.mpr ⟨(k_wsX11_layEvents_wsX11_layEvents_r1 _ (List.mem_of_getElem? (i := 13) rfl)), List.forall_mem_cons.mpr ⟨(k_wsX11_layEvents_wsX11_layEvents_r1 _ (List.mem_of_getElem? (i := 14) rfl)), List.forall_mem_cons.mpr ⟨(k_wsX11_layEvents_wsX11_layEvents_r1 _ (List.mem_of_getElem? (i := 15) rfl)), List.forall_mem_cons.mpr ⟨(k_wsX11_layEvents_wsX11_layEvents_r1 _ (List.mem_of_getElem? (i := 16) rfl)), List.forall_mem_cons.mpr ⟨(k_wsX11_layEvents_wsX11_layEvents_r1 _ (List.mem_of_getElem? (i := 17) rfl)), List.forall_mem_cons.mpr ⟨(k_wsX11_layEvents_wsX11_layEvents_r1 _ (List.mem_of_getElem? (i := 18) rfl)), List.forall_mem_cons.mpr ⟨(k_wsX11_layEvents_wsX11_layEvents_r1 _ (List.mem_of_getElem? (i := 19) rfl)), List.forall_mem_cons.mpr ⟨(k_wsX11_layEvents_wsX11_layEvents_r1 _ (List.mem_of_getElem? (i := 20) rfl)), List.forall_mem_cons.mpr ⟨(k_wsX11_layEvents_wsX11_layEvents_r1 _ (List.mem_of_getElem? (i := 6) rfl)), List.forall_mem_cons.mpr ⟨(k_wsX11_layEvents_wsX11_layEvents_r1 _ (List.mem_of_getElem? (i := 21) rfl)), List.forall_mem_cons.mpr ⟨(k_wsX11_layEvents_wsX11_layEvents_r1 _ (List.mem_of_getElem? (i := 22) rfl)), List.forall_mem_cons.mpr ⟨(k_wsX11_layEvents_wsX11_layEvents_r1 _ (List.mem_of_getElem? (i := 23) rfl)), List.forall_mem_cons.mpr ⟨(k_wsX11_layEvents_wsX11_layEvents_r2 _ (List.mem_of_getElem? (i := 0) rfl)), List.forall_mem_cons.mpr ⟨(k_wsX11_layEvents_wsX11_layEvents_r2 _ (List.mem_of_getElem? (i := 1) rfl)), List.forall_mem_cons.mpr ⟨(k_wsX11_layEvents_wsX11_layEvents_r2 _ (List.mem_of_getElem? (i := 2) rfl)), List.forall_mem_cons.mpr ⟨(k_wsX11_layEvents_wsX11_layEvents_r2 _ (List.mem_of_getElem? (i := 3) rfl)), List.forall_mem_cons.mpr ⟨(k_wsX11_layEvents_wsX11_layEvents_r2 _ (List.mem_of_getElem? (i := 4) rfl)), List.forall_mem_cons.mpr ⟨(k_wsX11_layEvents_wsX11_layEvents_r2 _ (List.mem_of_getElem? (i := 5) rfl)), List.forall_mem_cons.mpr ⟨(k_wsX11_layEvents_wsX11_layEvents_r2 _ (List.mem_of_getElem? (i := 6) rfl)), fun _ h => absurd h List.not_mem_nil⟩⟩⟩⟩⟩⟩⟩⟩⟩⟩⟩⟩⟩⟩⟩⟩⟩⟩⟩⟩⟩⟩⟩⟩
set_option maxRecDepth 20000 in
theorem s_X11_layEvents_X11_layTrace_wsX11_layTrace_r2 : ∀ w ∈ wsX11_layTrace_r2, w ∈ wsX11_layEvents := List.forall_mem_cons.mpr ⟨(k_wsX11_layEvents_wsX11_layEvents_r2 _ (List.mem_of_getElem? (i := 7) rfl)), List.forall_mem_cons.mpr ⟨(k_wsX11_layEvents_wsX11_layEvents_r2 _ (List.mem_of_getElem? (i := 8) rfl)), List.forall_mem_cons.mpr ⟨(k_wsX11_layEvents_wsX11_layEvents_r2 _ (List.mem_of_getElem? (i := 9) rfl)), List.forall_mem_cons.mpr ⟨(k_wsX11_layEvents_wsX11_layEvents_r2 _ (List.mem_of_getElem? (i := 10) rfl)), List.forall_mem_cons.mpr ⟨(k_wsX11_layEvents_wsX11_layEvents_r2 _ (List.mem_of_getElem? (i := 11) rfl)), List.forall_mem_cons.mpr ⟨(k_wsX11_layEvents_wsX11_layEvents_r2 _ (List.mem_of_getElem? (i := 12) rfl)), List.forall_mem_cons.mpr ⟨(k_wsX11_layEvents_wsX11_layEvents_r2 _ (List.mem_of_getElem? (i := 13) rfl)), List.forall_mem_cons.mpr ⟨(k_wsX11_layEvents_wsX11_layEvents_r2 _ (List.mem_of_getElem? (i := 14) rfl)), List.forall_mem_cons.mpr ⟨(k_wsX11_layEvents_wsX11_layEvents_r2 _ (List.mem_of_getElem? (i := 15) rfl)), List.forall_mem_cons.mpr ⟨(k_wsX11_layEvents_wsX11_layEvents_r2 _ (List.mem_of_getElem? (i := 16) rfl)), List.forall_mem_cons.mpr ⟨(k_wsX11_layEvents_wsX11_layEvents_r2 _ (List.mem_of_getElem? (i := 17) rfl)), List.forall_mem_cons.mpr ⟨(k_wsX11_layEvents_wsX11_layEvents_r2 _ (List.mem_of_getElem? (i := 18) rfl)), List.forall_mem_cons.mpr ⟨(k_wsX11_layEvents_wsX11_layEvents_r2 _ (List.mem_of_getElem? (i := 19) rfl)), List.forall_mem_cons.mpr ⟨(k_wsX11_layEvents_wsX11_layEvents_r2 _ (List.mem_of_getElem? (i := 20) rfl)), List.forall_mem_cons.mpr ⟨(k_wsX11_layEvents_wsX11_layEvents_r2 _ (List.mem_of_getElem? (i := 21) rfl)), List.forall_mem_cons.mpr ⟨(k_wsX11_layEvents_wsX11_layEvents_r2 _ (List.mem_of_getElem? (i := 22) rfl)), List.forall_mem_cons.mpr ⟨(k_wsX11_layEvents_wsX11_layEvents_r2 _ (List.mem_of_getElem? (i := 23) rfl)), List.forall_mem_cons.mpr ⟨(k_wsX11_layEvents_wsX11_layEvents_r3 _ (List.mem_of_getElem? (i := 0) rfl)), List.forall_mem_cons.mpr ⟨(k_wsX11_layEvents_wsX11_layEvents_r3 _ (List.mem_of_getElem? (i := 1) rfl)), List.forall_mem_cons.mpr ⟨(k_wsX11_layEvents_wsX11_layEvents_r3 _ (List.mem_of_getElem? (i := 2) rfl)), List.forall_mem_cons.mpr ⟨(k_wsX11_layEvents_wsX11_layEvents_r3 _ (List.mem_of_getElem? (i := 3) rfl)), List.forall_mem_cons.mpr ⟨(k_wsX11_layEvents_wsX11_layEvents_r3 _ (List.mem_of_getElem? (i := 4) rfl)), List.forall_mem_cons.mpr ⟨(k_wsX11_layEvents_wsX11_layEvents_r3 _ (List.mem_of_getElem? (i := 5) rfl)), fun _ h => absurd h List.not_mem_nil⟩⟩⟩⟩⟩⟩⟩⟩⟩⟩⟩⟩⟩⟩⟩⟩⟩⟩⟩⟩⟩⟩⟩
theorem ggX11_layEvents_X11_layTrace : GoodIn wsX11_layEvents wsX11_layTrace := goodIn_sub (fun w h => (List.mem_cons.mp h).elim (fun e => ft_me e (k_wsX11_layEvents_wsX11_layEvents_r1 _ (List.mem_of_getElem? (i := 7) rfl))) (fun h => (List.mem_append.mp h).elim (fun h => (List.mem_append.mp h).elim (fun h => s_X11_layEvents_X11_layTrace_wsX11_layTrace_r1 w h) (fun h => s_X11_layEvents_X11_layTrace_wsX11_layTrace_r2 w h)) (fun h => k_wsX11_layEvents_wsX110 w h))) gw_wsX11_layTrace
theorem gX11_layEvents_X11_layTrace : GoodIn wsX11_layEvents (wsV RX11 229 RX11 yX11_layTrace wsX11_layTrace) := goodIn_app (goodIn_sub (List.forall_mem_cons.mpr ⟨(k_wsX11_layEvents_wsX11_layEvents_r1 _ (List.mem_of_getElem? (i := 3) rfl)), List.forall_mem_cons.mpr ⟨(k_wsX11_layEvents_wsX11_layEvents_r1 _ (List.mem_of_getElem? (i := 4) rfl)), List.forall_mem_cons.mpr ⟨(k_wsX11_layEvents_wsX11_layEvents_r1 _ (List.mem_of_getElem? (i := 5) rfl)), List.forall_mem_cons.mpr ⟨(k_wsX11_layEvents_wsX11_layEvents_r1 _ (List.mem_of_getElem? (i := 6) rfl)), fun _ h => absurd h List.not_mem_nil⟩⟩⟩⟩) (by decide +kernel)) ggX11_layEvents_X11_layTrace
theorem ggX11_layEvents_X11_samples : GoodIn wsX11_layEvents wsX11_samples := goodIn_sub (fun w h => (List.mem_cons.mp h).elim (fun e => ft_me e (k_wsX11_layEvents_wsX11_layEvents_r2 _ (List.mem_of_getElem? (i := 21) rfl))) (fun h => (List.mem_append.mp h).elim (fun h => (List.forall_mem_cons.mpr ⟨(k_wsX11_layEvents_wsX11_layEvents_r1 _ (List.mem_of_getElem? (i := 10) rfl)), fun _ h => absurd h List.not_mem_nil⟩) w h) (fun h => k_wsX11_layEvents_wsX110 w h))) gw_wsX11_samples
theorem gX11_layEvents_X11_samples : GoodIn wsX11_layEvents (wsV RX11 199 RX11 yX11_samples wsX11_samples) := goodIn_app (goodIn_sub (List.forall_mem_cons.mpr ⟨(k_wsX11_layEvents_wsX11_layEvents_r2 _ (List.mem_of_getElem? (i := 18) rfl)), List.forall_mem_cons.mpr ⟨(k_wsX11_layEvents_wsX11_layEvents_r2 _ (List.mem_of_getElem? (i := 19) rfl)), List.forall_mem_cons.mpr ⟨(k_wsX11_layEvents_wsX11_layEvents_r2 _ (List.mem_of_getElem? (i := 20) rfl)), List.forall_mem_cons.mpr ⟨(k_wsX11_layEvents_wsX11_layEvents_r1 _ (List.mem_of_getElem? (i := 6) rfl)), fun _ h => absurd h List.not_mem_nil⟩⟩⟩⟩) (by decide +kernel)) ggX11_layEvents_X11_samples
theorem ggX11_layEvents_X11_v : GoodIn wsX11_layEvents wsX11_v := goodIn_sub (fun w h => (List.mem_cons.mp h).elim (fun e => ft_me e (k_wsX11_layEvents_wsX11_layEvents_r3 _ (List.mem_of_getElem? (i := 9) rfl))) (fun h => (List.mem_append.mp h).elim (fun h => (List.forall_mem_cons.mpr ⟨(k_wsX11_layEvents_wsX11_layEvents_r1 _ (List.mem_of_getElem? (i := 9) rfl)), List.forall_mem_cons.mpr ⟨(k_wsX11_layEvents_wsX11_layEvents_r1 _ (List.mem_of_getElem? (i := 11) rfl)), List.forall_mem_cons.mpr ⟨(k_wsX11_layEvents_wsX11_layEvents_r2 _ (List.mem_of_getElem? (i := 17) rfl)), fun _ h => absurd h List.not_mem_nil⟩⟩⟩) w h) (fun h => k_wsX11_layEvents_wsX110 w h))) gw_wsX11_v
theorem gX11_layEvents_X11_v : GoodIn wsX11_layEvents (wsV RX11 232 RX11 yX11_v wsX11_v) := goodIn_app (goodIn_sub (List.forall_mem_cons.mpr ⟨(k_wsX11_layEvents_wsX11_layEvents_r3 _ (List.mem_of_getElem? (i := 6) rfl)), List.forall_mem_cons.mpr ⟨(k_wsX11_layEvents_wsX11_layEvents_r3 _ (List.mem_of_getElem? (i := 7) rfl)), List.forall_mem_cons.mpr ⟨(k_wsX11_layEvents_wsX11_layEvents_r3 _ (List.mem_of_getElem? (i := 8) rfl)), List.forall_mem_cons.mpr ⟨(k_wsX11_layEvents_wsX11_layEvents_r1 _ (List.mem_of_getElem? (i := 6) rfl)), fun _ h => absurd h List.not_mem_nil⟩⟩⟩⟩) (by decide +kernel)) ggX11_layEvents_X11_v
theorem ggX11_layEvents_X11_setting : GoodIn wsX11_layEvents wsX11_setting := goodIn_sub (fun w h => (List.mem_cons.mp h).elim (fun e => ft_me e (k_wsX11_layEvents_wsX11_layEvents_r2 _ (List.mem_of_getElem? (i := 5) rfl))) (fun h => (List.mem_append.mp h).elim (fun h => (List.forall_mem_cons.mpr ⟨(k_wsX11_layEvents_wsX11_layEvents_r1 _ (List.mem_of_getElem? (i := 10) rfl)), fun _ h => absurd h List.not_mem_nil⟩) w h) (fun h => k_wsX11_layEvents_wsX110 w h))) gw_wsX11_setting
theorem gX11_layEvents_X11_setting : GoodIn wsX11_layEvents (wsV RX11 194 RX11 yX11_setting wsX11_setting) := goodIn_app (goodIn_sub (List.forall_mem_cons.mpr ⟨(k_wsX11_layEvents_wsX11_layEvents_r2 _ (List.mem_of_getElem? (i := 2) rfl)), List.forall_mem_cons.mpr ⟨(k_wsX11_layEvents_wsX11_layEvents_r2 _ (List.mem_of_getElem? (i := 3) rfl)), List.forall_mem_cons.mpr ⟨(k_wsX11_layEvents_wsX11_layEvents_r2 _ (List.mem_of_getElem? (i := 4) rfl)), List.forall_mem_cons.mpr ⟨(k_wsX11_layEvents_wsX11_layEvents_r1 _ (List.mem_of_getElem? (i := 6) rfl)), fun _ h => absurd h List.not_mem_nil⟩⟩⟩⟩) (by decide +kernel)) ggX11_layEvents_X11_setting
set_option maxRecDepth 20000 in
theorem s_X11_layEvents_X11_eventComes_wsX11_eventComes_r1 : ∀ w ∈ wsX11_eventComes_r1, w ∈ wsX11_layEvents := List.forall_mem_cons.mpr ⟨(k_wsX11_layEvents_wsX11_layEvents_r1 _ (List.mem_of_getElem? (i := 0) rfl)), List.forall_mem_cons.mpr ⟨(k_wsX11_layEvents_wsX11_layEvents_r3 _ (List.mem_of_getElem? (i := 14) rfl)), List.forall_mem_cons.mpr ⟨(k_wsX11_layEvents_wsX11_layEvents_r1 _ (List.mem_of_getElem? (i := 2) rfl)), List.forall_mem_cons.mpr ⟨(k_wsX11_layEvents_wsX11_layEvents_r3 _ (List.mem_of_getElem? (i := 15) rfl)), List.forall_mem_cons.mpr ⟨(k_wsX11_layEvents_wsX11_layEvents_r3 _ (List.mem_of_getElem? (i := 16) rfl)), List.forall_mem_cons.mpr ⟨(k_wsX11_layEvents_wsX11_layEvents_r3 _ (List.mem_of_getElem? (i := 17) rfl)), List.forall_mem_cons.mpr ⟨(k_wsX11_layEvents_wsX11_layEvents_r1 _ (List.mem_of_getElem? (i := 1) rfl)), List.forall_mem_cons.mpr ⟨(k_wsX11_layEvents_wsX11_layEvents_r3 _ (List.mem_of_getElem? (i := 18) rfl)), List.forall_mem_cons.mpr ⟨(k_wsX11_layEvents_wsX11_layEvents_r3 _ (List.mem_of_getElem? (i := 19) rfl)), List.forall_mem_cons.mpr ⟨(k_wsX11_layEvents_wsX11_layEvents_r3 _ (List.mem_of_getElem? (i := 20) rfl)), List.forall_mem_cons.mpr ⟨(k_wsX11_layEvents_wsX11_layEvents_r3 _ (List.mem_of_getElem? (i := 21) rfl)), List.forall_mem_cons.mpr ⟨(k_wsX11_layEvents_wsX11_layEvents_r1 _ (List.mem_of_getElem? (i := 6) rfl)), List.forall_mem_cons.mpr ⟨(k_wsX11_layEvents_wsX11_layEvents_r3 _ (List.mem_of_getElem? (i := 22) rfl)), List.forall_mem_cons.mpr ⟨(k_wsX11_layEvents_wsX11_layEvents_r2 _ (List.mem_of_getElem? (i := 18) rfl)), List.forall_mem_cons.mpr ⟨(k_wsX11_layEvents_wsX11_layEvents_r2 _ (List.mem_of_getElem? (i := 19) rfl)), List.forall_mem_cons.mpr ⟨(k_wsX11_layEvents_wsX11_layEvents_r2 _ (List.mem_of_getElem? (i := 20) rfl)), List.forall_mem_cons.mpr ⟨(k_wsX11_layEvents_wsX11_layEvents_r2 _ (List.mem_of_getElem? (i := 21) rfl)), List.forall_mem_cons.mpr ⟨(k_wsX11_layEvents_wsX11_layEvents_r1 _ (List.mem_of_getElem? (i := 10) rfl)), List.forall_mem_cons.mpr ⟨(k_wsX11_layEvents_wsX11_layEvents_r2 _ (List.mem_of_getElem? (i := 2) rfl)), List.forall_mem_cons.mpr ⟨(k_wsX11_layEvents_wsX11_layEvents_r2 _ (List.mem_of_getElem? (i := 3) rfl)), List.forall_mem_cons.mpr ⟨(k_wsX11_layEvents_wsX11_layEvents_r2 _ (List.mem_of_getElem? (i := 4) rfl)), List.forall_mem_cons.mpr ⟨(k_wsX11_layEvents_wsX11_layEvents_r2 _ (List.mem_of_getElem? (i := 5) rfl)), List.forall_mem_cons.mpr ⟨(k_wsX11_layEvents_wsX11_layEvents_r3 _ (List.mem_of_getElem? (i := 6) rfl)), List.forall_mem_cons.mpr ⟨(k_wsX11_layEvents_wsX11_layEvents_r3 _ (List.mem_of_getElem? (i := 7) rfl)), fun _ h => absurd h List.not_mem_nil⟩⟩⟩⟩⟩⟩⟩⟩⟩⟩⟩⟩⟩⟩⟩⟩⟩⟩⟩⟩⟩⟩⟩⟩
set_option maxRecDepth 20000 in
theorem s_X11_layEvents_X11_eventComes_wsX11_eventComes_r2 : ∀ w ∈ wsX11_eventComes_r2, w ∈ wsX11_layEvents := List.forall_mem_cons.mpr ⟨(k_wsX11_layEvents_wsX11_layEvents_r3 _ (List.mem_of_getElem? (i := 8) rfl)), List.forall_mem_cons.mpr ⟨(k_wsX11_layEvents_wsX11_layEvents_r3 _ (List.mem_of_getElem? (i := 9) rfl)), List.forall_mem_cons.mpr ⟨(k_wsX11_layEvents_wsX11_layEvents_r1 _ (List.mem_of_getElem? (i := 9) rfl)), List.forall_mem_cons.mpr ⟨(k_wsX11_layEvents_wsX11_layEvents_r1 _ (List.mem_of_getElem? (i := 11) rfl)), List.forall_mem_cons.mpr ⟨(k_wsX11_layEvents_wsX11_layEvents_r2 _ (List.mem_of_getElem? (i := 17) rfl)), List.forall_mem_cons.mpr ⟨(k_wsX11_layEvents_wsX11_layEvents_r3 _ (List.mem_of_getElem? (i := 23) rfl)), List.forall_mem_cons.mpr ⟨(k_wsX11_layEvents_wsX11_layEvents_r4 _ (List.mem_of_getElem? (i := 0) rfl)), List.forall_mem_cons.mpr ⟨(k_wsX11_layEvents_wsX11_layEvents_r4 _ (List.mem_of_getElem? (i := 1) rfl)), List.forall_mem_cons.mpr ⟨(k_wsX11_layEvents_wsX11_layEvents_r4 _ (List.mem_of_getElem? (i := 2) rfl)), List.forall_mem_cons.mpr ⟨(k_wsX11_layEvents_wsX11_layEvents_r4 _ (List.mem_of_getElem? (i := 3) rfl)), List.forall_mem_cons.mpr ⟨(k_wsX11_layEvents_wsX11_layEvents_r4 _ (List.mem_of_getElem? (i := 4) rfl)), List.forall_mem_cons.mpr ⟨(k_wsX11_layEvents_wsX11_layEvents_r4 _ (List.mem_of_getElem? (i := 5) rfl)), List.forall_mem_cons.mpr ⟨(k_wsX11_layEvents_wsX11_layEvents_r4 _ (List.mem_of_getElem? (i := 6) rfl)), List.forall_mem_cons.mpr ⟨(k_wsX11_layEvents_wsX11_layEvents_r4 _ (List.mem_of_getElem? (i := 7) rfl)), fun _ h => absurd h List.not_mem_nil⟩⟩⟩⟩⟩⟩⟩⟩⟩⟩⟩⟩⟩⟩
theorem ggX11_layEvents_X11_eventComes : GoodIn wsX11_layEvents wsX11_eventComes := goodIn_sub (fun w h => (List.mem_cons.mp h).elim (fun e => ft_me e (k_wsX11_layEvents_wsX11_layEvents_r3 _ (List.mem_of_getElem? (i := 13) rfl))) (fun h => (List.mem_append.mp h).elim (fun h => (List.mem_append.mp h).elim (fun h => s_X11_layEvents_X11_eventComes_wsX11_eventComes_r1 w h) (fun h => s_X11_layEvents_X11_eventComes_wsX11_eventComes_r2 w h)) (fun h => k_wsX11_layEvents_wsX110 w h))) gw_wsX11_eventComes
theorem gX11_layEvents_X11_eventComes : GoodIn wsX11_layEvents (wsV RX11 251 RX11 yX11_eventComes wsX11_eventComes) := goodIn_app (goodIn_sub (List.forall_mem_cons.mpr ⟨(k_wsX11_layEvents_wsX11_layEvents_r3 _ (List.mem_of_getElem? (i := 10) rfl)), List.forall_mem_cons.mpr ⟨(k_wsX11_layEvents_wsX11_layEvents_r3 _ (List.mem_of_getElem? (i := 11) rfl)), List.forall_mem_cons.mpr ⟨(k_wsX11_layEvents_wsX11_layEvents_r3 _ (List.mem_of_getElem? (i := 12) rfl)), List.forall_mem_cons.mpr ⟨(k_wsX11_layEvents_wsX11_layEvents_r1 _ (List.mem_of_getElem? (i := 6) rfl)), fun _ h => absurd h List.not_mem_nil⟩⟩⟩⟩) (by decide +kernel)) ggX11_layEvents_X11_eventComes
theorem dX11_layEvents_0 : decode cX11_layEvents 0 = .ok (.aload_n 0, 1) := by decide +kernel
theorem dX11_layEvents_1 : decode cX11_layEvents 1 = .ok (.invokevirtual 229, 3) := by decide +kernel
theorem dX11_layEvents_4 : decode cX11_layEvents 4 = .ok (.aload_n 0, 1) := by decide +kernel
theorem dX11_layEvents_5 : decode cX11_layEvents 5 = .ok (.iconst 0, 1) := by decide +kernel
theorem dX11_layEvents_6 : decode cX11_layEvents 6 = .ok (.putfield 238, 3) := by decide +kernel
theorem dX11_layEvents_9 : decode cX11_layEvents 9 = .ok (.aload_n 0, 1) := by decide +kernel
theorem dX11_layEvents_10 : decode cX11_layEvents 10 = .ok (.iconst 0, 1) := by decide +kernel
theorem dX11_layEvents_11 : decode cX11_layEvents 11 = .ok (.putfield 245, 3) := by decide +kernel
theorem dX11_layEvents_14 : decode cX11_layEvents 14 = .ok (.iconst 1, 1) := by decide +kernel
theorem dX11_layEvents_15 : decode cX11_layEvents 15 = .ok (.istore_n 1, 1) := by decide +kernel
theorem dX11_layEvents_16 : decode cX11_layEvents 16 = .ok (.iload_n 1, 1) := by decide +kernel
theorem dX11_layEvents_17 : decode cX11_layEvents 17 = .ok (.aload_n 0, 1) := by decide +kernel
theorem dX11_layEvents_18 : decode cX11_layEvents 18 = .ok (.invokevirtual 199, 3) := by decide +kernel
theorem dX11_layEvents_21 : decode cX11_layEvents 21 = .ok (.if_icmp .ge 92, 3) := by decide +kernel
theorem dX11_layEvents_24 : decode cX11_layEvents 24 = .ok (.aload_n 0, 1) := by decide +kernel
theorem dX11_layEvents_25 : decode cX11_layEvents 25 = .ok (.getfield 238, 3) := by decide +kernel
theorem dX11_layEvents_28 : decode cX11_layEvents 28 = .ok (.bipush 30, 2) := by decide +kernel
theorem dX11_layEvents_30 : decode cX11_layEvents 30 = .ok (.if_icmp .ge 83, 3) := by decide +kernel
theorem dX11_layEvents_33 : decode cX11_layEvents 33 = .ok (.aload_n 0, 1) := by decide +kernel
theorem dX11_layEvents_34 : decode cX11_layEvents 34 = .ok (.getfield 245, 3) := by decide +kernel
theorem dX11_layEvents_37 : decode cX11_layEvents 37 = .ok (.ifCond .ne 76, 3) := by decide +kernel
theorem dX11_layEvents_40 : decode cX11_layEvents 40 = .ok (.aload_n 0, 1) := by decide +kernel
theorem dX11_layEvents_41 : decode cX11_layEvents 41 = .ok (.iload_n 1, 1) := by decide +kernel
theorem dX11_layEvents_42 : decode cX11_layEvents 42 = .ok (.invokevirtual 232, 3) := by decide +kernel
theorem dX11_layEvents_45 : decode cX11_layEvents 45 = .ok (.aload_n 0, 1) := by decide +kernel
theorem dX11_layEvents_46 : decode cX11_layEvents 46 = .ok (.iload_n 1, 1) := by decide +kernel
theorem dX11_layEvents_47 : decode cX11_layEvents 47 = .ok (.iconst 1, 1) := by decide +kernel
theorem dX11_layEvents_48 : decode cX11_layEvents 48 = .ok (.isub, 1) := by decide +kernel
theorem dX11_layEvents_49 : decode cX11_layEvents 49 = .ok (.invokevirtual 232, 3) := by decide +kernel
theorem dX11_layEvents_52 : decode cX11_layEvents 52 = .ok (.isub, 1) := by decide +kernel
theorem dX11_layEvents_53 : decode cX11_layEvents 53 = .ok (.istore_n 2, 1) := by decide +kernel
theorem dX11_layEvents_54 : decode cX11_layEvents 54 = .ok (.iload_n 2, 1) := by decide +kernel
theorem dX11_layEvents_55 : decode cX11_layEvents 55 = .ok (.aload_n 0, 1) := by decide +kernel
theorem dX11_layEvents_56 : decode cX11_layEvents 56 = .ok (.bipush 6, 2) := by decide +kernel
theorem dX11_layEvents_58 : decode cX11_layEvents 58 = .ok (.invokevirtual 194, 3) := by decide +kernel
theorem dX11_layEvents_61 : decode cX11_layEvents 61 = .ok (.if_icmp .ge 14, 3) := by decide +kernel
theorem dX11_layEvents_64 : decode cX11_layEvents 64 = .ok (.iload_n 2, 1) := by decide +kernel
theorem dX11_layEvents_65 : decode cX11_layEvents 65 = .ok (.ineg, 1) := by decide +kernel
theorem dX11_layEvents_66 : decode cX11_layEvents 66 = .ok (.aload_n 0, 1) := by decide +kernel
theorem dX11_layEvents_67 : decode cX11_layEvents 67 = .ok (.bipush 7, 2) := by decide +kernel
theorem dX11_layEvents_69 : decode cX11_layEvents 69 = .ok (.invokevirtual 194, 3) := by decide +kernel
theorem dX11_layEvents_72 : decode cX11_layEvents 72 = .ok (.if_icmp .le 35, 3) := by decide +kernel
theorem dX11_layEvents_75 : decode cX11_layEvents 75 = .ok (.aload_n 0, 1) := by decide +kernel
theorem dX11_layEvents_76 : decode cX11_layEvents 76 = .ok (.iload_n 1, 1) := by decide +kernel
theorem dX11_layEvents_77 : decode cX11_layEvents 77 = .ok (.iload_n 2, 1) := by decide +kernel
theorem dX11_layEvents_78 : decode cX11_layEvents 78 = .ok (.aload_n 0, 1) := by decide +kernel
theorem dX11_layEvents_79 : decode cX11_layEvents 79 = .ok (.bipush 6, 2) := by decide +kernel
theorem dX11_layEvents_81 : decode cX11_layEvents 81 = .ok (.invokevirtual 194, 3) := by decide +kernel
theorem dX11_layEvents_84 : decode cX11_layEvents 84 = .ok (.if_icmp .lt 7, 3) := by decide +kernel
theorem dX11_layEvents_87 : decode cX11_layEvents 87 = .ok (.iconst 1, 1) := by decide +kernel
theorem dX11_layEvents_88 : decode cX11_layEvents 88 = .ok (.goto 4, 3) := by decide +kernel
theorem dX11_layEvents_91 : decode cX11_layEvents 91 = .ok (.iconst 0, 1) := by decide +kernel
theorem dX11_layEvents_92 : decode cX11_layEvents 92 = .ok (.invokevirtual 251, 3) := by decide +kernel
theorem dX11_layEvents_95 : decode cX11_layEvents 95 = .ok (.aload_n 0, 1) := by decide +kernel
theorem dX11_layEvents_96 : decode cX11_layEvents 96 = .ok (.getfield 55, 3) := by decide +kernel
theorem dX11_layEvents_99 : decode cX11_layEvents 99 = .ok (.aload_n 0, 1) := by decide +kernel
theorem dX11_layEvents_100 : decode cX11_layEvents 100 = .ok (.getfield 238, 3) := by decide +kernel
theorem dX11_layEvents_103 : decode cX11_layEvents 103 = .ok (.iconst 1, 1) := by decide +kernel
theorem dX11_layEvents_104 : decode cX11_layEvents 104 = .ok (.isub, 1) := by decide +kernel
theorem dX11_layEvents_105 : decode cX11_layEvents 105 = .ok (.iaload, 1) := by decide +kernel
theorem dX11_layEvents_106 : decode cX11_layEvents 106 = .ok (.istore_n 1, 1) := by decide +kernel
theorem dX11_layEvents_107 : decode cX11_layEvents 107 = .ok (.iinc 1 1, 3) := by decide +kernel
theorem dX11_layEvents_110 : decode cX11_layEvents 110 = .ok (.goto (-94), 3) := by decide +kernel
theorem dX11_layEvents_113 : decode cX11_layEvents 113 = .ok (.return_, 1) := by decide +kernel
set_option maxRecDepth 20000 in
theorem s_X11_events_X11_layEvents_wsX11_layEvents_r1 : ∀ w ∈ wsX11_layEvents_r1, w ∈ wsX11_events := List.forall_mem_cons.mpr ⟨(k_wsX11_events_wsX11_events_r1 _ (List.mem_of_getElem? (i := 0) rfl)), List.forall_mem_cons.mpr ⟨(k_wsX11_events_wsX11_events_r1 _ (List.mem_of_getElem? (i := 6) rfl)), List.forall_mem_cons.mpr ⟨(k_wsX11_events_wsX11_events_r1 _ (List.mem_of_getElem? (i := 7) rfl)), List.forall_mem_cons.mpr ⟨(k_wsX11_events_wsX11_events_r1 _ (List.mem_of_getElem? (i := 8) rfl)), List.forall_mem_cons.mpr ⟨(k_wsX11_events_wsX11_events_r1 _ (List.mem_of_getElem? (i := 9) rfl)), List.forall_mem_cons.mpr ⟨(k_wsX11_events_wsX11_events_r1 _ (List.mem_of_getElem? (i := 10) rfl)), List.forall_mem_cons.mpr ⟨(k_wsX11_events_wsX11_events_r1 _ (List.mem_of_getElem? (i := 4) rfl)), List.forall_mem_cons.mpr ⟨(k_wsX11_events_wsX11_events_r1 _ (List.mem_of_getElem? (i := 11) rfl)), List.forall_mem_cons.mpr ⟨(k_wsX11_events_wsX11_events_r1 _ (List.mem_of_getElem? (i := 12) rfl)), List.forall_mem_cons.mpr ⟨(k_wsX11_events_wsX11_events_r1 _ (List.mem_of_getElem? (i := 13) rfl)), List.forall_mem_cons.mpr ⟨(k_wsX11_events_wsX11_events_r1 _ (List.mem_of_getElem? (i := 14) rfl)), List.forall_mem_cons.mpr ⟨(k_wsX11_events_wsX11_events_r1 _ (List.mem_of_getElem? (i := 15) rfl)), List.forall_mem_cons.mpr ⟨(k_wsX11_events_wsX11_events_r1 _ (List.mem_of_getElem? (i := 16) rfl)), List.forall_mem_cons.mpr ⟨(k_wsX11_events_wsX11_events_r1 _ (List.mem_of_getElem? (i := 17) rfl)), List.forall_mem_cons.mpr ⟨(k_wsX11_events_wsX11_events_r1 _ (List.mem_of_getElem? (i := 18) rfl)), List.forall_mem_cons.mpr ⟨(k_wsX11_events_wsX11_events_r1 _ (List.mem_of_getElem? (i := 19) rfl)), List.forall_mem_cons.mpr ⟨(k_wsX11_events_wsX11_events_r1 _ (List.mem_of_getElem? (i := 20) rfl)), List.forall_mem_cons.mpr ⟨(k_wsX11_events_wsX11_events_r1 _ (List.mem_of_getElem? (i := 21) rfl)), List.forall_mem_cons.mpr ⟨(k_wsX11_events_wsX11_events_r1 _ (List.mem_of_getElem? (i := 22) rfl)), List.forall_mem_cons.mpr ⟨(k_wsX11_events_wsX11_events_r1 _ (List.mem_of_getElem? (i := 23) rfl)), List.forall_mem_cons.mpr ⟨(k_wsX11_events_wsX11_events_r2 _ (List.mem_of_getElem? (i := 0) rfl)), List.forall_mem_cons.mpr ⟨(k_wsX11_events_wsX11_events_r2 _ (List.mem_of_getElem? (i := 1) rfl)), List.forall_mem_cons.mpr ⟨(k_wsX11_events_wsX11_events_r2 _ (List.mem_of_getElem? (i := 2) rfl)), List.forall_mem_cons.mpr ⟨(k_wsX11_events_wsX11_events_r2 _ (List.mem_of_getElem? (i := 3) rfl)), fun _ h => absurd h List.not_mem_nil⟩⟩⟩⟩⟩⟩⟩⟩⟩⟩⟩⟩⟩⟩⟩⟩⟩⟩⟩⟩⟩⟩⟩⟩
set_option maxRecDepth 20000 in
theorem s_X11_events_X11_layEvents_wsX11_layEvents_r2 : ∀ w ∈ wsX11_layEvents_r2, w ∈ wsX11_events := List.forall_mem_cons.mpr ⟨(k_wsX11_events_wsX11_events_r2 _ (List.mem_of_getElem? (i := 4) rfl)), List.forall_mem_cons.mpr ⟨(k_wsX11_events_wsX11_events_r2 _ (List.mem_of_getElem? (i := 5) rfl)), List.forall_mem_cons.mpr ⟨(k_wsX11_events_wsX11_events_r2 _ (List.mem_of_getElem? (i := 6) rfl)), List.forall_mem_cons.mpr ⟨(k_wsX11_events_wsX11_events_r2 _ (List.mem_of_getElem? (i := 7) rfl)), List.forall_mem_cons.mpr ⟨(k_wsX11_events_wsX11_events_r2 _ (List.mem_of_getElem? (i := 8) rfl)), List.forall_mem_cons.mpr ⟨(k_wsX11_events_wsX11_events_r2 _ (List.mem_of_getElem? (i := 9) rfl)), List.forall_mem_cons.mpr ⟨(k_wsX11_events_wsX11_events_r2 _ (List.mem_of_getElem? (i := 10) rfl)), List.forall_mem_cons.mpr ⟨(k_wsX11_events_wsX11_events_r2 _ (List.mem_of_getElem? (i := 11) rfl)), List.forall_mem_cons.mpr ⟨(k_wsX11_events_wsX11_events_r2 _ (List.mem_of_getElem? (i := 12) rfl)), List.forall_mem_cons.mpr ⟨(k_wsX11_events_wsX11_events_r2 _ (List.mem_of_getElem? (i := 13) rfl)), List.forall_mem_cons.mpr ⟨(k_wsX11_events_wsX11_events_r2 _ (List.mem_of_getElem? (i := 14) rfl)), List.forall_mem_cons.mpr ⟨(k_wsX11_events_wsX11_events_r2 _ (List.mem_of_getElem? (i := 15) rfl)), List.forall_mem_cons.mpr ⟨(k_wsX11_events_wsX11_events_r2 _ (List.mem_of_getElem? (i := 16) rfl)), List.forall_mem_cons.mpr ⟨(k_wsX11_events_wsX11_events_r2 _ (List.mem_of_getElem? (i := 17) rfl)), List.forall_mem_cons.mpr ⟨(k_wsX11_events_wsX11_events_r2 _ (List.mem_of_getElem? (i := 18) rfl)), List.forall_mem_cons.mpr ⟨(k_wsX11_events_wsX11_events_r2 _ (List.mem_of_getElem? (i := 19) rfl)), List.forall_mem_cons.mpr ⟨(k_wsX11_events_wsX11_events_r2 _ (List.mem_of_getElem? (i := 20) rfl)), List.forall_mem_cons.mpr ⟨(k_wsX11_events_wsX11_events_r2 _ (List.mem_of_getElem? (i := 21) rfl)), List.forall_mem_cons.mpr ⟨(k_wsX11_events_wsX11_events_r2 _ (List.mem_of_getElem? (i := 22) rfl)), List.forall_mem_cons.mpr ⟨(k_wsX11_events_wsX11_events_r2 _ (List.mem_of_getElem? (i := 23) rfl)), List.forall_mem_cons.mpr ⟨(k_wsX11_events_wsX11_events_r3 _ (List.mem_of_getElem? (i := 0) rfl)), List.forall_mem_cons.mpr ⟨(k_wsX11_events_wsX11_events_r3 _ (List.mem_of_getElem? (i := 1) rfl)), List.forall_mem_cons.mpr ⟨(k_wsX11_events_wsX11_events_r3 _ (List.mem_of_getElem? (i := 2) rfl)), List.forall_mem_cons.mpr ⟨(k_wsX11_events_wsX11_events_r3 _ (List.mem_of_getElem? (i := 3) rfl)), fun _ h => absurd h List.not_mem_nil⟩⟩⟩⟩⟩⟩⟩⟩⟩⟩⟩⟩⟩⟩⟩⟩⟩⟩⟩⟩⟩⟩⟩⟩
set_option maxRecDepth 20000 in
theorem s_X11_events_X11_layEvents_wsX11_layEvents_r3 : ∀ w ∈ wsX11_layEvents_r3, w ∈ wsX11_events := List.forall_mem_cons.mpr ⟨(k_wsX11_events_wsX11_events_r3 _ (List.mem_of_getElem? (i := 4) rfl)), List.forall_mem_cons.mpr ⟨(k_wsX11_events_wsX11_events_r3 _ (List.mem_of_getElem? (i := 5) rfl)), List.forall_mem_cons.mpr ⟨(k_wsX11_events_wsX11_events_r3 _ (List.mem_of_getElem? (i := 6) rfl)), List.forall_mem_cons.mpr ⟨(k_wsX11_events_wsX11_events_r3 _ (List.mem_of_getElem? (i := 7) rfl)), List.forall_mem_cons.mpr ⟨(k_wsX11_events_wsX11_events_r3 _ (List.mem_of_getElem? (i := 8) rfl)), List.forall_mem_cons.mpr ⟨(k_wsX11_events_wsX11_events_r3 _ (List.mem_of_getElem? (i := 9) rfl)), List.forall_mem_cons.mpr ⟨(k_wsX11_events_wsX11_events_r3 _ (List.mem_of_getElem? (i := 10) rfl)), List.forall_mem_cons.mpr ⟨(k_wsX11_events_wsX11_events_r3 _ (List.mem_of_getElem? (i := 11) rfl)), List.forall_mem_cons.mpr ⟨(k_wsX11_events_wsX11_events_r3 _ (List.mem_of_getElem? (i := 12) rfl)), List.forall_mem_cons.mpr ⟨(k_wsX11_events_wsX11_events_r3 _ (List.mem_of_getElem? (i := 13) rfl)), List.forall_mem_cons.mpr ⟨(k_wsX11_events_wsX11_events_r3 _ (List.mem_of_getElem? (i := 14) rfl)), List.forall_mem_cons.mpr ⟨(k_wsX11_events_wsX11_events_r3 _ (List.mem_of_getElem? (i := 15) rfl)), List.forall_mem_cons.mpr ⟨(k_wsX11_events_wsX11_events_r3 _ (List.mem_of_getElem? (i := 16) rfl)), List.forall_mem_cons.mpr ⟨(k_wsX11_events_wsX11_events_r3 _ (List.mem_of_getElem? (i := 17) rfl)), List.forall_mem_cons.mpr ⟨(k_wsX11_events_wsX11_events_r3 _ (List.mem_of_getElem? (i := 18) rfl)), List.forall_mem_cons.mpr ⟨(k_wsX11_events_wsX11_events_r3 _ (List.mem_of_getElem? (i := 19) rfl)), List.forall_mem_cons.mpr ⟨(k_wsX11_events_wsX11_events_r3 _ (List.mem_of_getElem? (i := 20) rfl)), List.forall_mem_cons.mpr ⟨(k_wsX11_events_wsX11_events_r3 _ (List.mem_of_getElem? (i := 21) rfl)), List.forall_mem_cons.mpr ⟨(k_wsX11_events_wsX11_events_r3 _ (List.mem_of_getElem? (i := 22) rfl)), List.forall_mem_cons.mpr ⟨(k_wsX11_events_wsX11_events_r3 _ (List.mem_of_getElem? (i := 23) rfl)), List.forall_mem_cons.mpr ⟨(k_wsX11_events_wsX11_events_r4 _ (List.mem_of_getElem? (i := 0) rfl)), List.forall_mem_cons.mpr ⟨(k_wsX11_events_wsX11_events_r4 _ (List.mem_of_getElem? (i := 1) rfl)), List.forall_mem_cons.mpr ⟨(k_wsX11_events_wsX11_events_r4 _ (List.mem_of_getElem? (i := 2) rfl)), List.forall_mem_cons.mpr ⟨(k_wsX11_events_wsX11_events_r4 _ (List.mem_of_getElem? (i := 3) rfl)), fun _ h => absurd h List.not_mem_nil⟩⟩⟩⟩⟩⟩⟩⟩⟩⟩⟩⟩⟩⟩⟩⟩⟩⟩⟩⟩⟩⟩⟩⟩
set_option maxRecDepth 20000 in
theorem s_X11_events_X11_layEvents_wsX11_layEvents_r4 : ∀ w ∈ wsX11_layEvents_r4, w ∈ wsX11_events := List.forall_mem_cons.mpr ⟨(k_wsX11_events_wsX11_events_r4 _ (List.mem_of_getElem? (i := 4) rfl)), List.forall_mem_cons.mpr ⟨(k_wsX11_events_wsX11_events_r4 _ (List.mem_of_getElem? (i := 5) rfl)), List.forall_mem_cons.mpr ⟨(k_wsX11_events_wsX11_events_r4 _ (List.mem_of_getElem? (i := 6) rfl)), List.forall_mem_cons.mpr ⟨(k_wsX11_events_wsX11_events_r4 _ (List.mem_of_getElem? (i := 7) rfl)), List.forall_mem_cons.mpr ⟨(k_wsX11_events_wsX11_events_r4 _ (List.mem_of_getElem? (i := 8) rfl)), List.forall_mem_cons.mpr ⟨(k_wsX11_events_wsX11_events_r4 _ (List.mem_of_getElem? (i := 9) rfl)), List.forall_mem_cons.mpr ⟨(k_wsX11_events_wsX11_events_r4 _ (List.mem_of_getElem? (i := 10) rfl)), List.forall_mem_cons.mpr ⟨(k_wsX11_events_wsX11_events_r4 _ (List.mem_of_getElem? (i := 11) rfl)), fun _ h => absurd h List.not_mem_nil⟩⟩⟩⟩⟩⟩⟩⟩
theorem ggX11_events_X11_layEvents : GoodIn wsX11_events wsX11_layEvents := goodIn_sub (fun w h => (List.mem_cons.mp h).elim (fun e => ft_me e (k_wsX11_events_wsX11_events_r1 _ (List.mem_of_getElem? (i := 5) rfl))) (fun h => (List.mem_append.mp h).elim (fun h => (List.mem_append.mp h).elim (fun h => s_X11_events_X11_layEvents_wsX11_layEvents_r1 w h) (fun h => (List.mem_append.mp h).elim (fun h => s_X11_events_X11_layEvents_wsX11_layEvents_r2 w h) (fun h => (List.mem_append.mp h).elim (fun h => s_X11_events_X11_layEvents_wsX11_layEvents_r3 w h) (fun h => s_X11_events_X11_layEvents_wsX11_layEvents_r4 w h)))) (fun h => k_wsX11_events_wsX110 w h))) gw_wsX11_layEvents
theorem gX11_events_X11_layEvents : GoodIn wsX11_events (wsV RX11 255 RX11 yX11_layEvents wsX11_layEvents) := goodIn_app (goodIn_sub (List.forall_mem_cons.mpr ⟨(k_wsX11_events_wsX11_events_r1 _ (List.mem_of_getElem? (i := 1) rfl)), List.forall_mem_cons.mpr ⟨(k_wsX11_events_wsX11_events_r1 _ (List.mem_of_getElem? (i := 2) rfl)), List.forall_mem_cons.mpr ⟨(k_wsX11_events_wsX11_events_r1 _ (List.mem_of_getElem? (i := 3) rfl)), List.forall_mem_cons.mpr ⟨(k_wsX11_events_wsX11_events_r1 _ (List.mem_of_getElem? (i := 4) rfl)), fun _ h => absurd h List.not_mem_nil⟩⟩⟩⟩) (by decide +kernel)) ggX11_events_X11_layEvents
theorem dX11_events_0 : decode cX11_events 0 = .ok (.aload_n 0, 1) := by decide +kernel
theorem dX11_events_1 : decode cX11_events 1 = .ok (.invokevirtual 255, 3) := by decide +kernel
theorem dX11_events_4 : decode cX11_events 4 = .ok (.aload_n 0, 1) := by decide +kernel
theorem dX11_events_5 : decode cX11_events 5 = .ok (.getfield 238, 3) := by decide +kernel
theorem dX11_events_8 : decode cX11_events 8 = .ok (.ireturn, 1) := by decide +kernel
set_option maxRecDepth 20000 in
theorem s_X11_event_X11_layEvents_wsX11_layEvents_r1 : ∀ w ∈ wsX11_layEvents_r1, w ∈ wsX11_event := List.forall_mem_cons.mpr ⟨(k_wsX11_event_wsX11_event_r1 _ (List.mem_of_getElem? (i := 0) rfl)), List.forall_mem_cons.mpr ⟨(k_wsX11_event_wsX11_event_r1 _ (List.mem_of_getElem? (i := 17) rfl)), List.forall_mem_cons.mpr ⟨(k_wsX11_event_wsX11_event_r1 _ (List.mem_of_getElem? (i := 4) rfl)), List.forall_mem_cons.mpr ⟨(k_wsX11_event_wsX11_event_r1 _ (List.mem_of_getElem? (i := 18) rfl)), List.forall_mem_cons.mpr ⟨(k_wsX11_event_wsX11_event_r1 _ (List.mem_of_getElem? (i := 19) rfl)), List.forall_mem_cons.mpr ⟨(k_wsX11_event_wsX11_event_r1 _ (List.mem_of_getElem? (i := 20) rfl)), List.forall_mem_cons.mpr ⟨(k_wsX11_event_wsX11_event_r1 _ (List.mem_of_getElem? (i := 15) rfl)), List.forall_mem_cons.mpr ⟨(k_wsX11_event_wsX11_event_r1 _ (List.mem_of_getElem? (i := 21) rfl)), List.forall_mem_cons.mpr ⟨(k_wsX11_event_wsX11_event_r1 _ (List.mem_of_getElem? (i := 22) rfl)), List.forall_mem_cons.mpr ⟨(k_wsX11_event_wsX11_event_r1 _ (List.mem_of_getElem? (i := 23) rfl)), List.forall_mem_cons.mpr ⟨(k_wsX11_event_wsX11_event_r2 _ (List.mem_of_getElem? (i := 0) rfl)), List.forall_mem_cons.mpr ⟨(k_wsX11_event_wsX11_event_r2 _ (List.mem_of_getElem? (i := 1) rfl)), List.forall_mem_cons.mpr ⟨(k_wsX11_event_wsX11_event_r2 _ (List.mem_of_getElem? (i := 2) rfl)), List.forall_mem_cons.mpr ⟨(k_wsX11_event_wsX11_event_r2 _ (List.mem_of_getElem? (i := 3) rfl)), List.forall_mem_cons.mpr ⟨(k_wsX11_event_wsX11_event_r2 _ (List.mem_of_getElem? (i := 4) rfl)), List.forall_mem_cons.mpr ⟨(k_wsX11_event_wsX11_event_r2 _ (List.mem_of_getElem? (i := 5) rfl)), List.forall_mem_cons.mpr ⟨(k_wsX11_event_wsX11_event_r2 _ (List.mem_of_getElem? (i := 6) rfl)), List.forall_mem_cons.mpr ⟨(k_wsX11_event_wsX11_event_r2 _ (List.mem_of_getElem? (i := 7) rfl)), List.forall_mem_cons.mpr ⟨(k_wsX11_event_wsX11_event_r2 _ (List.mem_of_getElem? (i := 8) rfl)), List.forall_mem_cons.mpr ⟨(k_wsX11_event_wsX11_event_r2 _ (List.mem_of_getElem? (i := 9) rfl)), List.forall_mem_cons.mpr ⟨(k_wsX11_event_wsX11_event_r2 _ (List.mem_of_getElem? (i := 10) rfl)), List.forall_mem_cons.mpr ⟨(k_wsX11_event_wsX11_event_r2 _ (List.mem_of_getElem? (i := 11) rfl)), List.forall_mem_cons.mpr ⟨(k_wsX11_event_wsX11_event_r2 _ (List.mem_of_getElem? (i := 12) rfl)), List.forall_mem_cons.mpr ⟨(k_wsX11_event_wsX11_event_r2 _ (List.mem_of_getElem? (i := 13) rfl)), fun _ h => absurd h List.not_mem_nil⟩⟩⟩⟩⟩⟩⟩⟩⟩⟩⟩⟩⟩⟩⟩⟩⟩⟩⟩⟩⟩⟩⟩⟩
set_option maxRecDepth 20000 in
theorem s_X11_event_X11_layEvents_wsX11_layEvents_r2 : ∀ w ∈ wsX11_layEvents_r2, w ∈ wsX11_event := List.forall_mem_cons.mpr ⟨(k_wsX11_event_wsX11_event_r2 _ (List.mem_of_getElem? (i := 14) rfl)), List.forall_mem_cons.mpr ⟨(k_wsX11_event_wsX11_event_r2 _ (List.mem_of_getElem? (i := 15) rfl)), List.forall_mem_cons.mpr ⟨(k_wsX11_event_wsX11_event_r2 _ (List.mem_of_getElem? (i := 16) rfl)), List.forall_mem_cons.mpr ⟨(k_wsX11_event_wsX11_event_r2 _ (List.mem_of_getElem? (i := 17) rfl)), List.forall_mem_cons.mpr ⟨(k_wsX11_event_wsX11_event_r2 _ (List.mem_of_getElem? (i := 18) rfl)), List.forall_mem_cons.mpr ⟨(k_wsX11_event_wsX11_event_r2 _ (List.mem_of_getElem? (i := 19) rfl)), List.forall_mem_cons.mpr ⟨(k_wsX11_event_wsX11_event_r2 _ (List.mem_of_getElem? (i := 20) rfl)), List.forall_mem_cons.mpr ⟨(k_wsX11_event_wsX11_event_r2 _ (List.mem_of_getElem? (i := 21) rfl)), List.forall_mem_cons.mpr ⟨(k_wsX11_event_wsX11_event_r2 _ (List.mem_of_getElem? (i := 22) rfl)), List.forall_mem_cons.mpr ⟨(k_wsX11_event_wsX11_event_r2 _ (List.mem_of_getElem? (i := 23) rfl)), List.forall_mem_cons.mpr ⟨(k_wsX11_event_wsX11_event_r3 _ (List.mem_of_getElem? (i := 0) rfl)), List.forall_mem_cons.mpr ⟨(k_wsX11_event_wsX11_event_r3 _ (List.mem_of_getElem? (i := 1) rfl)), List.forall_mem_cons.mpr ⟨(k_wsX11_event_wsX11_event_r3 _ (List.mem_of_getElem? (i := 2) rfl)), List.forall_mem_cons.mpr ⟨(k_wsX11_event_wsX11_event_r3 _ (List.mem_of_getElem? (i := 3) rfl)), List.forall_mem_cons.mpr ⟨(k_wsX11_event_wsX11_event_r3 _ (List.mem_of_getElem? (i := 4) rfl)), List.forall_mem_cons.mpr ⟨(k_wsX11_event_wsX11_event_r3 _ (List.mem_of_getElem? (i := 5) rfl)), List.forall_mem_cons.mpr ⟨(k_wsX11_event_wsX11_event_r3 _ (List.mem_of_getElem? (i := 6) rfl)), List.forall_mem_cons.mpr ⟨(k_wsX11_event_wsX11_event_r3 _ (List.mem_of_getElem? (i := 7) rfl)), List.forall_mem_cons.mpr ⟨(k_wsX11_event_wsX11_event_r3 _ (List.mem_of_getElem? (i := 8) rfl)), List.forall_mem_cons.mpr ⟨(k_wsX11_event_wsX11_event_r3 _ (List.mem_of_getElem? (i := 9) rfl)), List.forall_mem_cons.mpr ⟨(k_wsX11_event_wsX11_event_r3 _ (List.mem_of_getElem? (i := 10) rfl)), List.forall_mem_cons.mpr ⟨(k_wsX11_event_wsX11_event_r3 _ (List.mem_of_getElem? (i := 11) rfl)), List.forall_mem_cons.mpr ⟨(k_wsX11_event_wsX11_event_r3 _ (List.mem_of_getElem? (i := 12) rfl)), List.forall_mem_cons.mpr ⟨(k_wsX11_event_wsX11_event_r3 _ (List.mem_of_getElem? (i := 13) rfl)), fun _ h => absurd h List.not_mem_nil⟩⟩⟩⟩⟩⟩⟩⟩⟩⟩⟩⟩⟩⟩⟩⟩⟩⟩⟩⟩⟩⟩⟩⟩
set_option maxRecDepth 20000 in
theorem s_X11_event_X11_layEvents_wsX11_layEvents_r3 : ∀ w ∈ wsX11_layEvents_r3, w ∈ wsX11_event := List.forall_mem_cons.mpr ⟨(k_wsX11_event_wsX11_event_r3 _ (List.mem_of_getElem? (i := 14) rfl)), List.forall_mem_cons.mpr ⟨(k_wsX11_event_wsX11_event_r3 _ (List.mem_of_getElem? (i := 15) rfl)), List.forall_mem_cons.mpr ⟨(k_wsX11_event_wsX11_event_r3 _ (List.mem_of_getElem? (i := 16) rfl)), List.forall_mem_cons.mpr ⟨(k_wsX11_event_wsX11_event_r3 _ (List.mem_of_getElem? (i := 17) rfl)), List.forall_mem_cons.mpr ⟨(k_wsX11_event_wsX11_event_r3 _ (List.mem_of_getElem? (i := 18) rfl)), List.forall_mem_cons.mpr ⟨(k_wsX11_event_wsX11_event_r3 _ (List.mem_of_getElem? (i := 19) rfl)), List.forall_mem_cons.mpr ⟨(k_wsX11_event_wsX11_event_r3 _ (List.mem_of_getElem? (i := 20) rfl)), List.forall_mem_cons.mpr ⟨(k_wsX11_event_wsX11_event_r3 _ (List.mem_of_getElem? (i := 21) rfl)), List.forall_mem_cons.mpr ⟨(k_wsX11_event_wsX11_event_r3 _ (List.mem_of_getElem? (i := 22) rfl)), List.forall_mem_cons.mpr ⟨(k_wsX11_event_wsX11_event_r3 _ (List.mem_of_getElem? (i := 23) rfl)), List.forall_mem_cons.mpr ⟨(k_wsX11_event_wsX11_event_r4 _ (List.mem_of_getElem? (i := 0) rfl)), List.forall_mem_cons.mpr ⟨(k_wsX11_event_wsX11_event_r4 _ (List.mem_of_getElem? (i := 1) rfl)), List.forall_mem_cons.mpr ⟨(k_wsX11_event_wsX11_event_r4 _ (List.mem_of_getElem? (i := 2) rfl)), List.forall_mem_cons.mpr ⟨(k_wsX11_event_wsX11_event_r4 _ (List.mem_of_getElem? (i := 3) rfl)), List.forall_mem_cons.mpr ⟨(k_wsX11_event_wsX11_event_r1 _ (List.mem_of_getElem? (i := 3) rfl)), List.forall_mem_cons.mpr ⟨(k_wsX11_event_wsX11_event_r1 _ (List.mem_of_getElem? (i := 5) rfl)), List.forall_mem_cons.mpr ⟨(k_wsX11_event_wsX11_event_r1 _ (List.mem_of_getElem? (i := 8) rfl)), List.forall_mem_cons.mpr ⟨(k_wsX11_event_wsX11_event_r1 _ (List.mem_of_getElem? (i := 6) rfl)), List.forall_mem_cons.mpr ⟨(k_wsX11_event_wsX11_event_r1 _ (List.mem_of_getElem? (i := 7) rfl)), List.forall_mem_cons.mpr ⟨(k_wsX11_event_wsX11_event_r4 _ (List.mem_of_getElem? (i := 4) rfl)), List.forall_mem_cons.mpr ⟨(k_wsX11_event_wsX11_event_r4 _ (List.mem_of_getElem? (i := 5) rfl)), List.forall_mem_cons.mpr ⟨(k_wsX11_event_wsX11_event_r4 _ (List.mem_of_getElem? (i := 6) rfl)), List.forall_mem_cons.mpr ⟨(k_wsX11_event_wsX11_event_r4 _ (List.mem_of_getElem? (i := 7) rfl)), List.forall_mem_cons.mpr ⟨(k_wsX11_event_wsX11_event_r4 _ (List.mem_of_getElem? (i := 8) rfl)), fun _ h => absurd h List.not_mem_nil⟩⟩⟩⟩⟩⟩⟩⟩⟩⟩⟩⟩⟩⟩⟩⟩⟩⟩⟩⟩⟩⟩⟩⟩
set_option maxRecDepth 20000 in
theorem s_X11_event_X11_layEvents_wsX11_layEvents_r4 : ∀ w ∈ wsX11_layEvents_r4, w ∈ wsX11_event := List.forall_mem_cons.mpr ⟨(k_wsX11_event_wsX11_event_r4 _ (List.mem_of_getElem? (i := 9) rfl)), List.forall_mem_cons.mpr ⟨(k_wsX11_event_wsX11_event_r4 _ (List.mem_of_getElem? (i := 10) rfl)), List.forall_mem_cons.mpr ⟨(k_wsX11_event_wsX11_event_r4 _ (List.mem_of_getElem? (i := 11) rfl)), List.forall_mem_cons.mpr ⟨(k_wsX11_event_wsX11_event_r4 _ (List.mem_of_getElem? (i := 12) rfl)), List.forall_mem_cons.mpr ⟨(k_wsX11_event_wsX11_event_r4 _ (List.mem_of_getElem? (i := 13) rfl)), List.forall_mem_cons.mpr ⟨(k_wsX11_event_wsX11_event_r4 _ (List.mem_of_getElem? (i := 14) rfl)), List.forall_mem_cons.mpr ⟨(k_wsX11_event_wsX11_event_r1 _ (List.mem_of_getElem? (i := 9) rfl)), List.forall_mem_cons.mpr ⟨(k_wsX11_event_wsX11_event_r1 _ (List.mem_of_getElem? (i := 11) rfl)), fun _ h => absurd h List.not_mem_nil⟩⟩⟩⟩⟩⟩⟩⟩
theorem ggX11_event_X11_layEvents : GoodIn wsX11_event wsX11_layEvents := goodIn_sub (fun w h => (List.mem_cons.mp h).elim (fun e => ft_me e (k_wsX11_event_wsX11_event_r1 _ (List.mem_of_getElem? (i := 16) rfl))) (fun h => (List.mem_append.mp h).elim (fun h => (List.mem_append.mp h).elim (fun h => s_X11_event_X11_layEvents_wsX11_layEvents_r1 w h) (fun h => (List.mem_append.mp h).elim (fun h => s_X11_event_X11_layEvents_wsX11_layEvents_r2 w h) (fun h => (List.mem_append.mp h).elim (fun h => s_X11_event_X11_layEvents_wsX11_layEvents_r3 w h) (fun h => s_X11_event_X11_layEvents_wsX11_layEvents_r4 w h)))) (fun h => k_wsX11_event_wsX110 w h))) gw_wsX11_layEvents
theorem gX11_event_X11_layEvents : GoodIn wsX11_event (wsV RX11 255 RX11 yX11_layEvents wsX11_layEvents) := goodIn_app (goodIn_sub (List.forall_mem_cons.mpr ⟨(k_wsX11_event_wsX11_event_r1 _ (List.mem_of_getElem? (i := 12) rfl)), List.forall_mem_cons.mpr ⟨(k_wsX11_event_wsX11_event_r1 _ (List.mem_of_getElem? (i := 13) rfl)), List.forall_mem_cons.mpr ⟨(k_wsX11_event_wsX11_event_r1 _ (List.mem_of_getElem? (i := 14) rfl)), List.forall_mem_cons.mpr ⟨(k_wsX11_event_wsX11_event_r1 _ (List.mem_of_getElem? (i := 15) rfl)), fun _ h => absurd h List.not_mem_nil⟩⟩⟩⟩) (by decide +kernel)) ggX11_event_X11_layEvents
theorem ggX11_event_X11_in : GoodIn wsX11_event wsX11_in := goodIn_sub (fun w h => (List.mem_cons.mp h).elim (fun e => ft_me e (k_wsX11_event_wsX11_event_r4 _ (List.mem_of_getElem? (i := 17) rfl))) (fun h => absurd h List.not_mem_nil)) gw_wsX11_in
theorem gX11_event_X11_in : GoodIn wsX11_event (va_wsS RX11 91 yX11_in wsX11_in) := goodIn_app (goodIn_sub (List.forall_mem_cons.mpr ⟨(k_wsX11_event_wsX11_event_r4 _ (List.mem_of_getElem? (i := 15) rfl)), List.forall_mem_cons.mpr ⟨(k_wsX11_event_wsX11_event_r4 _ (List.mem_of_getElem? (i := 16) rfl)), List.forall_mem_cons.mpr ⟨(k_wsX11_event_wsX11_event_r1 _ (List.mem_of_getElem? (i := 15) rfl)), fun _ h => absurd h List.not_mem_nil⟩⟩⟩) (by decide +kernel)) ggX11_event_X11_in
theorem dX11_event_0 : decode cX11_event 0 = .ok (.aload_n 0, 1) := by decide +kernel
theorem dX11_event_1 : decode cX11_event 1 = .ok (.invokevirtual 255, 3) := by decide +kernel
theorem dX11_event_4 : decode cX11_event 4 = .ok (.iload_n 1, 1) := by decide +kernel
theorem dX11_event_5 : decode cX11_event 5 = .ok (.i2l, 1) := by decide +kernel
theorem dX11_event_6 : decode cX11_event 6 = .ok (.lconst 0, 1) := by decide +kernel
theorem dX11_event_7 : decode cX11_event 7 = .ok (.aload_n 0, 1) := by decide +kernel
theorem dX11_event_8 : decode cX11_event 8 = .ok (.getfield 238, 3) := by decide +kernel
theorem dX11_event_11 : decode cX11_event 11 = .ok (.iconst 1, 1) := by decide +kernel
theorem dX11_event_12 : decode cX11_event 12 = .ok (.isub, 1) := by decide +kernel
theorem dX11_event_13 : decode cX11_event 13 = .ok (.i2l, 1) := by decide +kernel
theorem dX11_event_14 : decode cX11_event 14 = .ok (.invokestatic 91, 3) := by decide +kernel
theorem dX11_event_17 : decode cX11_event 17 = .ok (.ifCond .eq 15, 3) := by decide +kernel
theorem dX11_event_20 : decode cX11_event 20 = .ok (.iload_n 2, 1) := by decide +kernel
theorem dX11_event_21 : decode cX11_event 21 = .ok (.i2l, 1) := by decide +kernel
theorem dX11_event_22 : decode cX11_event 22 = .ok (.lconst 0, 1) := by decide +kernel
theorem dX11_event_23 : decode cX11_event 23 = .ok (.ldc2_w 258, 3) := by decide +kernel
theorem dX11_event_26 : decode cX11_event 26 = .ok (.invokestatic 91, 3) := by decide +kernel
theorem dX11_event_29 : decode cX11_event 29 = .ok (.ifCond .ne 6, 3) := by decide +kernel
theorem dX11_event_32 : decode cX11_event 32 = .ok (.ldc 95, 2) := by decide +kernel
theorem dX11_event_34 : decode cX11_event 34 = .ok (.ireturn, 1) := by decide +kernel
theorem dX11_event_35 : decode cX11_event 35 = .ok (.iload_n 2, 1) := by decide +kernel
theorem dX11_event_36 : decode cX11_event 36 = .ok (.tableswitch 108 0 6 #[44, 51, 58, 65, 72, 79, 86], 44) := by decide +kernel
theorem dX11_event_80 : decode cX11_event 80 = .ok (.aload_n 0, 1) := by decide +kernel
theorem dX11_event_81 : decode cX11_event 81 = .ok (.getfield 52, 3) := by decide +kernel
theorem dX11_event_84 : decode cX11_event 84 = .ok (.iload_n 1, 1) := by decide +kernel
theorem dX11_event_85 : decode cX11_event 85 = .ok (.iaload, 1) := by decide +kernel
theorem dX11_event_86 : decode cX11_event 86 = .ok (.ireturn, 1) := by decide +kernel
theorem dX11_event_87 : decode cX11_event 87 = .ok (.aload_n 0, 1) := by decide +kernel
theorem dX11_event_88 : decode cX11_event 88 = .ok (.getfield 55, 3) := by decide +kernel
theorem dX11_event_91 : decode cX11_event 91 = .ok (.iload_n 1, 1) := by decide +kernel
theorem dX11_event_92 : decode cX11_event 92 = .ok (.iaload, 1) := by decide +kernel
theorem dX11_event_93 : decode cX11_event 93 = .ok (.ireturn, 1) := by decide +kernel
theorem dX11_event_94 : decode cX11_event 94 = .ok (.aload_n 0, 1) := by decide +kernel
theorem dX11_event_95 : decode cX11_event 95 = .ok (.getfield 58, 3) := by decide +kernel
theorem dX11_event_98 : decode cX11_event 98 = .ok (.iload_n 1, 1) := by decide +kernel
theorem dX11_event_99 : decode cX11_event 99 = .ok (.iaload, 1) := by decide +kernel
theorem dX11_event_100 : decode cX11_event 100 = .ok (.ireturn, 1) := by decide +kernel
theorem dX11_event_101 : decode cX11_event 101 = .ok (.aload_n 0, 1) := by decide +kernel
theorem dX11_event_102 : decode cX11_event 102 = .ok (.getfield 61, 3) := by decide +kernel
theorem dX11_event_105 : decode cX11_event 105 = .ok (.iload_n 1, 1) := by decide +kernel
theorem dX11_event_106 : decode cX11_event 106 = .ok (.iaload, 1) := by decide +kernel
theorem dX11_event_107 : decode cX11_event 107 = .ok (.ireturn, 1) := by decide +kernel
theorem dX11_event_108 : decode cX11_event 108 = .ok (.aload_n 0, 1) := by decide +kernel
theorem dX11_event_109 : decode cX11_event 109 = .ok (.getfield 64, 3) := by decide +kernel
theorem dX11_event_112 : decode cX11_event 112 = .ok (.iload_n 1, 1) := by decide +kernel
theorem dX11_event_113 : decode cX11_event 113 = .ok (.iaload, 1) := by decide +kernel
theorem dX11_event_114 : decode cX11_event 114 = .ok (.ireturn, 1) := by decide +kernel
theorem dX11_event_115 : decode cX11_event 115 = .ok (.aload_n 0, 1) := by decide +kernel
theorem dX11_event_116 : decode cX11_event 116 = .ok (.getfield 67, 3) := by decide +kernel
theorem dX11_event_119 : decode cX11_event 119 = .ok (.iload_n 1, 1) := by decide +kernel
theorem dX11_event_120 : decode cX11_event 120 = .ok (.iaload, 1) := by decide +kernel
theorem dX11_event_121 : decode cX11_event 121 = .ok (.ireturn, 1) := by decide +kernel
theorem dX11_event_122 : decode cX11_event 122 = .ok (.aload_n 0, 1) := by decide +kernel
theorem dX11_event_123 : decode cX11_event 123 = .ok (.getfield 64, 3) := by decide +kernel
theorem dX11_event_126 : decode cX11_event 126 = .ok (.iload_n 1, 1) := by decide +kernel
theorem dX11_event_127 : decode cX11_event 127 = .ok (.iaload, 1) := by decide +kernel
theorem dX11_event_128 : decode cX11_event 128 = .ok (.iconst 2, 1) := by decide +kernel
theorem dX11_event_129 : decode cX11_event 129 = .ok (.if_icmp .ne 12, 3) := by decide +kernel
theorem dX11_event_132 : decode cX11_event 132 = .ok (.aload_n 0, 1) := by decide +kernel
theorem dX11_event_133 : decode cX11_event 133 = .ok (.getfield 70, 3) := by decide +kernel
theorem dX11_event_136 : decode cX11_event 136 = .ok (.iload_n 1, 1) := by decide +kernel
theorem dX11_event_137 : decode cX11_event 137 = .ok (.iaload, 1) := by decide +kernel
theorem dX11_event_138 : decode cX11_event 138 = .ok (.goto 5, 3) := by decide +kernel
theorem dX11_event_141 : decode cX11_event 141 = .ok (.ldc 173, 2) := by decide +kernel
theorem dX11_event_143 : decode cX11_event 143 = .ok (.ireturn, 1) := by decide +kernel
theorem dX11_event_144 : decode cX11_event 144 = .ok (.aload_n 0, 1) := by decide +kernel
theorem dX11_event_145 : decode cX11_event 145 = .ok (.getfield 64, 3) := by decide +kernel
theorem dX11_event_148 : decode cX11_event 148 = .ok (.iload_n 1, 1) := by decide +kernel
theorem dX11_event_149 : decode cX11_event 149 = .ok (.iaload, 1) := by decide +kernel
theorem dX11_event_150 : decode cX11_event 150 = .ok (.iconst 2, 1) := by decide +kernel
theorem dX11_event_151 : decode cX11_event 151 = .ok (.if_icmp .ne 12, 3) := by decide +kernel
theorem dX11_event_154 : decode cX11_event 154 = .ok (.aload_n 0, 1) := by decide +kernel
theorem dX11_event_155 : decode cX11_event 155 = .ok (.getfield 73, 3) := by decide +kernel
theorem dX11_event_158 : decode cX11_event 158 = .ok (.iload_n 1, 1) := by decide +kernel
theorem dX11_event_159 : decode cX11_event 159 = .ok (.iaload, 1) := by decide +kernel
theorem dX11_event_160 : decode cX11_event 160 = .ok (.goto 5, 3) := by decide +kernel
theorem dX11_event_163 : decode cX11_event 163 = .ok (.ldc 173, 2) := by decide +kernel
theorem dX11_event_165 : decode cX11_event 165 = .ok (.ireturn, 1) := by decide +kernel
theorem ggX11_total_X11_in : GoodIn wsX11_total wsX11_in := goodIn_sub (fun w h => (List.mem_cons.mp h).elim (fun e => ft_me e (k_wsX11_total_wsX11_total_r1 _ (List.mem_of_getElem? (i := 13) rfl))) (fun h => absurd h List.not_mem_nil)) gw_wsX11_in
theorem gX11_total_X11_in : GoodIn wsX11_total (va_wsS RX11 91 yX11_in wsX11_in) := goodIn_app (goodIn_sub (List.forall_mem_cons.mpr ⟨(k_wsX11_total_wsX11_total_r1 _ (List.mem_of_getElem? (i := 10) rfl)), List.forall_mem_cons.mpr ⟨(k_wsX11_total_wsX11_total_r1 _ (List.mem_of_getElem? (i := 11) rfl)), List.forall_mem_cons.mpr ⟨(k_wsX11_total_wsX11_total_r1 _ (List.mem_of_getElem? (i := 12) rfl)), fun _ h => absurd h List.not_mem_nil⟩⟩⟩) (by decide +kernel)) ggX11_total_X11_in
set_option maxRecDepth 20000 in
theorem s_X11_total_X11_layEvents_wsX11_layEvents_r1 : ∀ w ∈ wsX11_layEvents_r1, w ∈ wsX11_total := List.forall_mem_cons.mpr ⟨(k_wsX11_total_wsX11_total_r1 _ (List.mem_of_getElem? (i := 2) rfl)), List.forall_mem_cons.mpr ⟨(k_wsX11_total_wsX11_total_r1 _ (List.mem_of_getElem? (i := 8) rfl)), List.forall_mem_cons.mpr ⟨(k_wsX11_total_wsX11_total_r1 _ (List.mem_of_getElem? (i := 9) rfl)), List.forall_mem_cons.mpr ⟨(k_wsX11_total_wsX11_total_r1 _ (List.mem_of_getElem? (i := 18) rfl)), List.forall_mem_cons.mpr ⟨(k_wsX11_total_wsX11_total_r1 _ (List.mem_of_getElem? (i := 19) rfl)), List.forall_mem_cons.mpr ⟨(k_wsX11_total_wsX11_total_r1 _ (List.mem_of_getElem? (i := 20) rfl)), List.forall_mem_cons.mpr ⟨(k_wsX11_total_wsX11_total_r1 _ (List.mem_of_getElem? (i := 12) rfl)), List.forall_mem_cons.mpr ⟨(k_wsX11_total_wsX11_total_r1 _ (List.mem_of_getElem? (i := 21) rfl)), List.forall_mem_cons.mpr ⟨(k_wsX11_total_wsX11_total_r1 _ (List.mem_of_getElem? (i := 22) rfl)), List.forall_mem_cons.mpr ⟨(k_wsX11_total_wsX11_total_r1 _ (List.mem_of_getElem? (i := 23) rfl)), List.forall_mem_cons.mpr ⟨(k_wsX11_total_wsX11_total_r2 _ (List.mem_of_getElem? (i := 0) rfl)), List.forall_mem_cons.mpr ⟨(k_wsX11_total_wsX11_total_r2 _ (List.mem_of_getElem? (i := 1) rfl)), List.forall_mem_cons.mpr ⟨(k_wsX11_total_wsX11_total_r2 _ (List.mem_of_getElem? (i := 2) rfl)), List.forall_mem_cons.mpr ⟨(k_wsX11_total_wsX11_total_r2 _ (List.mem_of_getElem? (i := 3) rfl)), List.forall_mem_cons.mpr ⟨(k_wsX11_total_wsX11_total_r2 _ (List.mem_of_getElem? (i := 4) rfl)), List.forall_mem_cons.mpr ⟨(k_wsX11_total_wsX11_total_r2 _ (List.mem_of_getElem? (i := 5) rfl)), List.forall_mem_cons.mpr ⟨(k_wsX11_total_wsX11_total_r2 _ (List.mem_of_getElem? (i := 6) rfl)), List.forall_mem_cons.mpr ⟨(k_wsX11_total_wsX11_total_r2 _ (List.mem_of_getElem? (i := 7) rfl)), List.forall_mem_cons.mpr ⟨(k_wsX11_total_wsX11_total_r2 _ (List.mem_of_getElem? (i := 8) rfl)), List.forall_mem_cons.mpr ⟨(k_wsX11_total_wsX11_total_r2 _ (List.mem_of_getElem? (i := 9) rfl)), List.forall_mem_cons.mpr ⟨(k_wsX11_total_wsX11_total_r2 _ (List.mem_of_getElem? (i := 10) rfl)), List.forall_mem_cons.mpr ⟨(k_wsX11_total_wsX11_total_r2 _ (List.mem_of_getElem? (i := 11) rfl)), List.forall_mem_cons.mpr ⟨(k_wsX11_total_wsX11_total_r2 _ (List.mem_of_getElem? (i := 12) rfl)), List.forall_mem_cons.mpr ⟨(k_wsX11_total_wsX11_total_r2 _ (List.mem_of_getElem? (i := 13) rfl)), fun _ h => absurd h List.not_mem_nil⟩⟩⟩⟩⟩⟩⟩⟩⟩⟩⟩⟩⟩⟩⟩⟩⟩⟩⟩⟩⟩⟩⟩⟩
set_option maxRecDepth 20000 in
theorem s_X11_total_X11_layEvents_wsX11_layEvents_r2 : ∀ w ∈ wsX11_layEvents_r2, w ∈ wsX11_total := List.forall_mem_cons.mpr ⟨(k_wsX11_total_wsX11_total_r2 _ (List.mem_of_getElem? (i := 14) rfl)), List.forall_mem_cons.mpr ⟨(k_wsX11_total_wsX11_total_r2 _ (List.mem_of_getElem? (i := 15) rfl)), List.forall_mem_cons.mpr ⟨(k_wsX11_total_wsX11_total_r2 _ (List.mem_of_getElem? (i := 16) rfl)), List.forall_mem_cons.mpr ⟨(k_wsX11_total_wsX11_total_r2 _ (List.mem_of_getElem? (i := 17) rfl)), List.forall_mem_cons.mpr ⟨(k_wsX11_total_wsX11_total_r2 _ (List.mem_of_getElem? (i := 18) rfl)), List.forall_mem_cons.mpr ⟨(k_wsX11_total_wsX11_total_r2 _ (List.mem_of_getElem? (i := 19) rfl)), List.forall_mem_cons.mpr ⟨(k_wsX11_total_wsX11_total_r2 _ (List.mem_of_getElem? (i := 20) rfl)), List.forall_mem_cons.mpr ⟨(k_wsX11_total_wsX11_total_r2 _ (List.mem_of_getElem? (i := 21) rfl)), List.forall_mem_cons.mpr ⟨(k_wsX11_total_wsX11_total_r2 _ (List.mem_of_getElem? (i := 22) rfl)), List.forall_mem_cons.mpr ⟨(k_wsX11_total_wsX11_total_r2 _ (List.mem_of_getElem? (i := 23) rfl)), List.forall_mem_cons.mpr ⟨(k_wsX11_total_wsX11_total_r3 _ (List.mem_of_getElem? (i := 0) rfl)), List.forall_mem_cons.mpr ⟨(k_wsX11_total_wsX11_total_r3 _ (List.mem_of_getElem? (i := 1) rfl)), List.forall_mem_cons.mpr ⟨(k_wsX11_total_wsX11_total_r3 _ (List.mem_of_getElem? (i := 2) rfl)), List.forall_mem_cons.mpr ⟨(k_wsX11_total_wsX11_total_r3 _ (List.mem_of_getElem? (i := 3) rfl)), List.forall_mem_cons.mpr ⟨(k_wsX11_total_wsX11_total_r3 _ (List.mem_of_getElem? (i := 4) rfl)), List.forall_mem_cons.mpr ⟨(k_wsX11_total_wsX11_total_r3 _ (List.mem_of_getElem? (i := 5) rfl)), List.forall_mem_cons.mpr ⟨(k_wsX11_total_wsX11_total_r3 _ (List.mem_of_getElem? (i := 6) rfl)), List.forall_mem_cons.mpr ⟨(k_wsX11_total_wsX11_total_r3 _ (List.mem_of_getElem? (i := 7) rfl)), List.forall_mem_cons.mpr ⟨(k_wsX11_total_wsX11_total_r3 _ (List.mem_of_getElem? (i := 8) rfl)), List.forall_mem_cons.mpr ⟨(k_wsX11_total_wsX11_total_r3 _ (List.mem_of_getElem? (i := 9) rfl)), List.forall_mem_cons.mpr ⟨(k_wsX11_total_wsX11_total_r3 _ (List.mem_of_getElem? (i := 10) rfl)), List.forall_mem_cons.mpr ⟨(k_wsX11_total_wsX11_total_r3 _ (List.mem_of_getElem? (i := 11) rfl)), List.forall_mem_cons.mpr ⟨(k_wsX11_total_wsX11_total_r3 _ (List.mem_of_getElem? (i := 12) rfl)), List.forall_mem_cons.mpr ⟨(k_wsX11_total_wsX11_total_r3 _ (List.mem_of_getElem? (i := 13) rfl)), fun _ h => absurd h List.not_mem_nil⟩⟩⟩⟩⟩⟩⟩⟩⟩⟩⟩⟩⟩⟩⟩⟩⟩⟩⟩⟩⟩⟩⟩⟩
set_option maxRecDepth 20000 in
theorem s_X11_total_X11_layEvents_wsX11_layEvents_r3 : ∀ w ∈ wsX11_layEvents_r3, w ∈ wsX11_total := List.forall_mem_cons.mpr ⟨(k_wsX11_total_wsX11_total_r3 _ (List.mem_of_getElem? (i := 14) rfl)), List.forall_mem_cons.mpr ⟨(k_wsX11_total_wsX11_total_r3 _ (List.mem_of_getElem? (i := 15) rfl)), List.forall_mem_cons.mpr ⟨(k_wsX11_total_wsX11_total_r3 _ (List.mem_of_getElem? (i := 16) rfl)), List.forall_mem_cons.mpr ⟨(k_wsX11_total_wsX11_total_r3 _ (List.mem_of_getElem? (i := 17) rfl)), List.forall_mem_cons.mpr ⟨(k_wsX11_total_wsX11_total_r3 _ (List.mem_of_getElem? (i := 18) rfl)), List.forall_mem_cons.mpr ⟨(k_wsX11_total_wsX11_total_r3 _ (List.mem_of_getElem? (i := 19) rfl)), List.forall_mem_cons.mpr ⟨(k_wsX11_total_wsX11_total_r3 _ (List.mem_of_getElem? (i := 20) rfl)), List.forall_mem_cons.mpr ⟨(k_wsX11_total_wsX11_total_r3 _ (List.mem_of_getElem? (i := 21) rfl)), List.forall_mem_cons.mpr ⟨(k_wsX11_total_wsX11_total_r3 _ (List.mem_of_getElem? (i := 22) rfl)), List.forall_mem_cons.mpr ⟨(k_wsX11_total_wsX11_total_r3 _ (List.mem_of_getElem? (i := 23) rfl)), List.forall_mem_cons.mpr ⟨(k_wsX11_total_wsX11_total_r4 _ (List.mem_of_getElem? (i := 0) rfl)), List.forall_mem_cons.mpr ⟨(k_wsX11_total_wsX11_total_r4 _ (List.mem_of_getElem? (i := 1) rfl)), List.forall_mem_cons.mpr ⟨(k_wsX11_total_wsX11_total_r4 _ (List.mem_of_getElem? (i := 2) rfl)), List.forall_mem_cons.mpr ⟨(k_wsX11_total_wsX11_total_r4 _ (List.mem_of_getElem? (i := 3) rfl)), List.forall_mem_cons.mpr ⟨(k_wsX11_total_wsX11_total_r4 _ (List.mem_of_getElem? (i := 4) rfl)), List.forall_mem_cons.mpr ⟨(k_wsX11_total_wsX11_total_r1 _ (List.mem_of_getElem? (i := 3) rfl)), List.forall_mem_cons.mpr ⟨(k_wsX11_total_wsX11_total_r1 _ (List.mem_of_getElem? (i := 4) rfl)), List.forall_mem_cons.mpr ⟨(k_wsX11_total_wsX11_total_r4 _ (List.mem_of_getElem? (i := 5) rfl)), List.forall_mem_cons.mpr ⟨(k_wsX11_total_wsX11_total_r1 _ (List.mem_of_getElem? (i := 5) rfl)), List.forall_mem_cons.mpr ⟨(k_wsX11_total_wsX11_total_r4 _ (List.mem_of_getElem? (i := 6) rfl)), List.forall_mem_cons.mpr ⟨(k_wsX11_total_wsX11_total_r4 _ (List.mem_of_getElem? (i := 7) rfl)), List.forall_mem_cons.mpr ⟨(k_wsX11_total_wsX11_total_r4 _ (List.mem_of_getElem? (i := 8) rfl)), List.forall_mem_cons.mpr ⟨(k_wsX11_total_wsX11_total_r4 _ (List.mem_of_getElem? (i := 9) rfl)), List.forall_mem_cons.mpr ⟨(k_wsX11_total_wsX11_total_r4 _ (List.mem_of_getElem? (i := 10) rfl)), fun _ h => absurd h List.not_mem_nil⟩⟩⟩⟩⟩⟩⟩⟩⟩⟩⟩⟩⟩⟩⟩⟩⟩⟩⟩⟩⟩⟩⟩⟩
set_option maxRecDepth 20000 in
theorem s_X11_total_X11_layEvents_wsX11_layEvents_r4 : ∀ w ∈ wsX11_layEvents_r4, w ∈ wsX11_total := List.forall_mem_cons.mpr ⟨(k_wsX11_total_wsX11_total_r4 _ (List.mem_of_getElem? (i := 11) rfl)), List.forall_mem_cons.mpr ⟨(k_wsX11_total_wsX11_total_r4 _ (List.mem_of_getElem? (i := 12) rfl)), List.forall_mem_cons.mpr ⟨(k_wsX11_total_wsX11_total_r4 _ (List.mem_of_getElem? (i := 13) rfl)), List.forall_mem_cons.mpr ⟨(k_wsX11_total_wsX11_total_r4 _ (List.mem_of_getElem? (i := 14) rfl)), List.forall_mem_cons.mpr ⟨(k_wsX11_total_wsX11_total_r4 _ (List.mem_of_getElem? (i := 15) rfl)), List.forall_mem_cons.mpr ⟨(k_wsX11_total_wsX11_total_r4 _ (List.mem_of_getElem? (i := 16) rfl)), List.forall_mem_cons.mpr ⟨(k_wsX11_total_wsX11_total_r4 _ (List.mem_of_getElem? (i := 17) rfl)), List.forall_mem_cons.mpr ⟨(k_wsX11_total_wsX11_total_r4 _ (List.mem_of_getElem? (i := 18) rfl)), fun _ h => absurd h List.not_mem_nil⟩⟩⟩⟩⟩⟩⟩⟩
theorem ggX11_total_X11_layEvents : GoodIn wsX11_total wsX11_layEvents := goodIn_sub (fun w h => (List.mem_cons.mp h).elim (fun e => ft_me e (k_wsX11_total_wsX11_total_r1 _ (List.mem_of_getElem? (i := 17) rfl))) (fun h => (List.mem_append.mp h).elim (fun h => (List.mem_append.mp h).elim (fun h => s_X11_total_X11_layEvents_wsX11_layEvents_r1 w h) (fun h => (List.mem_append.mp h).elim (fun h => s_X11_total_X11_layEvents_wsX11_layEvents_r2 w h) (fun h => (List.mem_append.mp h).elim (fun h => s_X11_total_X11_layEvents_wsX11_layEvents_r3 w h) (fun h => s_X11_total_X11_layEvents_wsX11_layEvents_r4 w h)))) (fun h => k_wsX11_total_wsX110 w h))) gw_wsX11_layEvents
theorem gX11_total_X11_layEvents : GoodIn wsX11_total (wsV RX11 255 RX11 yX11_layEvents wsX11_layEvents) := goodIn_app (goodIn_sub (List.forall_mem_cons.mpr ⟨(k_wsX11_total_wsX11_total_r1 _ (List.mem_of_getElem? (i := 14) rfl)), List.forall_mem_cons.mpr ⟨(k_wsX11_total_wsX11_total_r1 _ (List.mem_of_getElem? (i := 15) rfl)), List.forall_mem_cons.mpr ⟨(k_wsX11_total_wsX11_total_r1 _ (List.mem_of_getElem? (i := 16) rfl)), List.forall_mem_cons.mpr ⟨(k_wsX11_total_wsX11_total_r1 _ (List.mem_of_getElem? (i := 12) rfl)), fun _ h => absurd h List.not_mem_nil⟩⟩⟩⟩) (by decide +kernel)) ggX11_total_X11_layEvents
theorem ggX11_total_X11_v : GoodIn wsX11_total wsX11_v := goodIn_sub (fun w h => (List.mem_cons.mp h).elim (fun e => ft_me e (k_wsX11_total_wsX11_total_r3 _ (List.mem_of_getElem? (i := 23) rfl))) (fun h => (List.mem_append.mp h).elim (fun h => (List.forall_mem_cons.mpr ⟨(k_wsX11_total_wsX11_total_r1 _ (List.mem_of_getElem? (i := 23) rfl)), List.forall_mem_cons.mpr ⟨(k_wsX11_total_wsX11_total_r2 _ (List.mem_of_getElem? (i := 1) rfl)), List.forall_mem_cons.mpr ⟨(k_wsX11_total_wsX11_total_r3 _ (List.mem_of_getElem? (i := 7) rfl)), fun _ h => absurd h List.not_mem_nil⟩⟩⟩) w h) (fun h => k_wsX11_total_wsX110 w h))) gw_wsX11_v
theorem gX11_total_X11_v : GoodIn wsX11_total (wsV RX11 232 RX11 yX11_v wsX11_v) := goodIn_app (goodIn_sub (List.forall_mem_cons.mpr ⟨(k_wsX11_total_wsX11_total_r3 _ (List.mem_of_getElem? (i := 20) rfl)), List.forall_mem_cons.mpr ⟨(k_wsX11_total_wsX11_total_r3 _ (List.mem_of_getElem? (i := 21) rfl)), List.forall_mem_cons.mpr ⟨(k_wsX11_total_wsX11_total_r3 _ (List.mem_of_getElem? (i := 22) rfl)), List.forall_mem_cons.mpr ⟨(k_wsX11_total_wsX11_total_r1 _ (List.mem_of_getElem? (i := 12) rfl)), fun _ h => absurd h List.not_mem_nil⟩⟩⟩⟩) (by decide +kernel)) ggX11_total_X11_v
theorem dX11_total_0 : decode cX11_total 0 = .ok (.iload_n 1, 1) := by decide +kernel
theorem dX11_total_1 : decode cX11_total 1 = .ok (.i2l, 1) := by decide +kernel
theorem dX11_total_2 : decode cX11_total 2 = .ok (.lconst 0, 1) := by decide +kernel
theorem dX11_total_3 : decode cX11_total 3 = .ok (.ldc2_w 258, 3) := by decide +kernel
theorem dX11_total_6 : decode cX11_total 6 = .ok (.invokestatic 91, 3) := by decide +kernel
theorem dX11_total_9 : decode cX11_total 9 = .ok (.ifCond .ne 6, 3) := by decide +kernel
theorem dX11_total_12 : decode cX11_total 12 = .ok (.ldc 95, 2) := by decide +kernel
theorem dX11_total_14 : decode cX11_total 14 = .ok (.ireturn, 1) := by decide +kernel
theorem dX11_total_15 : decode cX11_total 15 = .ok (.aload_n 0, 1) := by decide +kernel
theorem dX11_total_16 : decode cX11_total 16 = .ok (.invokevirtual 255, 3) := by decide +kernel
theorem dX11_total_19 : decode cX11_total 19 = .ok (.iconst 0, 1) := by decide +kernel
theorem dX11_total_20 : decode cX11_total 20 = .ok (.istore_n 2, 1) := by decide +kernel
theorem dX11_total_21 : decode cX11_total 21 = .ok (.iconst 0, 1) := by decide +kernel
theorem dX11_total_22 : decode cX11_total 22 = .ok (.istore_n 3, 1) := by decide +kernel
theorem dX11_total_23 : decode cX11_total 23 = .ok (.iload_n 3, 1) := by decide +kernel
theorem dX11_total_24 : decode cX11_total 24 = .ok (.aload_n 0, 1) := by decide +kernel
theorem dX11_total_25 : decode cX11_total 25 = .ok (.getfield 238, 3) := by decide +kernel
theorem dX11_total_28 : decode cX11_total 28 = .ok (.if_icmp .ge 98, 3) := by decide +kernel
theorem dX11_total_31 : decode cX11_total 31 = .ok (.iload_n 2, 1) := by decide +kernel
theorem dX11_total_32 : decode cX11_total 32 = .ok (.iload_n 1, 1) := by decide +kernel
theorem dX11_total_33 : decode cX11_total 33 = .ok (.ifCond .ne 12, 3) := by decide +kernel
theorem dX11_total_36 : decode cX11_total 36 = .ok (.aload_n 0, 1) := by decide +kernel
theorem dX11_total_37 : decode cX11_total 37 = .ok (.getfield 58, 3) := by decide +kernel
theorem dX11_total_40 : decode cX11_total 40 = .ok (.iload_n 3, 1) := by decide +kernel
theorem dX11_total_41 : decode cX11_total 41 = .ok (.iaload, 1) := by decide +kernel
theorem dX11_total_42 : decode cX11_total 42 = .ok (.goto 76, 3) := by decide +kernel
theorem dX11_total_45 : decode cX11_total 45 = .ok (.iload_n 1, 1) := by decide +kernel
theorem dX11_total_46 : decode cX11_total 46 = .ok (.iconst 1, 1) := by decide +kernel
theorem dX11_total_47 : decode cX11_total 47 = .ok (.if_icmp .ne 12, 3) := by decide +kernel
theorem dX11_total_50 : decode cX11_total 50 = .ok (.aload_n 0, 1) := by decide +kernel
theorem dX11_total_51 : decode cX11_total 51 = .ok (.getfield 67, 3) := by decide +kernel
theorem dX11_total_54 : decode cX11_total 54 = .ok (.iload_n 3, 1) := by decide +kernel
theorem dX11_total_55 : decode cX11_total 55 = .ok (.iaload, 1) := by decide +kernel
theorem dX11_total_56 : decode cX11_total 56 = .ok (.goto 62, 3) := by decide +kernel
theorem dX11_total_59 : decode cX11_total 59 = .ok (.iload_n 1, 1) := by decide +kernel
theorem dX11_total_60 : decode cX11_total 60 = .ok (.iconst 2, 1) := by decide +kernel
theorem dX11_total_61 : decode cX11_total 61 = .ok (.if_icmp .ne 26, 3) := by decide +kernel
theorem dX11_total_64 : decode cX11_total 64 = .ok (.aload_n 0, 1) := by decide +kernel
theorem dX11_total_65 : decode cX11_total 65 = .ok (.getfield 64, 3) := by decide +kernel
theorem dX11_total_68 : decode cX11_total 68 = .ok (.iload_n 3, 1) := by decide +kernel
theorem dX11_total_69 : decode cX11_total 69 = .ok (.iaload, 1) := by decide +kernel
theorem dX11_total_70 : decode cX11_total 70 = .ok (.iconst 2, 1) := by decide +kernel
theorem dX11_total_71 : decode cX11_total 71 = .ok (.if_icmp .ne 12, 3) := by decide +kernel
theorem dX11_total_74 : decode cX11_total 74 = .ok (.aload_n 0, 1) := by decide +kernel
theorem dX11_total_75 : decode cX11_total 75 = .ok (.getfield 58, 3) := by decide +kernel
theorem dX11_total_78 : decode cX11_total 78 = .ok (.iload_n 3, 1) := by decide +kernel
theorem dX11_total_79 : decode cX11_total 79 = .ok (.iaload, 1) := by decide +kernel
theorem dX11_total_80 : decode cX11_total 80 = .ok (.goto 38, 3) := by decide +kernel
theorem dX11_total_83 : decode cX11_total 83 = .ok (.iconst 0, 1) := by decide +kernel
theorem dX11_total_84 : decode cX11_total 84 = .ok (.goto 34, 3) := by decide +kernel
theorem dX11_total_87 : decode cX11_total 87 = .ok (.iload_n 1, 1) := by decide +kernel
theorem dX11_total_88 : decode cX11_total 88 = .ok (.i2l, 1) := by decide +kernel
theorem dX11_total_89 : decode cX11_total 89 = .ok (.ldc2_w 227, 3) := by decide +kernel
theorem dX11_total_92 : decode cX11_total 92 = .ok (.ldc2_w 260, 3) := by decide +kernel
theorem dX11_total_95 : decode cX11_total 95 = .ok (.invokestatic 91, 3) := by decide +kernel
theorem dX11_total_98 : decode cX11_total 98 = .ok (.ifCond .eq 19, 3) := by decide +kernel
theorem dX11_total_101 : decode cX11_total 101 = .ok (.aload_n 0, 1) := by decide +kernel
theorem dX11_total_102 : decode cX11_total 102 = .ok (.getfield 64, 3) := by decide +kernel
theorem dX11_total_105 : decode cX11_total 105 = .ok (.iload_n 3, 1) := by decide +kernel
theorem dX11_total_106 : decode cX11_total 106 = .ok (.iaload, 1) := by decide +kernel
theorem dX11_total_107 : decode cX11_total 107 = .ok (.iload_n 1, 1) := by decide +kernel
theorem dX11_total_108 : decode cX11_total 108 = .ok (.iconst 3, 1) := by decide +kernel
theorem dX11_total_109 : decode cX11_total 109 = .ok (.isub, 1) := by decide +kernel
theorem dX11_total_110 : decode cX11_total 110 = .ok (.if_icmp .ne 7, 3) := by decide +kernel
theorem dX11_total_113 : decode cX11_total 113 = .ok (.iconst 1, 1) := by decide +kernel
theorem dX11_total_114 : decode cX11_total 114 = .ok (.goto 4, 3) := by decide +kernel
theorem dX11_total_117 : decode cX11_total 117 = .ok (.iconst 0, 1) := by decide +kernel
theorem dX11_total_118 : decode cX11_total 118 = .ok (.iadd, 1) := by decide +kernel
theorem dX11_total_119 : decode cX11_total 119 = .ok (.istore_n 2, 1) := by decide +kernel
theorem dX11_total_120 : decode cX11_total 120 = .ok (.iinc 3 1, 3) := by decide +kernel
theorem dX11_total_123 : decode cX11_total 123 = .ok (.goto (-100), 3) := by decide +kernel
theorem dX11_total_126 : decode cX11_total 126 = .ok (.iload_n 1, 1) := by decide +kernel
theorem dX11_total_127 : decode cX11_total 127 = .ok (.bipush 6, 2) := by decide +kernel
theorem dX11_total_129 : decode cX11_total 129 = .ok (.if_icmp .ge 7, 3) := by decide +kernel
theorem dX11_total_132 : decode cX11_total 132 = .ok (.iload_n 2, 1) := by decide +kernel
theorem dX11_total_133 : decode cX11_total 133 = .ok (.goto 56, 3) := by decide +kernel
theorem dX11_total_136 : decode cX11_total 136 = .ok (.iload_n 1, 1) := by decide +kernel
theorem dX11_total_137 : decode cX11_total 137 = .ok (.bipush 7, 2) := by decide +kernel
theorem dX11_total_139 : decode cX11_total 139 = .ok (.if_icmp .ne 18, 3) := by decide +kernel
theorem dX11_total_142 : decode cX11_total 142 = .ok (.aload_n 0, 1) := by decide +kernel
theorem dX11_total_143 : decode cX11_total 143 = .ok (.getfield 245, 3) := by decide +kernel
theorem dX11_total_146 : decode cX11_total 146 = .ok (.ifCond .eq 7, 3) := by decide +kernel
theorem dX11_total_149 : decode cX11_total 149 = .ok (.iconst 1, 1) := by decide +kernel
theorem dX11_total_150 : decode cX11_total 150 = .ok (.goto 39, 3) := by decide +kernel
theorem dX11_total_153 : decode cX11_total 153 = .ok (.iconst 0, 1) := by decide +kernel
theorem dX11_total_154 : decode cX11_total 154 = .ok (.goto 35, 3) := by decide +kernel
theorem dX11_total_157 : decode cX11_total 157 = .ok (.aload_n 0, 1) := by decide +kernel
theorem dX11_total_158 : decode cX11_total 158 = .ok (.getfield 238, 3) := by decide +kernel
theorem dX11_total_161 : decode cX11_total 161 = .ok (.ifCond .ne 7, 3) := by decide +kernel
theorem dX11_total_164 : decode cX11_total 164 = .ok (.iconst 0, 1) := by decide +kernel
theorem dX11_total_165 : decode cX11_total 165 = .ok (.goto 24, 3) := by decide +kernel
theorem dX11_total_168 : decode cX11_total 168 = .ok (.aload_n 0, 1) := by decide +kernel
theorem dX11_total_169 : decode cX11_total 169 = .ok (.iconst 0, 1) := by decide +kernel
theorem dX11_total_170 : decode cX11_total 170 = .ok (.invokevirtual 232, 3) := by decide +kernel
theorem dX11_total_173 : decode cX11_total 173 = .ok (.aload_n 0, 1) := by decide +kernel
theorem dX11_total_174 : decode cX11_total 174 = .ok (.aload_n 0, 1) := by decide +kernel
theorem dX11_total_175 : decode cX11_total 175 = .ok (.getfield 55, 3) := by decide +kernel
theorem dX11_total_178 : decode cX11_total 178 = .ok (.aload_n 0, 1) := by decide +kernel
theorem dX11_total_179 : decode cX11_total 179 = .ok (.getfield 238, 3) := by decide +kernel
theorem dX11_total_182 : decode cX11_total 182 = .ok (.iconst 1, 1) := by decide +kernel
theorem dX11_total_183 : decode cX11_total 183 = .ok (.isub, 1) := by decide +kernel
theorem dX11_total_184 : decode cX11_total 184 = .ok (.iaload, 1) := by decide +kernel
theorem dX11_total_185 : decode cX11_total 185 = .ok (.invokevirtual 232, 3) := by decide +kernel
theorem dX11_total_188 : decode cX11_total 188 = .ok (.isub, 1) := by decide +kernel
theorem dX11_total_189 : decode cX11_total 189 = .ok (.ireturn, 1) := by decide +kernel
theorem ggX11_eventOn_X11_in : GoodIn wsX11_eventOn wsX11_in := goodIn_sub (fun w h => (List.mem_cons.mp h).elim (fun e => ft_me e (List.mem_cons_of_mem _ (List.mem_append_left _ (List.mem_of_getElem? (i := 6) rfl)))) (fun h => absurd h List.not_mem_nil)) gw_wsX11_in
theorem gX11_eventOn_X11_in : GoodIn wsX11_eventOn (va_wsS RX11 91 yX11_in wsX11_in) := goodIn_app (goodIn_sub (List.forall_mem_cons.mpr ⟨(List.mem_cons_of_mem _ (List.mem_append_left _ (List.mem_of_getElem? (i := 3) rfl))), List.forall_mem_cons.mpr ⟨(List.mem_cons_of_mem _ (List.mem_append_left _ (List.mem_of_getElem? (i := 4) rfl))), List.forall_mem_cons.mpr ⟨(List.mem_cons_of_mem _ (List.mem_append_left _ (List.mem_of_getElem? (i := 5) rfl))), fun _ h => absurd h List.not_mem_nil⟩⟩⟩) (by decide +kernel)) ggX11_eventOn_X11_in
theorem dX11_eventOn_0 : decode cX11_eventOn 0 = .ok (.iconst 0, 1) := by decide +kernel
theorem dX11_eventOn_1 : decode cX11_eventOn 1 = .ok (.istore_n 2, 1) := by decide +kernel
theorem dX11_eventOn_2 : decode cX11_eventOn 2 = .ok (.iload_n 2, 1) := by decide +kernel
theorem dX11_eventOn_3 : decode cX11_eventOn 3 = .ok (.aload_n 0, 1) := by decide +kernel
theorem dX11_eventOn_4 : decode cX11_eventOn 4 = .ok (.getfield 238, 3) := by decide +kernel
theorem dX11_eventOn_7 : decode cX11_eventOn 7 = .ok (.if_icmp .ge 33, 3) := by decide +kernel
theorem dX11_eventOn_10 : decode cX11_eventOn 10 = .ok (.iload_n 1, 1) := by decide +kernel
theorem dX11_eventOn_11 : decode cX11_eventOn 11 = .ok (.i2l, 1) := by decide +kernel
theorem dX11_eventOn_12 : decode cX11_eventOn 12 = .ok (.aload_n 0, 1) := by decide +kernel
theorem dX11_eventOn_13 : decode cX11_eventOn 13 = .ok (.getfield 52, 3) := by decide +kernel
theorem dX11_eventOn_16 : decode cX11_eventOn 16 = .ok (.iload_n 2, 1) := by decide +kernel
theorem dX11_eventOn_17 : decode cX11_eventOn 17 = .ok (.iaload, 1) := by decide +kernel
theorem dX11_eventOn_18 : decode cX11_eventOn 18 = .ok (.i2l, 1) := by decide +kernel
theorem dX11_eventOn_19 : decode cX11_eventOn 19 = .ok (.aload_n 0, 1) := by decide +kernel
theorem dX11_eventOn_20 : decode cX11_eventOn 20 = .ok (.getfield 55, 3) := by decide +kernel
theorem dX11_eventOn_23 : decode cX11_eventOn 23 = .ok (.iload_n 2, 1) := by decide +kernel
theorem dX11_eventOn_24 : decode cX11_eventOn 24 = .ok (.iaload, 1) := by decide +kernel
theorem dX11_eventOn_25 : decode cX11_eventOn 25 = .ok (.i2l, 1) := by decide +kernel
theorem dX11_eventOn_26 : decode cX11_eventOn 26 = .ok (.invokestatic 91, 3) := by decide +kernel
theorem dX11_eventOn_29 : decode cX11_eventOn 29 = .ok (.ifCond .eq 5, 3) := by decide +kernel
theorem dX11_eventOn_32 : decode cX11_eventOn 32 = .ok (.iload_n 2, 1) := by decide +kernel
theorem dX11_eventOn_33 : decode cX11_eventOn 33 = .ok (.ireturn, 1) := by decide +kernel
theorem dX11_eventOn_34 : decode cX11_eventOn 34 = .ok (.iinc 2 1, 3) := by decide +kernel
theorem dX11_eventOn_37 : decode cX11_eventOn 37 = .ok (.goto (-35), 3) := by decide +kernel
theorem dX11_eventOn_40 : decode cX11_eventOn 40 = .ok (.iconst (-1), 1) := by decide +kernel
theorem dX11_eventOn_41 : decode cX11_eventOn 41 = .ok (.ireturn, 1) := by decide +kernel
theorem ggX11_eventAt_X11_samples : GoodIn wsX11_eventAt wsX11_samples := goodIn_sub (fun w h => (List.mem_cons.mp h).elim (fun e => ft_me e (k_wsX11_eventAt_wsX11_eventAt_r1 _ (List.mem_of_getElem? (i := 6) rfl))) (fun h => (List.mem_append.mp h).elim (fun h => (List.forall_mem_cons.mpr ⟨(k_wsX11_eventAt_wsX11_eventAt_r1 _ (List.mem_of_getElem? (i := 7) rfl)), fun _ h => absurd h List.not_mem_nil⟩) w h) (fun h => k_wsX11_eventAt_wsX110 w h))) gw_wsX11_samples
theorem gX11_eventAt_X11_samples : GoodIn wsX11_eventAt (wsV RX11 199 RX11 yX11_samples wsX11_samples) := goodIn_app (goodIn_sub (List.forall_mem_cons.mpr ⟨(k_wsX11_eventAt_wsX11_eventAt_r1 _ (List.mem_of_getElem? (i := 2) rfl)), List.forall_mem_cons.mpr ⟨(k_wsX11_eventAt_wsX11_eventAt_r1 _ (List.mem_of_getElem? (i := 3) rfl)), List.forall_mem_cons.mpr ⟨(k_wsX11_eventAt_wsX11_eventAt_r1 _ (List.mem_of_getElem? (i := 4) rfl)), List.forall_mem_cons.mpr ⟨(k_wsX11_eventAt_wsX11_eventAt_r1 _ (List.mem_of_getElem? (i := 5) rfl)), fun _ h => absurd h List.not_mem_nil⟩⟩⟩⟩) (by decide +kernel)) ggX11_eventAt_X11_samples
theorem ggX11_eventAt_X11_in : GoodIn wsX11_eventAt wsX11_in := goodIn_sub (fun w h => (List.mem_cons.mp h).elim (fun e => ft_me e (k_wsX11_eventAt_wsX11_eventAt_r1 _ (List.mem_of_getElem? (i := 10) rfl))) (fun h => absurd h List.not_mem_nil)) gw_wsX11_in
theorem gX11_eventAt_X11_in : GoodIn wsX11_eventAt (va_wsS RX11 91 yX11_in wsX11_in) := goodIn_app (goodIn_sub (List.forall_mem_cons.mpr ⟨(k_wsX11_eventAt_wsX11_eventAt_r1 _ (List.mem_of_getElem? (i := 8) rfl)), List.forall_mem_cons.mpr ⟨(k_wsX11_eventAt_wsX11_eventAt_r1 _ (List.mem_of_getElem? (i := 9) rfl)), List.forall_mem_cons.mpr ⟨(k_wsX11_eventAt_wsX11_eventAt_r1 _ (List.mem_of_getElem? (i := 5) rfl)), fun _ h => absurd h List.not_mem_nil⟩⟩⟩) (by decide +kernel)) ggX11_eventAt_X11_in
set_option maxRecDepth 20000 in
theorem s_X11_eventAt_X11_layEvents_wsX11_layEvents_r1 : ∀ w ∈ wsX11_layEvents_r1, w ∈ wsX11_eventAt := List.forall_mem_cons.mpr ⟨(k_wsX11_eventAt_wsX11_eventAt_r1 _ (List.mem_of_getElem? (i := 15) rfl)), List.forall_mem_cons.mpr ⟨(k_wsX11_eventAt_wsX11_eventAt_r1 _ (List.mem_of_getElem? (i := 16) rfl)), List.forall_mem_cons.mpr ⟨(k_wsX11_eventAt_wsX11_eventAt_r1 _ (List.mem_of_getElem? (i := 17) rfl)), List.forall_mem_cons.mpr ⟨(k_wsX11_eventAt_wsX11_eventAt_r1 _ (List.mem_of_getElem? (i := 18) rfl)), List.forall_mem_cons.mpr ⟨(k_wsX11_eventAt_wsX11_eventAt_r1 _ (List.mem_of_getElem? (i := 19) rfl)), List.forall_mem_cons.mpr ⟨(k_wsX11_eventAt_wsX11_eventAt_r1 _ (List.mem_of_getElem? (i := 20) rfl)), List.forall_mem_cons.mpr ⟨(k_wsX11_eventAt_wsX11_eventAt_r1 _ (List.mem_of_getElem? (i := 5) rfl)), List.forall_mem_cons.mpr ⟨(k_wsX11_eventAt_wsX11_eventAt_r1 _ (List.mem_of_getElem? (i := 21) rfl)), List.forall_mem_cons.mpr ⟨(k_wsX11_eventAt_wsX11_eventAt_r1 _ (List.mem_of_getElem? (i := 22) rfl)), List.forall_mem_cons.mpr ⟨(k_wsX11_eventAt_wsX11_eventAt_r1 _ (List.mem_of_getElem? (i := 23) rfl)), List.forall_mem_cons.mpr ⟨(k_wsX11_eventAt_wsX11_eventAt_r1 _ (List.mem_of_getElem? (i := 7) rfl)), List.forall_mem_cons.mpr ⟨(k_wsX11_eventAt_wsX11_eventAt_r2 _ (List.mem_of_getElem? (i := 0) rfl)), List.forall_mem_cons.mpr ⟨(k_wsX11_eventAt_wsX11_eventAt_r2 _ (List.mem_of_getElem? (i := 1) rfl)), List.forall_mem_cons.mpr ⟨(k_wsX11_eventAt_wsX11_eventAt_r2 _ (List.mem_of_getElem? (i := 2) rfl)), List.forall_mem_cons.mpr ⟨(k_wsX11_eventAt_wsX11_eventAt_r2 _ (List.mem_of_getElem? (i := 3) rfl)), List.forall_mem_cons.mpr ⟨(k_wsX11_eventAt_wsX11_eventAt_r2 _ (List.mem_of_getElem? (i := 4) rfl)), List.forall_mem_cons.mpr ⟨(k_wsX11_eventAt_wsX11_eventAt_r2 _ (List.mem_of_getElem? (i := 5) rfl)), List.forall_mem_cons.mpr ⟨(k_wsX11_eventAt_wsX11_eventAt_r2 _ (List.mem_of_getElem? (i := 6) rfl)), List.forall_mem_cons.mpr ⟨(k_wsX11_eventAt_wsX11_eventAt_r2 _ (List.mem_of_getElem? (i := 7) rfl)), List.forall_mem_cons.mpr ⟨(k_wsX11_eventAt_wsX11_eventAt_r2 _ (List.mem_of_getElem? (i := 8) rfl)), List.forall_mem_cons.mpr ⟨(k_wsX11_eventAt_wsX11_eventAt_r2 _ (List.mem_of_getElem? (i := 9) rfl)), List.forall_mem_cons.mpr ⟨(k_wsX11_eventAt_wsX11_eventAt_r2 _ (List.mem_of_getElem? (i := 10) rfl)), List.forall_mem_cons.mpr ⟨(k_wsX11_eventAt_wsX11_eventAt_r2 _ (List.mem_of_getElem? (i := 11) rfl)), List.forall_mem_cons.mpr ⟨(k_wsX11_eventAt_wsX11_eventAt_r2 _ (List.mem_of_getElem? (i := 12) rfl)), fun _ h => absurd h List.not_mem_nil⟩⟩⟩⟩⟩⟩⟩⟩⟩⟩⟩⟩⟩⟩⟩⟩⟩⟩⟩⟩⟩⟩⟩⟩
set_option maxRecDepth 20000 in
theorem s_X11_eventAt_X11_layEvents_wsX11_layEvents_r2 : ∀ w ∈ wsX11_layEvents_r2, w ∈ wsX11_eventAt := List.forall_mem_cons.mpr ⟨(k_wsX11_eventAt_wsX11_eventAt_r2 _ (List.mem_of_getElem? (i := 13) rfl)), List.forall_mem_cons.mpr ⟨(k_wsX11_eventAt_wsX11_eventAt_r2 _ (List.mem_of_getElem? (i := 14) rfl)), List.forall_mem_cons.mpr ⟨(k_wsX11_eventAt_wsX11_eventAt_r2 _ (List.mem_of_getElem? (i := 15) rfl)), List.forall_mem_cons.mpr ⟨(k_wsX11_eventAt_wsX11_eventAt_r2 _ (List.mem_of_getElem? (i := 16) rfl)), List.forall_mem_cons.mpr ⟨(k_wsX11_eventAt_wsX11_eventAt_r2 _ (List.mem_of_getElem? (i := 17) rfl)), List.forall_mem_cons.mpr ⟨(k_wsX11_eventAt_wsX11_eventAt_r2 _ (List.mem_of_getElem? (i := 18) rfl)), List.forall_mem_cons.mpr ⟨(k_wsX11_eventAt_wsX11_eventAt_r2 _ (List.mem_of_getElem? (i := 19) rfl)), List.forall_mem_cons.mpr ⟨(k_wsX11_eventAt_wsX11_eventAt_r2 _ (List.mem_of_getElem? (i := 20) rfl)), List.forall_mem_cons.mpr ⟨(k_wsX11_eventAt_wsX11_eventAt_r2 _ (List.mem_of_getElem? (i := 21) rfl)), List.forall_mem_cons.mpr ⟨(k_wsX11_eventAt_wsX11_eventAt_r2 _ (List.mem_of_getElem? (i := 22) rfl)), List.forall_mem_cons.mpr ⟨(k_wsX11_eventAt_wsX11_eventAt_r2 _ (List.mem_of_getElem? (i := 23) rfl)), List.forall_mem_cons.mpr ⟨(k_wsX11_eventAt_wsX11_eventAt_r3 _ (List.mem_of_getElem? (i := 0) rfl)), List.forall_mem_cons.mpr ⟨(k_wsX11_eventAt_wsX11_eventAt_r3 _ (List.mem_of_getElem? (i := 1) rfl)), List.forall_mem_cons.mpr ⟨(k_wsX11_eventAt_wsX11_eventAt_r3 _ (List.mem_of_getElem? (i := 2) rfl)), List.forall_mem_cons.mpr ⟨(k_wsX11_eventAt_wsX11_eventAt_r3 _ (List.mem_of_getElem? (i := 3) rfl)), List.forall_mem_cons.mpr ⟨(k_wsX11_eventAt_wsX11_eventAt_r3 _ (List.mem_of_getElem? (i := 4) rfl)), List.forall_mem_cons.mpr ⟨(k_wsX11_eventAt_wsX11_eventAt_r3 _ (List.mem_of_getElem? (i := 5) rfl)), List.forall_mem_cons.mpr ⟨(k_wsX11_eventAt_wsX11_eventAt_r3 _ (List.mem_of_getElem? (i := 6) rfl)), List.forall_mem_cons.mpr ⟨(k_wsX11_eventAt_wsX11_eventAt_r1 _ (List.mem_of_getElem? (i := 2) rfl)), List.forall_mem_cons.mpr ⟨(k_wsX11_eventAt_wsX11_eventAt_r1 _ (List.mem_of_getElem? (i := 3) rfl)), List.forall_mem_cons.mpr ⟨(k_wsX11_eventAt_wsX11_eventAt_r1 _ (List.mem_of_getElem? (i := 4) rfl)), List.forall_mem_cons.mpr ⟨(k_wsX11_eventAt_wsX11_eventAt_r1 _ (List.mem_of_getElem? (i := 6) rfl)), List.forall_mem_cons.mpr ⟨(k_wsX11_eventAt_wsX11_eventAt_r3 _ (List.mem_of_getElem? (i := 7) rfl)), List.forall_mem_cons.mpr ⟨(k_wsX11_eventAt_wsX11_eventAt_r3 _ (List.mem_of_getElem? (i := 8) rfl)), fun _ h => absurd h List.not_mem_nil⟩⟩⟩⟩⟩⟩⟩⟩⟩⟩⟩⟩⟩⟩⟩⟩⟩⟩⟩⟩⟩⟩⟩⟩
set_option maxRecDepth 20000 in
theorem s_X11_eventAt_X11_layEvents_wsX11_layEvents_r3 : ∀ w ∈ wsX11_layEvents_r3, w ∈ wsX11_eventAt := List.forall_mem_cons.mpr ⟨(k_wsX11_eventAt_wsX11_eventAt_r3 _ (List.mem_of_getElem? (i := 9) rfl)), List.forall_mem_cons.mpr ⟨(k_wsX11_eventAt_wsX11_eventAt_r3 _ (List.mem_of_getElem? (i := 10) rfl)), List.forall_mem_cons.mpr ⟨(k_wsX11_eventAt_wsX11_eventAt_r3 _ (List.mem_of_getElem? (i := 11) rfl)), List.forall_mem_cons.mpr ⟨(k_wsX11_eventAt_wsX11_eventAt_r3 _ (List.mem_of_getElem? (i := 12) rfl)), List.forall_mem_cons.mpr ⟨(k_wsX11_eventAt_wsX11_eventAt_r3 _ (List.mem_of_getElem? (i := 13) rfl)), List.forall_mem_cons.mpr ⟨(k_wsX11_eventAt_wsX11_eventAt_r3 _ (List.mem_of_getElem? (i := 14) rfl)), List.forall_mem_cons.mpr ⟨(k_wsX11_eventAt_wsX11_eventAt_r3 _ (List.mem_of_getElem? (i := 15) rfl)), List.forall_mem_cons.mpr ⟨(k_wsX11_eventAt_wsX11_eventAt_r3 _ (List.mem_of_getElem? (i := 16) rfl)), List.forall_mem_cons.mpr ⟨(k_wsX11_eventAt_wsX11_eventAt_r3 _ (List.mem_of_getElem? (i := 17) rfl)), List.forall_mem_cons.mpr ⟨(k_wsX11_eventAt_wsX11_eventAt_r3 _ (List.mem_of_getElem? (i := 18) rfl)), List.forall_mem_cons.mpr ⟨(k_wsX11_eventAt_wsX11_eventAt_r3 _ (List.mem_of_getElem? (i := 19) rfl)), List.forall_mem_cons.mpr ⟨(k_wsX11_eventAt_wsX11_eventAt_r3 _ (List.mem_of_getElem? (i := 20) rfl)), List.forall_mem_cons.mpr ⟨(k_wsX11_eventAt_wsX11_eventAt_r3 _ (List.mem_of_getElem? (i := 21) rfl)), List.forall_mem_cons.mpr ⟨(k_wsX11_eventAt_wsX11_eventAt_r3 _ (List.mem_of_getElem? (i := 22) rfl)), List.forall_mem_cons.mpr ⟨(k_wsX11_eventAt_wsX11_eventAt_r3 _ (List.mem_of_getElem? (i := 23) rfl)), List.forall_mem_cons.mpr ⟨(k_wsX11_eventAt_wsX11_eventAt_r4 _ (List.mem_of_getElem? (i := 0) rfl)), List.forall_mem_cons.mpr ⟨(k_wsX11_eventAt_wsX11_eventAt_r4 _ (List.mem_of_getElem? (i := 1) rfl)), List.forall_mem_cons.mpr ⟨(k_wsX11_eventAt_wsX11_eventAt_r4 _ (List.mem_of_getElem? (i := 2) rfl)), List.forall_mem_cons.mpr ⟨(k_wsX11_eventAt_wsX11_eventAt_r4 _ (List.mem_of_getElem? (i := 3) rfl)), List.forall_mem_cons.mpr ⟨(k_wsX11_eventAt_wsX11_eventAt_r4 _ (List.mem_of_getElem? (i := 4) rfl)), List.forall_mem_cons.mpr ⟨(k_wsX11_eventAt_wsX11_eventAt_r4 _ (List.mem_of_getElem? (i := 5) rfl)), List.forall_mem_cons.mpr ⟨(k_wsX11_eventAt_wsX11_eventAt_r4 _ (List.mem_of_getElem? (i := 6) rfl)), List.forall_mem_cons.mpr ⟨(k_wsX11_eventAt_wsX11_eventAt_r4 _ (List.mem_of_getElem? (i := 7) rfl)), List.forall_mem_cons.mpr ⟨(k_wsX11_eventAt_wsX11_eventAt_r4 _ (List.mem_of_getElem? (i := 8) rfl)), fun _ h => absurd h List.not_mem_nil⟩⟩⟩⟩⟩⟩⟩⟩⟩⟩⟩⟩⟩⟩⟩⟩⟩⟩⟩⟩⟩⟩⟩⟩
set_option maxRecDepth 20000 in
theorem s_X11_eventAt_X11_layEvents_wsX11_layEvents_r4 : ∀ w ∈ wsX11_layEvents_r4, w ∈ wsX11_eventAt := List.forall_mem_cons.mpr ⟨(k_wsX11_eventAt_wsX11_eventAt_r4 _ (List.mem_of_getElem? (i := 9) rfl)), List.forall_mem_cons.mpr ⟨(k_wsX11_eventAt_wsX11_eventAt_r4 _ (List.mem_of_getElem? (i := 10) rfl)), List.forall_mem_cons.mpr ⟨(k_wsX11_eventAt_wsX11_eventAt_r4 _ (List.mem_of_getElem? (i := 11) rfl)), List.forall_mem_cons.mpr ⟨(k_wsX11_eventAt_wsX11_eventAt_r4 _ (List.mem_of_getElem? (i := 12) rfl)), List.forall_mem_cons.mpr ⟨(k_wsX11_eventAt_wsX11_eventAt_r4 _ (List.mem_of_getElem? (i := 13) rfl)), List.forall_mem_cons.mpr ⟨(k_wsX11_eventAt_wsX11_eventAt_r4 _ (List.mem_of_getElem? (i := 14) rfl)), List.forall_mem_cons.mpr ⟨(k_wsX11_eventAt_wsX11_eventAt_r4 _ (List.mem_of_getElem? (i := 15) rfl)), List.forall_mem_cons.mpr ⟨(k_wsX11_eventAt_wsX11_eventAt_r4 _ (List.mem_of_getElem? (i := 16) rfl)), fun _ h => absurd h List.not_mem_nil⟩⟩⟩⟩⟩⟩⟩⟩
theorem ggX11_eventAt_X11_layEvents : GoodIn wsX11_eventAt wsX11_layEvents := goodIn_sub (fun w h => (List.mem_cons.mp h).elim (fun e => ft_me e (k_wsX11_eventAt_wsX11_eventAt_r1 _ (List.mem_of_getElem? (i := 14) rfl))) (fun h => (List.mem_append.mp h).elim (fun h => (List.mem_append.mp h).elim (fun h => s_X11_eventAt_X11_layEvents_wsX11_layEvents_r1 w h) (fun h => (List.mem_append.mp h).elim (fun h => s_X11_eventAt_X11_layEvents_wsX11_layEvents_r2 w h) (fun h => (List.mem_append.mp h).elim (fun h => s_X11_eventAt_X11_layEvents_wsX11_layEvents_r3 w h) (fun h => s_X11_eventAt_X11_layEvents_wsX11_layEvents_r4 w h)))) (fun h => k_wsX11_eventAt_wsX110 w h))) gw_wsX11_layEvents
theorem gX11_eventAt_X11_layEvents : GoodIn wsX11_eventAt (wsV RX11 255 RX11 yX11_layEvents wsX11_layEvents) := goodIn_app (goodIn_sub (List.forall_mem_cons.mpr ⟨(k_wsX11_eventAt_wsX11_eventAt_r1 _ (List.mem_of_getElem? (i := 11) rfl)), List.forall_mem_cons.mpr ⟨(k_wsX11_eventAt_wsX11_eventAt_r1 _ (List.mem_of_getElem? (i := 12) rfl)), List.forall_mem_cons.mpr ⟨(k_wsX11_eventAt_wsX11_eventAt_r1 _ (List.mem_of_getElem? (i := 13) rfl)), List.forall_mem_cons.mpr ⟨(k_wsX11_eventAt_wsX11_eventAt_r1 _ (List.mem_of_getElem? (i := 5) rfl)), fun _ h => absurd h List.not_mem_nil⟩⟩⟩⟩) (by decide +kernel)) ggX11_eventAt_X11_layEvents
theorem ggX11_eventAt_X11_eventOn : GoodIn wsX11_eventAt wsX11_eventOn := goodIn_sub (fun w h => (List.mem_cons.mp h).elim (fun e => ft_me e (k_wsX11_eventAt_wsX11_eventAt_r4 _ (List.mem_of_getElem? (i := 20) rfl))) (fun h => (List.mem_append.mp h).elim (fun h => (List.forall_mem_cons.mpr ⟨(k_wsX11_eventAt_wsX11_eventAt_r1 _ (List.mem_of_getElem? (i := 15) rfl)), List.forall_mem_cons.mpr ⟨(k_wsX11_eventAt_wsX11_eventAt_r3 _ (List.mem_of_getElem? (i := 23) rfl)), List.forall_mem_cons.mpr ⟨(k_wsX11_eventAt_wsX11_eventAt_r1 _ (List.mem_of_getElem? (i := 17) rfl)), List.forall_mem_cons.mpr ⟨(k_wsX11_eventAt_wsX11_eventAt_r1 _ (List.mem_of_getElem? (i := 8) rfl)), List.forall_mem_cons.mpr ⟨(k_wsX11_eventAt_wsX11_eventAt_r1 _ (List.mem_of_getElem? (i := 9) rfl)), List.forall_mem_cons.mpr ⟨(k_wsX11_eventAt_wsX11_eventAt_r1 _ (List.mem_of_getElem? (i := 5) rfl)), List.forall_mem_cons.mpr ⟨(k_wsX11_eventAt_wsX11_eventAt_r1 _ (List.mem_of_getElem? (i := 10) rfl)), fun _ h => absurd h List.not_mem_nil⟩⟩⟩⟩⟩⟩⟩) w h) (fun h => k_wsX11_eventAt_wsX110 w h))) gw_wsX11_eventOn
theorem gX11_eventAt_X11_eventOn : GoodIn wsX11_eventAt (wsV RX11 262 RX11 yX11_eventOn wsX11_eventOn) := goodIn_app (goodIn_sub (List.forall_mem_cons.mpr ⟨(k_wsX11_eventAt_wsX11_eventAt_r4 _ (List.mem_of_getElem? (i := 17) rfl)), List.forall_mem_cons.mpr ⟨(k_wsX11_eventAt_wsX11_eventAt_r4 _ (List.mem_of_getElem? (i := 18) rfl)), List.forall_mem_cons.mpr ⟨(k_wsX11_eventAt_wsX11_eventAt_r4 _ (List.mem_of_getElem? (i := 19) rfl)), List.forall_mem_cons.mpr ⟨(k_wsX11_eventAt_wsX11_eventAt_r1 _ (List.mem_of_getElem? (i := 5) rfl)), fun _ h => absurd h List.not_mem_nil⟩⟩⟩⟩) (by decide +kernel)) ggX11_eventAt_X11_eventOn
theorem dX11_eventAt_0 : decode cX11_eventAt 0 = .ok (.iload_n 1, 1) := by decide +kernel
theorem dX11_eventAt_1 : decode cX11_eventAt 1 = .ok (.i2l, 1) := by decide +kernel
theorem dX11_eventAt_2 : decode cX11_eventAt 2 = .ok (.lconst 0, 1) := by decide +kernel
theorem dX11_eventAt_3 : decode cX11_eventAt 3 = .ok (.aload_n 0, 1) := by decide +kernel
theorem dX11_eventAt_4 : decode cX11_eventAt 4 = .ok (.invokevirtual 199, 3) := by decide +kernel
theorem dX11_eventAt_7 : decode cX11_eventAt 7 = .ok (.iconst 1, 1) := by decide +kernel
theorem dX11_eventAt_8 : decode cX11_eventAt 8 = .ok (.isub, 1) := by decide +kernel
theorem dX11_eventAt_9 : decode cX11_eventAt 9 = .ok (.i2l, 1) := by decide +kernel
theorem dX11_eventAt_10 : decode cX11_eventAt 10 = .ok (.invokestatic 91, 3) := by decide +kernel
theorem dX11_eventAt_13 : decode cX11_eventAt 13 = .ok (.ifCond .ne 6, 3) := by decide +kernel
theorem dX11_eventAt_16 : decode cX11_eventAt 16 = .ok (.ldc 95, 2) := by decide +kernel
theorem dX11_eventAt_18 : decode cX11_eventAt 18 = .ok (.ireturn, 1) := by decide +kernel
theorem dX11_eventAt_19 : decode cX11_eventAt 19 = .ok (.aload_n 0, 1) := by decide +kernel
theorem dX11_eventAt_20 : decode cX11_eventAt 20 = .ok (.invokevirtual 255, 3) := by decide +kernel
theorem dX11_eventAt_23 : decode cX11_eventAt 23 = .ok (.aload_n 0, 1) := by decide +kernel
theorem dX11_eventAt_24 : decode cX11_eventAt 24 = .ok (.iload_n 1, 1) := by decide +kernel
theorem dX11_eventAt_25 : decode cX11_eventAt 25 = .ok (.invokevirtual 262, 3) := by decide +kernel
theorem dX11_eventAt_28 : decode cX11_eventAt 28 = .ok (.istore_n 2, 1) := by decide +kernel
theorem dX11_eventAt_29 : decode cX11_eventAt 29 = .ok (.iload_n 2, 1) := by decide +kernel
theorem dX11_eventAt_30 : decode cX11_eventAt 30 = .ok (.ifCond .ge 8, 3) := by decide +kernel
theorem dX11_eventAt_33 : decode cX11_eventAt 33 = .ok (.ldc 173, 2) := by decide +kernel
theorem dX11_eventAt_35 : decode cX11_eventAt 35 = .ok (.goto 4, 3) := by decide +kernel
theorem dX11_eventAt_38 : decode cX11_eventAt 38 = .ok (.iload_n 2, 1) := by decide +kernel
theorem dX11_eventAt_39 : decode cX11_eventAt 39 = .ok (.ireturn, 1) := by decide +kernel
set_option maxRecDepth 20000 in
theorem s_X11_worst_X11_layEvents_wsX11_layEvents_r1 : ∀ w ∈ wsX11_layEvents_r1, w ∈ wsX11_worst := List.forall_mem_cons.mpr ⟨(k_wsX11_worst_wsX11_worst_r1 _ (List.mem_of_getElem? (i := 1) rfl)), List.forall_mem_cons.mpr ⟨(k_wsX11_worst_wsX11_worst_r1 _ (List.mem_of_getElem? (i := 9) rfl)), List.forall_mem_cons.mpr ⟨(k_wsX11_worst_wsX11_worst_r1 _ (List.mem_of_getElem? (i := 10) rfl)), List.forall_mem_cons.mpr ⟨(k_wsX11_worst_wsX11_worst_r1 _ (List.mem_of_getElem? (i := 11) rfl)), List.forall_mem_cons.mpr ⟨(k_wsX11_worst_wsX11_worst_r1 _ (List.mem_of_getElem? (i := 12) rfl)), List.forall_mem_cons.mpr ⟨(k_wsX11_worst_wsX11_worst_r1 _ (List.mem_of_getElem? (i := 13) rfl)), List.forall_mem_cons.mpr ⟨(k_wsX11_worst_wsX11_worst_r1 _ (List.mem_of_getElem? (i := 7) rfl)), List.forall_mem_cons.mpr ⟨(k_wsX11_worst_wsX11_worst_r1 _ (List.mem_of_getElem? (i := 14) rfl)), List.forall_mem_cons.mpr ⟨(k_wsX11_worst_wsX11_worst_r1 _ (List.mem_of_getElem? (i := 15) rfl)), List.forall_mem_cons.mpr ⟨(k_wsX11_worst_wsX11_worst_r1 _ (List.mem_of_getElem? (i := 16) rfl)), List.forall_mem_cons.mpr ⟨(k_wsX11_worst_wsX11_worst_r1 _ (List.mem_of_getElem? (i := 17) rfl)), List.forall_mem_cons.mpr ⟨(k_wsX11_worst_wsX11_worst_r1 _ (List.mem_of_getElem? (i := 18) rfl)), List.forall_mem_cons.mpr ⟨(k_wsX11_worst_wsX11_worst_r1 _ (List.mem_of_getElem? (i := 19) rfl)), List.forall_mem_cons.mpr ⟨(k_wsX11_worst_wsX11_worst_r1 _ (List.mem_of_getElem? (i := 20) rfl)), List.forall_mem_cons.mpr ⟨(k_wsX11_worst_wsX11_worst_r1 _ (List.mem_of_getElem? (i := 21) rfl)), List.forall_mem_cons.mpr ⟨(k_wsX11_worst_wsX11_worst_r1 _ (List.mem_of_getElem? (i := 22) rfl)), List.forall_mem_cons.mpr ⟨(k_wsX11_worst_wsX11_worst_r1 _ (List.mem_of_getElem? (i := 23) rfl)), List.forall_mem_cons.mpr ⟨(k_wsX11_worst_wsX11_worst_r2 _ (List.mem_of_getElem? (i := 0) rfl)), List.forall_mem_cons.mpr ⟨(k_wsX11_worst_wsX11_worst_r2 _ (List.mem_of_getElem? (i := 1) rfl)), List.forall_mem_cons.mpr ⟨(k_wsX11_worst_wsX11_worst_r2 _ (List.mem_of_getElem? (i := 2) rfl)), List.forall_mem_cons.mpr ⟨(k_wsX11_worst_wsX11_worst_r2 _ (List.mem_of_getElem? (i := 3) rfl)), List.forall_mem_cons.mpr ⟨(k_wsX11_worst_wsX11_worst_r2 _ (List.mem_of_getElem? (i := 4) rfl)), List.forall_mem_cons.mpr ⟨(k_wsX11_worst_wsX11_worst_r2 _ (List.mem_of_getElem? (i := 5) rfl)), List.forall_mem_cons.mpr ⟨(k_wsX11_worst_wsX11_worst_r2 _ (List.mem_of_getElem? (i := 6) rfl)), fun _ h => absurd h List.not_mem_nil⟩⟩⟩⟩⟩⟩⟩⟩⟩⟩⟩⟩⟩⟩⟩⟩⟩⟩⟩⟩⟩⟩⟩⟩
set_option maxRecDepth 20000 in
theorem s_X11_worst_X11_layEvents_wsX11_layEvents_r2 : ∀ w ∈ wsX11_layEvents_r2, w ∈ wsX11_worst := List.forall_mem_cons.mpr ⟨(k_wsX11_worst_wsX11_worst_r2 _ (List.mem_of_getElem? (i := 7) rfl)), List.forall_mem_cons.mpr ⟨(k_wsX11_worst_wsX11_worst_r2 _ (List.mem_of_getElem? (i := 8) rfl)), List.forall_mem_cons.mpr ⟨(k_wsX11_worst_wsX11_worst_r2 _ (List.mem_of_getElem? (i := 9) rfl)), List.forall_mem_cons.mpr ⟨(k_wsX11_worst_wsX11_worst_r2 _ (List.mem_of_getElem? (i := 10) rfl)), List.forall_mem_cons.mpr ⟨(k_wsX11_worst_wsX11_worst_r2 _ (List.mem_of_getElem? (i := 11) rfl)), List.forall_mem_cons.mpr ⟨(k_wsX11_worst_wsX11_worst_r2 _ (List.mem_of_getElem? (i := 12) rfl)), List.forall_mem_cons.mpr ⟨(k_wsX11_worst_wsX11_worst_r2 _ (List.mem_of_getElem? (i := 13) rfl)), List.forall_mem_cons.mpr ⟨(k_wsX11_worst_wsX11_worst_r2 _ (List.mem_of_getElem? (i := 14) rfl)), List.forall_mem_cons.mpr ⟨(k_wsX11_worst_wsX11_worst_r2 _ (List.mem_of_getElem? (i := 15) rfl)), List.forall_mem_cons.mpr ⟨(k_wsX11_worst_wsX11_worst_r2 _ (List.mem_of_getElem? (i := 16) rfl)), List.forall_mem_cons.mpr ⟨(k_wsX11_worst_wsX11_worst_r2 _ (List.mem_of_getElem? (i := 17) rfl)), List.forall_mem_cons.mpr ⟨(k_wsX11_worst_wsX11_worst_r2 _ (List.mem_of_getElem? (i := 18) rfl)), List.forall_mem_cons.mpr ⟨(k_wsX11_worst_wsX11_worst_r2 _ (List.mem_of_getElem? (i := 19) rfl)), List.forall_mem_cons.mpr ⟨(k_wsX11_worst_wsX11_worst_r2 _ (List.mem_of_getElem? (i := 20) rfl)), List.forall_mem_cons.mpr ⟨(k_wsX11_worst_wsX11_worst_r2 _ (List.mem_of_getElem? (i := 21) rfl)), List.forall_mem_cons.mpr ⟨(k_wsX11_worst_wsX11_worst_r2 _ (List.mem_of_getElem? (i := 22) rfl)), List.forall_mem_cons.mpr ⟨(k_wsX11_worst_wsX11_worst_r2 _ (List.mem_of_getElem? (i := 23) rfl)), List.forall_mem_cons.mpr ⟨(k_wsX11_worst_wsX11_worst_r3 _ (List.mem_of_getElem? (i := 0) rfl)), List.forall_mem_cons.mpr ⟨(k_wsX11_worst_wsX11_worst_r3 _ (List.mem_of_getElem? (i := 1) rfl)), List.forall_mem_cons.mpr ⟨(k_wsX11_worst_wsX11_worst_r3 _ (List.mem_of_getElem? (i := 2) rfl)), List.forall_mem_cons.mpr ⟨(k_wsX11_worst_wsX11_worst_r3 _ (List.mem_of_getElem? (i := 3) rfl)), List.forall_mem_cons.mpr ⟨(k_wsX11_worst_wsX11_worst_r3 _ (List.mem_of_getElem? (i := 4) rfl)), List.forall_mem_cons.mpr ⟨(k_wsX11_worst_wsX11_worst_r3 _ (List.mem_of_getElem? (i := 5) rfl)), List.forall_mem_cons.mpr ⟨(k_wsX11_worst_wsX11_worst_r3 _ (List.mem_of_getElem? (i := 6) rfl)), fun _ h => absurd h List.not_mem_nil⟩⟩⟩⟩⟩⟩⟩⟩⟩⟩⟩⟩⟩⟩⟩⟩⟩⟩⟩⟩⟩⟩⟩⟩
set_option maxRecDepth 20000 in
theorem s_X11_worst_X11_layEvents_wsX11_layEvents_r3 : ∀ w ∈ wsX11_layEvents_r3, w ∈ wsX11_worst := List.forall_mem_cons.mpr ⟨(k_wsX11_worst_wsX11_worst_r3 _ (List.mem_of_getElem? (i := 7) rfl)), List.forall_mem_cons.mpr ⟨(k_wsX11_worst_wsX11_worst_r3 _ (List.mem_of_getElem? (i := 8) rfl)), List.forall_mem_cons.mpr ⟨(k_wsX11_worst_wsX11_worst_r3 _ (List.mem_of_getElem? (i := 9) rfl)), List.forall_mem_cons.mpr ⟨(k_wsX11_worst_wsX11_worst_r3 _ (List.mem_of_getElem? (i := 10) rfl)), List.forall_mem_cons.mpr ⟨(k_wsX11_worst_wsX11_worst_r3 _ (List.mem_of_getElem? (i := 11) rfl)), List.forall_mem_cons.mpr ⟨(k_wsX11_worst_wsX11_worst_r3 _ (List.mem_of_getElem? (i := 12) rfl)), List.forall_mem_cons.mpr ⟨(k_wsX11_worst_wsX11_worst_r3 _ (List.mem_of_getElem? (i := 13) rfl)), List.forall_mem_cons.mpr ⟨(k_wsX11_worst_wsX11_worst_r3 _ (List.mem_of_getElem? (i := 14) rfl)), List.forall_mem_cons.mpr ⟨(k_wsX11_worst_wsX11_worst_r3 _ (List.mem_of_getElem? (i := 15) rfl)), List.forall_mem_cons.mpr ⟨(k_wsX11_worst_wsX11_worst_r3 _ (List.mem_of_getElem? (i := 16) rfl)), List.forall_mem_cons.mpr ⟨(k_wsX11_worst_wsX11_worst_r3 _ (List.mem_of_getElem? (i := 17) rfl)), List.forall_mem_cons.mpr ⟨(k_wsX11_worst_wsX11_worst_r3 _ (List.mem_of_getElem? (i := 18) rfl)), List.forall_mem_cons.mpr ⟨(k_wsX11_worst_wsX11_worst_r3 _ (List.mem_of_getElem? (i := 19) rfl)), List.forall_mem_cons.mpr ⟨(k_wsX11_worst_wsX11_worst_r3 _ (List.mem_of_getElem? (i := 20) rfl)), List.forall_mem_cons.mpr ⟨(k_wsX11_worst_wsX11_worst_r3 _ (List.mem_of_getElem? (i := 21) rfl)), List.forall_mem_cons.mpr ⟨(k_wsX11_worst_wsX11_worst_r1 _ (List.mem_of_getElem? (i := 3) rfl)), List.forall_mem_cons.mpr ⟨(k_wsX11_worst_wsX11_worst_r3 _ (List.mem_of_getElem? (i := 22) rfl)), List.forall_mem_cons.mpr ⟨(k_wsX11_worst_wsX11_worst_r3 _ (List.mem_of_getElem? (i := 23) rfl)), List.forall_mem_cons.mpr ⟨(k_wsX11_worst_wsX11_worst_r1 _ (List.mem_of_getElem? (i := 2) rfl)), List.forall_mem_cons.mpr ⟨(k_wsX11_worst_wsX11_worst_r4 _ (List.mem_of_getElem? (i := 0) rfl)), List.forall_mem_cons.mpr ⟨(k_wsX11_worst_wsX11_worst_r4 _ (List.mem_of_getElem? (i := 1) rfl)), List.forall_mem_cons.mpr ⟨(k_wsX11_worst_wsX11_worst_r4 _ (List.mem_of_getElem? (i := 2) rfl)), List.forall_mem_cons.mpr ⟨(k_wsX11_worst_wsX11_worst_r4 _ (List.mem_of_getElem? (i := 3) rfl)), List.forall_mem_cons.mpr ⟨(k_wsX11_worst_wsX11_worst_r4 _ (List.mem_of_getElem? (i := 4) rfl)), fun _ h => absurd h List.not_mem_nil⟩⟩⟩⟩⟩⟩⟩⟩⟩⟩⟩⟩⟩⟩⟩⟩⟩⟩⟩⟩⟩⟩⟩⟩
set_option maxRecDepth 20000 in
theorem s_X11_worst_X11_layEvents_wsX11_layEvents_r4 : ∀ w ∈ wsX11_layEvents_r4, w ∈ wsX11_worst := List.forall_mem_cons.mpr ⟨(k_wsX11_worst_wsX11_worst_r4 _ (List.mem_of_getElem? (i := 5) rfl)), List.forall_mem_cons.mpr ⟨(k_wsX11_worst_wsX11_worst_r4 _ (List.mem_of_getElem? (i := 6) rfl)), List.forall_mem_cons.mpr ⟨(k_wsX11_worst_wsX11_worst_r4 _ (List.mem_of_getElem? (i := 7) rfl)), List.forall_mem_cons.mpr ⟨(k_wsX11_worst_wsX11_worst_r4 _ (List.mem_of_getElem? (i := 8) rfl)), List.forall_mem_cons.mpr ⟨(k_wsX11_worst_wsX11_worst_r4 _ (List.mem_of_getElem? (i := 9) rfl)), List.forall_mem_cons.mpr ⟨(k_wsX11_worst_wsX11_worst_r4 _ (List.mem_of_getElem? (i := 10) rfl)), List.forall_mem_cons.mpr ⟨(k_wsX11_worst_wsX11_worst_r4 _ (List.mem_of_getElem? (i := 11) rfl)), List.forall_mem_cons.mpr ⟨(k_wsX11_worst_wsX11_worst_r4 _ (List.mem_of_getElem? (i := 12) rfl)), fun _ h => absurd h List.not_mem_nil⟩⟩⟩⟩⟩⟩⟩⟩
theorem ggX11_worst_X11_layEvents : GoodIn wsX11_worst wsX11_layEvents := goodIn_sub (fun w h => (List.mem_cons.mp h).elim (fun e => ft_me e (k_wsX11_worst_wsX11_worst_r1 _ (List.mem_of_getElem? (i := 8) rfl))) (fun h => (List.mem_append.mp h).elim (fun h => (List.mem_append.mp h).elim (fun h => s_X11_worst_X11_layEvents_wsX11_layEvents_r1 w h) (fun h => (List.mem_append.mp h).elim (fun h => s_X11_worst_X11_layEvents_wsX11_layEvents_r2 w h) (fun h => (List.mem_append.mp h).elim (fun h => s_X11_worst_X11_layEvents_wsX11_layEvents_r3 w h) (fun h => s_X11_worst_X11_layEvents_wsX11_layEvents_r4 w h)))) (fun h => k_wsX11_worst_wsX110 w h))) gw_wsX11_layEvents
theorem gX11_worst_X11_layEvents : GoodIn wsX11_worst (wsV RX11 255 RX11 yX11_layEvents wsX11_layEvents) := goodIn_app (goodIn_sub (List.forall_mem_cons.mpr ⟨(k_wsX11_worst_wsX11_worst_r1 _ (List.mem_of_getElem? (i := 4) rfl)), List.forall_mem_cons.mpr ⟨(k_wsX11_worst_wsX11_worst_r1 _ (List.mem_of_getElem? (i := 5) rfl)), List.forall_mem_cons.mpr ⟨(k_wsX11_worst_wsX11_worst_r1 _ (List.mem_of_getElem? (i := 6) rfl)), List.forall_mem_cons.mpr ⟨(k_wsX11_worst_wsX11_worst_r1 _ (List.mem_of_getElem? (i := 7) rfl)), fun _ h => absurd h List.not_mem_nil⟩⟩⟩⟩) (by decide +kernel)) ggX11_worst_X11_layEvents
theorem dX11_worst_0 : decode cX11_worst 0 = .ok (.aload_n 0, 1) := by decide +kernel
theorem dX11_worst_1 : decode cX11_worst 1 = .ok (.invokevirtual 255, 3) := by decide +kernel
theorem dX11_worst_4 : decode cX11_worst 4 = .ok (.ldc 173, 2) := by decide +kernel
theorem dX11_worst_6 : decode cX11_worst 6 = .ok (.istore_n 1, 1) := by decide +kernel
theorem dX11_worst_7 : decode cX11_worst 7 = .ok (.iconst 0, 1) := by decide +kernel
theorem dX11_worst_8 : decode cX11_worst 8 = .ok (.istore_n 2, 1) := by decide +kernel
theorem dX11_worst_9 : decode cX11_worst 9 = .ok (.iload_n 2, 1) := by decide +kernel
theorem dX11_worst_10 : decode cX11_worst 10 = .ok (.aload_n 0, 1) := by decide +kernel
theorem dX11_worst_11 : decode cX11_worst 11 = .ok (.getfield 238, 3) := by decide +kernel
theorem dX11_worst_14 : decode cX11_worst 14 = .ok (.if_icmp .ge 44, 3) := by decide +kernel
theorem dX11_worst_17 : decode cX11_worst 17 = .ok (.aload_n 0, 1) := by decide +kernel
theorem dX11_worst_18 : decode cX11_worst 18 = .ok (.getfield 64, 3) := by decide +kernel
theorem dX11_worst_21 : decode cX11_worst 21 = .ok (.iload_n 2, 1) := by decide +kernel
theorem dX11_worst_22 : decode cX11_worst 22 = .ok (.iaload, 1) := by decide +kernel
theorem dX11_worst_23 : decode cX11_worst 23 = .ok (.iconst 3, 1) := by decide +kernel
theorem dX11_worst_24 : decode cX11_worst 24 = .ok (.if_icmp .ge 26, 3) := by decide +kernel
theorem dX11_worst_27 : decode cX11_worst 27 = .ok (.iload_n 1, 1) := by decide +kernel
theorem dX11_worst_28 : decode cX11_worst 28 = .ok (.ifCond .lt 18, 3) := by decide +kernel
theorem dX11_worst_31 : decode cX11_worst 31 = .ok (.aload_n 0, 1) := by decide +kernel
theorem dX11_worst_32 : decode cX11_worst 32 = .ok (.getfield 58, 3) := by decide +kernel
theorem dX11_worst_35 : decode cX11_worst 35 = .ok (.iload_n 2, 1) := by decide +kernel
theorem dX11_worst_36 : decode cX11_worst 36 = .ok (.iaload, 1) := by decide +kernel
theorem dX11_worst_37 : decode cX11_worst 37 = .ok (.aload_n 0, 1) := by decide +kernel
theorem dX11_worst_38 : decode cX11_worst 38 = .ok (.getfield 58, 3) := by decide +kernel
theorem dX11_worst_41 : decode cX11_worst 41 = .ok (.iload_n 1, 1) := by decide +kernel
theorem dX11_worst_42 : decode cX11_worst 42 = .ok (.iaload, 1) := by decide +kernel
theorem dX11_worst_43 : decode cX11_worst 43 = .ok (.if_icmp .le 7, 3) := by decide +kernel
theorem dX11_worst_46 : decode cX11_worst 46 = .ok (.iload_n 2, 1) := by decide +kernel
theorem dX11_worst_47 : decode cX11_worst 47 = .ok (.goto 4, 3) := by decide +kernel
theorem dX11_worst_50 : decode cX11_worst 50 = .ok (.iload_n 1, 1) := by decide +kernel
theorem dX11_worst_51 : decode cX11_worst 51 = .ok (.istore_n 1, 1) := by decide +kernel
theorem dX11_worst_52 : decode cX11_worst 52 = .ok (.iinc 2 1, 3) := by decide +kernel
theorem dX11_worst_55 : decode cX11_worst 55 = .ok (.goto (-46), 3) := by decide +kernel
theorem dX11_worst_58 : decode cX11_worst 58 = .ok (.iload_n 1, 1) := by decide +kernel
theorem dX11_worst_59 : decode cX11_worst 59 = .ok (.ireturn, 1) := by decide +kernel
theorem ggX11_eventNear_X11_sizeOf : GoodIn wsX11_eventNear wsX11_sizeOf := goodIn_sub (fun w h => (List.mem_cons.mp h).elim (fun e => ft_me e (List.mem_cons_of_mem _ (List.mem_append_left _ (List.mem_of_getElem? (i := 6) rfl)))) (fun h => absurd h List.not_mem_nil)) gw_wsX11_sizeOf
theorem gX11_eventNear_X11_sizeOf : GoodIn wsX11_eventNear (va_wsS RX11 235 yX11_sizeOf wsX11_sizeOf) := goodIn_app (goodIn_sub (List.forall_mem_cons.mpr ⟨(List.mem_cons_of_mem _ (List.mem_append_left _ (List.mem_of_getElem? (i := 3) rfl))), List.forall_mem_cons.mpr ⟨(List.mem_cons_of_mem _ (List.mem_append_left _ (List.mem_of_getElem? (i := 4) rfl))), List.forall_mem_cons.mpr ⟨(List.mem_cons_of_mem _ (List.mem_append_left _ (List.mem_of_getElem? (i := 5) rfl))), fun _ h => absurd h List.not_mem_nil⟩⟩⟩) (by decide +kernel)) ggX11_eventNear_X11_sizeOf
theorem ggX11_eventNear_X11_setting : GoodIn wsX11_eventNear wsX11_setting := goodIn_sub (fun w h => (List.mem_cons.mp h).elim (fun e => ft_me e (List.mem_cons_of_mem _ (List.mem_append_left _ (List.mem_of_getElem? (i := 10) rfl)))) (fun h => (List.mem_append.mp h).elim (fun h => (List.forall_mem_cons.mpr ⟨(List.mem_cons_of_mem _ (List.mem_append_left _ (List.mem_of_getElem? (i := 11) rfl))), fun _ h => absurd h List.not_mem_nil⟩) w h) (fun h => k_wsX11_eventNear_wsX110 w h))) gw_wsX11_setting
theorem gX11_eventNear_X11_setting : GoodIn wsX11_eventNear (wsV RX11 194 RX11 yX11_setting wsX11_setting) := goodIn_app (goodIn_sub (List.forall_mem_cons.mpr ⟨(List.mem_cons_of_mem _ (List.mem_append_left _ (List.mem_of_getElem? (i := 7) rfl))), List.forall_mem_cons.mpr ⟨(List.mem_cons_of_mem _ (List.mem_append_left _ (List.mem_of_getElem? (i := 8) rfl))), List.forall_mem_cons.mpr ⟨(List.mem_cons_of_mem _ (List.mem_append_left _ (List.mem_of_getElem? (i := 9) rfl))), List.forall_mem_cons.mpr ⟨(List.mem_cons_of_mem _ (List.mem_append_left _ (List.mem_of_getElem? (i := 5) rfl))), fun _ h => absurd h List.not_mem_nil⟩⟩⟩⟩) (by decide +kernel)) ggX11_eventNear_X11_setting
theorem dX11_eventNear_0 : decode cX11_eventNear 0 = .ok (.iconst 0, 1) := by decide +kernel
theorem dX11_eventNear_1 : decode cX11_eventNear 1 = .ok (.istore_n 2, 1) := by decide +kernel
theorem dX11_eventNear_2 : decode cX11_eventNear 2 = .ok (.iload_n 2, 1) := by decide +kernel
theorem dX11_eventNear_3 : decode cX11_eventNear 3 = .ok (.aload_n 0, 1) := by decide +kernel
theorem dX11_eventNear_4 : decode cX11_eventNear 4 = .ok (.getfield 238, 3) := by decide +kernel
theorem dX11_eventNear_7 : decode cX11_eventNear 7 = .ok (.if_icmp .ge 41, 3) := by decide +kernel
theorem dX11_eventNear_10 : decode cX11_eventNear 10 = .ok (.aload_n 0, 1) := by decide +kernel
theorem dX11_eventNear_11 : decode cX11_eventNear 11 = .ok (.getfield 64, 3) := by decide +kernel
theorem dX11_eventNear_14 : decode cX11_eventNear 14 = .ok (.iload_n 2, 1) := by decide +kernel
theorem dX11_eventNear_15 : decode cX11_eventNear 15 = .ok (.iaload, 1) := by decide +kernel
theorem dX11_eventNear_16 : decode cX11_eventNear 16 = .ok (.iconst 2, 1) := by decide +kernel
theorem dX11_eventNear_17 : decode cX11_eventNear 17 = .ok (.if_icmp .eq 25, 3) := by decide +kernel
theorem dX11_eventNear_20 : decode cX11_eventNear 20 = .ok (.aload_n 0, 1) := by decide +kernel
theorem dX11_eventNear_21 : decode cX11_eventNear 21 = .ok (.getfield 52, 3) := by decide +kernel
theorem dX11_eventNear_24 : decode cX11_eventNear 24 = .ok (.iload_n 2, 1) := by decide +kernel
theorem dX11_eventNear_25 : decode cX11_eventNear 25 = .ok (.iaload, 1) := by decide +kernel
theorem dX11_eventNear_26 : decode cX11_eventNear 26 = .ok (.iload_n 1, 1) := by decide +kernel
theorem dX11_eventNear_27 : decode cX11_eventNear 27 = .ok (.isub, 1) := by decide +kernel
theorem dX11_eventNear_28 : decode cX11_eventNear 28 = .ok (.invokestatic 235, 3) := by decide +kernel
theorem dX11_eventNear_31 : decode cX11_eventNear 31 = .ok (.aload_n 0, 1) := by decide +kernel
theorem dX11_eventNear_32 : decode cX11_eventNear 32 = .ok (.bipush 9, 2) := by decide +kernel
theorem dX11_eventNear_34 : decode cX11_eventNear 34 = .ok (.invokevirtual 194, 3) := by decide +kernel
theorem dX11_eventNear_37 : decode cX11_eventNear 37 = .ok (.if_icmp .gt 5, 3) := by decide +kernel
theorem dX11_eventNear_40 : decode cX11_eventNear 40 = .ok (.iload_n 2, 1) := by decide +kernel
theorem dX11_eventNear_41 : decode cX11_eventNear 41 = .ok (.ireturn, 1) := by decide +kernel
theorem dX11_eventNear_42 : decode cX11_eventNear 42 = .ok (.iinc 2 1, 3) := by decide +kernel
theorem dX11_eventNear_45 : decode cX11_eventNear 45 = .ok (.goto (-43), 3) := by decide +kernel
theorem dX11_eventNear_48 : decode cX11_eventNear 48 = .ok (.iconst (-1), 1) := by decide +kernel
theorem dX11_eventNear_49 : decode cX11_eventNear 49 = .ok (.ireturn, 1) := by decide +kernel
theorem ggX11_stands_X11_at : GoodIn wsX11_stands wsX11_at := goodIn_sub (fun w h => (List.mem_cons.mp h).elim (fun e => ft_me e (k_wsX11_stands_wsX11_stands_r1 _ (List.mem_of_getElem? (i := 4) rfl))) (fun h => (List.mem_append.mp h).elim (fun h => (List.forall_mem_cons.mpr ⟨(k_wsX11_stands_wsX11_stands_r1 _ (List.mem_of_getElem? (i := 5) rfl)), fun _ h => absurd h List.not_mem_nil⟩) w h) (fun h => k_wsX11_stands_wsX110 w h))) gw_wsX11_at
theorem gX11_stands_X11_at : GoodIn wsX11_stands (wsV RX11 177 RX11 yX11_at wsX11_at) := goodIn_app (goodIn_sub (List.forall_mem_cons.mpr ⟨(k_wsX11_stands_wsX11_stands_r1 _ (List.mem_of_getElem? (i := 0) rfl)), List.forall_mem_cons.mpr ⟨(k_wsX11_stands_wsX11_stands_r1 _ (List.mem_of_getElem? (i := 1) rfl)), List.forall_mem_cons.mpr ⟨(k_wsX11_stands_wsX11_stands_r1 _ (List.mem_of_getElem? (i := 2) rfl)), List.forall_mem_cons.mpr ⟨(k_wsX11_stands_wsX11_stands_r1 _ (List.mem_of_getElem? (i := 3) rfl)), fun _ h => absurd h List.not_mem_nil⟩⟩⟩⟩) (by decide +kernel)) ggX11_stands_X11_at
theorem ggX11_stands_X11_eventNear : GoodIn wsX11_stands wsX11_eventNear := goodIn_sub (fun w h => (List.mem_cons.mp h).elim (fun e => ft_me e (k_wsX11_stands_wsX11_stands_r1 _ (List.mem_of_getElem? (i := 9) rfl))) (fun h => (List.mem_append.mp h).elim (fun h => (List.forall_mem_cons.mpr ⟨(k_wsX11_stands_wsX11_stands_r1 _ (List.mem_of_getElem? (i := 10) rfl)), List.forall_mem_cons.mpr ⟨(k_wsX11_stands_wsX11_stands_r1 _ (List.mem_of_getElem? (i := 11) rfl)), List.forall_mem_cons.mpr ⟨(k_wsX11_stands_wsX11_stands_r1 _ (List.mem_of_getElem? (i := 12) rfl)), List.forall_mem_cons.mpr ⟨(k_wsX11_stands_wsX11_stands_r1 _ (List.mem_of_getElem? (i := 13) rfl)), List.forall_mem_cons.mpr ⟨(k_wsX11_stands_wsX11_stands_r1 _ (List.mem_of_getElem? (i := 14) rfl)), List.forall_mem_cons.mpr ⟨(k_wsX11_stands_wsX11_stands_r1 _ (List.mem_of_getElem? (i := 3) rfl)), List.forall_mem_cons.mpr ⟨(k_wsX11_stands_wsX11_stands_r1 _ (List.mem_of_getElem? (i := 15) rfl)), List.forall_mem_cons.mpr ⟨(k_wsX11_stands_wsX11_stands_r1 _ (List.mem_of_getElem? (i := 16) rfl)), List.forall_mem_cons.mpr ⟨(k_wsX11_stands_wsX11_stands_r1 _ (List.mem_of_getElem? (i := 17) rfl)), List.forall_mem_cons.mpr ⟨(k_wsX11_stands_wsX11_stands_r1 _ (List.mem_of_getElem? (i := 18) rfl)), List.forall_mem_cons.mpr ⟨(k_wsX11_stands_wsX11_stands_r1 _ (List.mem_of_getElem? (i := 19) rfl)), List.forall_mem_cons.mpr ⟨(k_wsX11_stands_wsX11_stands_r1 _ (List.mem_of_getElem? (i := 5) rfl)), fun _ h => absurd h List.not_mem_nil⟩⟩⟩⟩⟩⟩⟩⟩⟩⟩⟩⟩) w h) (fun h => k_wsX11_stands_wsX110 w h))) gw_wsX11_eventNear
theorem gX11_stands_X11_eventNear : GoodIn wsX11_stands (wsV RX11 265 RX11 yX11_eventNear wsX11_eventNear) := goodIn_app (goodIn_sub (List.forall_mem_cons.mpr ⟨(k_wsX11_stands_wsX11_stands_r1 _ (List.mem_of_getElem? (i := 6) rfl)), List.forall_mem_cons.mpr ⟨(k_wsX11_stands_wsX11_stands_r1 _ (List.mem_of_getElem? (i := 7) rfl)), List.forall_mem_cons.mpr ⟨(k_wsX11_stands_wsX11_stands_r1 _ (List.mem_of_getElem? (i := 8) rfl)), List.forall_mem_cons.mpr ⟨(k_wsX11_stands_wsX11_stands_r1 _ (List.mem_of_getElem? (i := 3) rfl)), fun _ h => absurd h List.not_mem_nil⟩⟩⟩⟩) (by decide +kernel)) ggX11_stands_X11_eventNear
theorem ggX11_stands_X11_eventOn : GoodIn wsX11_stands wsX11_eventOn := goodIn_sub (fun w h => (List.mem_cons.mp h).elim (fun e => ft_me e (k_wsX11_stands_wsX11_stands_r1 _ (List.mem_of_getElem? (i := 23) rfl))) (fun h => (List.mem_append.mp h).elim (fun h => (List.forall_mem_cons.mpr ⟨(k_wsX11_stands_wsX11_stands_r1 _ (List.mem_of_getElem? (i := 10) rfl)), List.forall_mem_cons.mpr ⟨(k_wsX11_stands_wsX11_stands_r1 _ (List.mem_of_getElem? (i := 12) rfl)), List.forall_mem_cons.mpr ⟨(k_wsX11_stands_wsX11_stands_r2 _ (List.mem_of_getElem? (i := 0) rfl)), List.forall_mem_cons.mpr ⟨(k_wsX11_stands_wsX11_stands_r2 _ (List.mem_of_getElem? (i := 1) rfl)), List.forall_mem_cons.mpr ⟨(k_wsX11_stands_wsX11_stands_r2 _ (List.mem_of_getElem? (i := 2) rfl)), List.forall_mem_cons.mpr ⟨(k_wsX11_stands_wsX11_stands_r1 _ (List.mem_of_getElem? (i := 3) rfl)), List.forall_mem_cons.mpr ⟨(k_wsX11_stands_wsX11_stands_r2 _ (List.mem_of_getElem? (i := 3) rfl)), fun _ h => absurd h List.not_mem_nil⟩⟩⟩⟩⟩⟩⟩) w h) (fun h => k_wsX11_stands_wsX110 w h))) gw_wsX11_eventOn
theorem gX11_stands_X11_eventOn : GoodIn wsX11_stands (wsV RX11 262 RX11 yX11_eventOn wsX11_eventOn) := goodIn_app (goodIn_sub (List.forall_mem_cons.mpr ⟨(k_wsX11_stands_wsX11_stands_r1 _ (List.mem_of_getElem? (i := 20) rfl)), List.forall_mem_cons.mpr ⟨(k_wsX11_stands_wsX11_stands_r1 _ (List.mem_of_getElem? (i := 21) rfl)), List.forall_mem_cons.mpr ⟨(k_wsX11_stands_wsX11_stands_r1 _ (List.mem_of_getElem? (i := 22) rfl)), List.forall_mem_cons.mpr ⟨(k_wsX11_stands_wsX11_stands_r1 _ (List.mem_of_getElem? (i := 3) rfl)), fun _ h => absurd h List.not_mem_nil⟩⟩⟩⟩) (by decide +kernel)) ggX11_stands_X11_eventOn
theorem dX11_stands_0 : decode cX11_stands 0 = .ok (.aload_n 0, 1) := by decide +kernel
theorem dX11_stands_1 : decode cX11_stands 1 = .ok (.iload_n 1, 1) := by decide +kernel
theorem dX11_stands_2 : decode cX11_stands 2 = .ok (.iconst 0, 1) := by decide +kernel
theorem dX11_stands_3 : decode cX11_stands 3 = .ok (.invokevirtual 177, 3) := by decide +kernel
theorem dX11_stands_6 : decode cX11_stands 6 = .ok (.iconst 2, 1) := by decide +kernel
theorem dX11_stands_7 : decode cX11_stands 7 = .ok (.if_icmp .ne 5, 3) := by decide +kernel
theorem dX11_stands_10 : decode cX11_stands 10 = .ok (.iconst 2, 1) := by decide +kernel
theorem dX11_stands_11 : decode cX11_stands 11 = .ok (.ireturn, 1) := by decide +kernel
theorem dX11_stands_12 : decode cX11_stands 12 = .ok (.aload_n 0, 1) := by decide +kernel
theorem dX11_stands_13 : decode cX11_stands 13 = .ok (.aload_n 0, 1) := by decide +kernel
theorem dX11_stands_14 : decode cX11_stands 14 = .ok (.iload_n 1, 1) := by decide +kernel
theorem dX11_stands_15 : decode cX11_stands 15 = .ok (.iconst 1, 1) := by decide +kernel
theorem dX11_stands_16 : decode cX11_stands 16 = .ok (.invokevirtual 177, 3) := by decide +kernel
theorem dX11_stands_19 : decode cX11_stands 19 = .ok (.invokevirtual 265, 3) := by decide +kernel
theorem dX11_stands_22 : decode cX11_stands 22 = .ok (.ifCond .lt 7, 3) := by decide +kernel
theorem dX11_stands_25 : decode cX11_stands 25 = .ok (.iconst 0, 1) := by decide +kernel
theorem dX11_stands_26 : decode cX11_stands 26 = .ok (.goto 21, 3) := by decide +kernel
theorem dX11_stands_29 : decode cX11_stands 29 = .ok (.aload_n 0, 1) := by decide +kernel
theorem dX11_stands_30 : decode cX11_stands 30 = .ok (.aload_n 0, 1) := by decide +kernel
theorem dX11_stands_31 : decode cX11_stands 31 = .ok (.iload_n 1, 1) := by decide +kernel
theorem dX11_stands_32 : decode cX11_stands 32 = .ok (.iconst 1, 1) := by decide +kernel
theorem dX11_stands_33 : decode cX11_stands 33 = .ok (.invokevirtual 177, 3) := by decide +kernel
theorem dX11_stands_36 : decode cX11_stands 36 = .ok (.invokevirtual 262, 3) := by decide +kernel
theorem dX11_stands_39 : decode cX11_stands 39 = .ok (.ifCond .lt 7, 3) := by decide +kernel
theorem dX11_stands_42 : decode cX11_stands 42 = .ok (.iconst 1, 1) := by decide +kernel
theorem dX11_stands_43 : decode cX11_stands 43 = .ok (.goto 4, 3) := by decide +kernel
theorem dX11_stands_46 : decode cX11_stands 46 = .ok (.iconst 2, 1) := by decide +kernel
theorem dX11_stands_47 : decode cX11_stands 47 = .ok (.ireturn, 1) := by decide +kernel
theorem ggX11_part_X11_isPart : GoodIn wsX11_part wsX11_isPart := goodIn_sub (fun w h => (List.mem_cons.mp h).elim (fun e => ft_me e (k_wsX11_part_wsX11_part_r1 _ (List.mem_of_getElem? (i := 7) rfl))) (fun h => (List.mem_append.mp h).elim (fun h => (List.forall_mem_cons.mpr ⟨(k_wsX11_part_wsX11_part_r1 _ (List.mem_of_getElem? (i := 8) rfl)), List.forall_mem_cons.mpr ⟨(k_wsX11_part_wsX11_part_r1 _ (List.mem_of_getElem? (i := 9) rfl)), List.forall_mem_cons.mpr ⟨(k_wsX11_part_wsX11_part_r1 _ (List.mem_of_getElem? (i := 10) rfl)), List.forall_mem_cons.mpr ⟨(k_wsX11_part_wsX11_part_r1 _ (List.mem_of_getElem? (i := 6) rfl)), List.forall_mem_cons.mpr ⟨(k_wsX11_part_wsX11_part_r1 _ (List.mem_of_getElem? (i := 11) rfl)), fun _ h => absurd h List.not_mem_nil⟩⟩⟩⟩⟩) w h) (fun h => k_wsX11_part_wsX110 w h))) gw_wsX11_isPart
theorem gX11_part_X11_isPart : GoodIn wsX11_part (wsV RX11 183 RX11 yX11_isPart wsX11_isPart) := goodIn_app (goodIn_sub (List.forall_mem_cons.mpr ⟨(k_wsX11_part_wsX11_part_r1 _ (List.mem_of_getElem? (i := 3) rfl)), List.forall_mem_cons.mpr ⟨(k_wsX11_part_wsX11_part_r1 _ (List.mem_of_getElem? (i := 4) rfl)), List.forall_mem_cons.mpr ⟨(k_wsX11_part_wsX11_part_r1 _ (List.mem_of_getElem? (i := 5) rfl)), List.forall_mem_cons.mpr ⟨(k_wsX11_part_wsX11_part_r1 _ (List.mem_of_getElem? (i := 6) rfl)), fun _ h => absurd h List.not_mem_nil⟩⟩⟩⟩) (by decide +kernel)) ggX11_part_X11_isPart
theorem ggX11_part_X11_in : GoodIn wsX11_part wsX11_in := goodIn_sub (fun w h => (List.mem_cons.mp h).elim (fun e => ft_me e (k_wsX11_part_wsX11_part_r1 _ (List.mem_of_getElem? (i := 11) rfl))) (fun h => absurd h List.not_mem_nil)) gw_wsX11_in
theorem gX11_part_X11_in : GoodIn wsX11_part (va_wsS RX11 91 yX11_in wsX11_in) := goodIn_app (goodIn_sub (List.forall_mem_cons.mpr ⟨(k_wsX11_part_wsX11_part_r1 _ (List.mem_of_getElem? (i := 9) rfl)), List.forall_mem_cons.mpr ⟨(k_wsX11_part_wsX11_part_r1 _ (List.mem_of_getElem? (i := 10) rfl)), List.forall_mem_cons.mpr ⟨(k_wsX11_part_wsX11_part_r1 _ (List.mem_of_getElem? (i := 6) rfl)), fun _ h => absurd h List.not_mem_nil⟩⟩⟩) (by decide +kernel)) ggX11_part_X11_in
theorem ggX11_part_X11_at : GoodIn wsX11_part wsX11_at := goodIn_sub (fun w h => (List.mem_cons.mp h).elim (fun e => ft_me e (k_wsX11_part_wsX11_part_r1 _ (List.mem_of_getElem? (i := 15) rfl))) (fun h => (List.mem_append.mp h).elim (fun h => (List.forall_mem_cons.mpr ⟨(k_wsX11_part_wsX11_part_r1 _ (List.mem_of_getElem? (i := 8) rfl)), fun _ h => absurd h List.not_mem_nil⟩) w h) (fun h => k_wsX11_part_wsX110 w h))) gw_wsX11_at
theorem gX11_part_X11_at : GoodIn wsX11_part (wsV RX11 177 RX11 yX11_at wsX11_at) := goodIn_app (goodIn_sub (List.forall_mem_cons.mpr ⟨(k_wsX11_part_wsX11_part_r1 _ (List.mem_of_getElem? (i := 12) rfl)), List.forall_mem_cons.mpr ⟨(k_wsX11_part_wsX11_part_r1 _ (List.mem_of_getElem? (i := 13) rfl)), List.forall_mem_cons.mpr ⟨(k_wsX11_part_wsX11_part_r1 _ (List.mem_of_getElem? (i := 14) rfl)), List.forall_mem_cons.mpr ⟨(k_wsX11_part_wsX11_part_r1 _ (List.mem_of_getElem? (i := 6) rfl)), fun _ h => absurd h List.not_mem_nil⟩⟩⟩⟩) (by decide +kernel)) ggX11_part_X11_at
set_option maxRecDepth 20000 in
theorem s_X11_part_X11_layEvents_wsX11_layEvents_r1 : ∀ w ∈ wsX11_layEvents_r1, w ∈ wsX11_part := List.forall_mem_cons.mpr ⟨(k_wsX11_part_wsX11_part_r1 _ (List.mem_of_getElem? (i := 20) rfl)), List.forall_mem_cons.mpr ⟨(k_wsX11_part_wsX11_part_r1 _ (List.mem_of_getElem? (i := 21) rfl)), List.forall_mem_cons.mpr ⟨(k_wsX11_part_wsX11_part_r1 _ (List.mem_of_getElem? (i := 22) rfl)), List.forall_mem_cons.mpr ⟨(k_wsX11_part_wsX11_part_r1 _ (List.mem_of_getElem? (i := 23) rfl)), List.forall_mem_cons.mpr ⟨(k_wsX11_part_wsX11_part_r2 _ (List.mem_of_getElem? (i := 0) rfl)), List.forall_mem_cons.mpr ⟨(k_wsX11_part_wsX11_part_r2 _ (List.mem_of_getElem? (i := 1) rfl)), List.forall_mem_cons.mpr ⟨(k_wsX11_part_wsX11_part_r1 _ (List.mem_of_getElem? (i := 6) rfl)), List.forall_mem_cons.mpr ⟨(k_wsX11_part_wsX11_part_r2 _ (List.mem_of_getElem? (i := 2) rfl)), List.forall_mem_cons.mpr ⟨(k_wsX11_part_wsX11_part_r2 _ (List.mem_of_getElem? (i := 3) rfl)), List.forall_mem_cons.mpr ⟨(k_wsX11_part_wsX11_part_r2 _ (List.mem_of_getElem? (i := 4) rfl)), List.forall_mem_cons.mpr ⟨(k_wsX11_part_wsX11_part_r1 _ (List.mem_of_getElem? (i := 8) rfl)), List.forall_mem_cons.mpr ⟨(k_wsX11_part_wsX11_part_r2 _ (List.mem_of_getElem? (i := 5) rfl)), List.forall_mem_cons.mpr ⟨(k_wsX11_part_wsX11_part_r2 _ (List.mem_of_getElem? (i := 6) rfl)), List.forall_mem_cons.mpr ⟨(k_wsX11_part_wsX11_part_r2 _ (List.mem_of_getElem? (i := 7) rfl)), List.forall_mem_cons.mpr ⟨(k_wsX11_part_wsX11_part_r2 _ (List.mem_of_getElem? (i := 8) rfl)), List.forall_mem_cons.mpr ⟨(k_wsX11_part_wsX11_part_r2 _ (List.mem_of_getElem? (i := 9) rfl)), List.forall_mem_cons.mpr ⟨(k_wsX11_part_wsX11_part_r2 _ (List.mem_of_getElem? (i := 10) rfl)), List.forall_mem_cons.mpr ⟨(k_wsX11_part_wsX11_part_r2 _ (List.mem_of_getElem? (i := 11) rfl)), List.forall_mem_cons.mpr ⟨(k_wsX11_part_wsX11_part_r2 _ (List.mem_of_getElem? (i := 12) rfl)), List.forall_mem_cons.mpr ⟨(k_wsX11_part_wsX11_part_r2 _ (List.mem_of_getElem? (i := 13) rfl)), List.forall_mem_cons.mpr ⟨(k_wsX11_part_wsX11_part_r2 _ (List.mem_of_getElem? (i := 14) rfl)), List.forall_mem_cons.mpr ⟨(k_wsX11_part_wsX11_part_r2 _ (List.mem_of_getElem? (i := 15) rfl)), List.forall_mem_cons.mpr ⟨(k_wsX11_part_wsX11_part_r1 _ (List.mem_of_getElem? (i := 12) rfl)), List.forall_mem_cons.mpr ⟨(k_wsX11_part_wsX11_part_r1 _ (List.mem_of_getElem? (i := 13) rfl)), fun _ h => absurd h List.not_mem_nil⟩⟩⟩⟩⟩⟩⟩⟩⟩⟩⟩⟩⟩⟩⟩⟩⟩⟩⟩⟩⟩⟩⟩⟩
set_option maxRecDepth 20000 in
theorem s_X11_part_X11_layEvents_wsX11_layEvents_r2 : ∀ w ∈ wsX11_layEvents_r2, w ∈ wsX11_part := List.forall_mem_cons.mpr ⟨(k_wsX11_part_wsX11_part_r1 _ (List.mem_of_getElem? (i := 14) rfl)), List.forall_mem_cons.mpr ⟨(k_wsX11_part_wsX11_part_r1 _ (List.mem_of_getElem? (i := 15) rfl)), List.forall_mem_cons.mpr ⟨(k_wsX11_part_wsX11_part_r2 _ (List.mem_of_getElem? (i := 16) rfl)), List.forall_mem_cons.mpr ⟨(k_wsX11_part_wsX11_part_r2 _ (List.mem_of_getElem? (i := 17) rfl)), List.forall_mem_cons.mpr ⟨(k_wsX11_part_wsX11_part_r2 _ (List.mem_of_getElem? (i := 18) rfl)), List.forall_mem_cons.mpr ⟨(k_wsX11_part_wsX11_part_r2 _ (List.mem_of_getElem? (i := 19) rfl)), List.forall_mem_cons.mpr ⟨(k_wsX11_part_wsX11_part_r2 _ (List.mem_of_getElem? (i := 20) rfl)), List.forall_mem_cons.mpr ⟨(k_wsX11_part_wsX11_part_r2 _ (List.mem_of_getElem? (i := 21) rfl)), List.forall_mem_cons.mpr ⟨(k_wsX11_part_wsX11_part_r2 _ (List.mem_of_getElem? (i := 22) rfl)), List.forall_mem_cons.mpr ⟨(k_wsX11_part_wsX11_part_r2 _ (List.mem_of_getElem? (i := 23) rfl)), List.forall_mem_cons.mpr ⟨(k_wsX11_part_wsX11_part_r3 _ (List.mem_of_getElem? (i := 0) rfl)), List.forall_mem_cons.mpr ⟨(k_wsX11_part_wsX11_part_r3 _ (List.mem_of_getElem? (i := 1) rfl)), List.forall_mem_cons.mpr ⟨(k_wsX11_part_wsX11_part_r3 _ (List.mem_of_getElem? (i := 2) rfl)), List.forall_mem_cons.mpr ⟨(k_wsX11_part_wsX11_part_r3 _ (List.mem_of_getElem? (i := 3) rfl)), List.forall_mem_cons.mpr ⟨(k_wsX11_part_wsX11_part_r3 _ (List.mem_of_getElem? (i := 4) rfl)), List.forall_mem_cons.mpr ⟨(k_wsX11_part_wsX11_part_r3 _ (List.mem_of_getElem? (i := 5) rfl)), List.forall_mem_cons.mpr ⟨(k_wsX11_part_wsX11_part_r3 _ (List.mem_of_getElem? (i := 6) rfl)), List.forall_mem_cons.mpr ⟨(k_wsX11_part_wsX11_part_r3 _ (List.mem_of_getElem? (i := 7) rfl)), List.forall_mem_cons.mpr ⟨(k_wsX11_part_wsX11_part_r3 _ (List.mem_of_getElem? (i := 8) rfl)), List.forall_mem_cons.mpr ⟨(k_wsX11_part_wsX11_part_r3 _ (List.mem_of_getElem? (i := 9) rfl)), List.forall_mem_cons.mpr ⟨(k_wsX11_part_wsX11_part_r3 _ (List.mem_of_getElem? (i := 10) rfl)), List.forall_mem_cons.mpr ⟨(k_wsX11_part_wsX11_part_r3 _ (List.mem_of_getElem? (i := 11) rfl)), List.forall_mem_cons.mpr ⟨(k_wsX11_part_wsX11_part_r3 _ (List.mem_of_getElem? (i := 12) rfl)), List.forall_mem_cons.mpr ⟨(k_wsX11_part_wsX11_part_r3 _ (List.mem_of_getElem? (i := 13) rfl)), fun _ h => absurd h List.not_mem_nil⟩⟩⟩⟩⟩⟩⟩⟩⟩⟩⟩⟩⟩⟩⟩⟩⟩⟩⟩⟩⟩⟩⟩⟩
set_option maxRecDepth 20000 in
theorem s_X11_part_X11_layEvents_wsX11_layEvents_r3 : ∀ w ∈ wsX11_layEvents_r3, w ∈ wsX11_part := List.forall_mem_cons.mpr ⟨(k_wsX11_part_wsX11_part_r3 _ (List.mem_of_getElem? (i := 14) rfl)), List.forall_mem_cons.mpr ⟨(k_wsX11_part_wsX11_part_r3 _ (List.mem_of_getElem? (i := 15) rfl)), List.forall_mem_cons.mpr ⟨(k_wsX11_part_wsX11_part_r3 _ (List.mem_of_getElem? (i := 16) rfl)), List.forall_mem_cons.mpr ⟨(k_wsX11_part_wsX11_part_r3 _ (List.mem_of_getElem? (i := 17) rfl)), List.forall_mem_cons.mpr ⟨(k_wsX11_part_wsX11_part_r3 _ (List.mem_of_getElem? (i := 18) rfl)), List.forall_mem_cons.mpr ⟨(k_wsX11_part_wsX11_part_r3 _ (List.mem_of_getElem? (i := 19) rfl)), List.forall_mem_cons.mpr ⟨(k_wsX11_part_wsX11_part_r3 _ (List.mem_of_getElem? (i := 20) rfl)), List.forall_mem_cons.mpr ⟨(k_wsX11_part_wsX11_part_r3 _ (List.mem_of_getElem? (i := 21) rfl)), List.forall_mem_cons.mpr ⟨(k_wsX11_part_wsX11_part_r3 _ (List.mem_of_getElem? (i := 22) rfl)), List.forall_mem_cons.mpr ⟨(k_wsX11_part_wsX11_part_r3 _ (List.mem_of_getElem? (i := 23) rfl)), List.forall_mem_cons.mpr ⟨(k_wsX11_part_wsX11_part_r4 _ (List.mem_of_getElem? (i := 0) rfl)), List.forall_mem_cons.mpr ⟨(k_wsX11_part_wsX11_part_r4 _ (List.mem_of_getElem? (i := 1) rfl)), List.forall_mem_cons.mpr ⟨(k_wsX11_part_wsX11_part_r4 _ (List.mem_of_getElem? (i := 2) rfl)), List.forall_mem_cons.mpr ⟨(k_wsX11_part_wsX11_part_r4 _ (List.mem_of_getElem? (i := 3) rfl)), List.forall_mem_cons.mpr ⟨(k_wsX11_part_wsX11_part_r4 _ (List.mem_of_getElem? (i := 4) rfl)), List.forall_mem_cons.mpr ⟨(k_wsX11_part_wsX11_part_r4 _ (List.mem_of_getElem? (i := 5) rfl)), List.forall_mem_cons.mpr ⟨(k_wsX11_part_wsX11_part_r4 _ (List.mem_of_getElem? (i := 6) rfl)), List.forall_mem_cons.mpr ⟨(k_wsX11_part_wsX11_part_r4 _ (List.mem_of_getElem? (i := 7) rfl)), List.forall_mem_cons.mpr ⟨(k_wsX11_part_wsX11_part_r4 _ (List.mem_of_getElem? (i := 8) rfl)), List.forall_mem_cons.mpr ⟨(k_wsX11_part_wsX11_part_r4 _ (List.mem_of_getElem? (i := 9) rfl)), List.forall_mem_cons.mpr ⟨(k_wsX11_part_wsX11_part_r4 _ (List.mem_of_getElem? (i := 10) rfl)), List.forall_mem_cons.mpr ⟨(k_wsX11_part_wsX11_part_r4 _ (List.mem_of_getElem? (i := 11) rfl)), List.forall_mem_cons.mpr ⟨(k_wsX11_part_wsX11_part_r4 _ (List.mem_of_getElem? (i := 12) rfl)), List.forall_mem_cons.mpr ⟨(k_wsX11_part_wsX11_part_r4 _ (List.mem_of_getElem? (i := 13) rfl)), fun _ h => absurd h List.not_mem_nil⟩⟩⟩⟩⟩⟩⟩⟩⟩⟩⟩⟩⟩⟩⟩⟩⟩⟩⟩⟩⟩⟩⟩⟩
set_option maxRecDepth 20000 in
theorem s_X11_part_X11_layEvents_wsX11_layEvents_r4 : ∀ w ∈ wsX11_layEvents_r4, w ∈ wsX11_part := List.forall_mem_cons.mpr ⟨(k_wsX11_part_wsX11_part_r4 _ (List.mem_of_getElem? (i := 14) rfl)), List.forall_mem_cons.mpr ⟨(k_wsX11_part_wsX11_part_r4 _ (List.mem_of_getElem? (i := 15) rfl)), List.forall_mem_cons.mpr ⟨(k_wsX11_part_wsX11_part_r4 _ (List.mem_of_getElem? (i := 16) rfl)), List.forall_mem_cons.mpr ⟨(k_wsX11_part_wsX11_part_r4 _ (List.mem_of_getElem? (i := 17) rfl)), List.forall_mem_cons.mpr ⟨(k_wsX11_part_wsX11_part_r4 _ (List.mem_of_getElem? (i := 18) rfl)), List.forall_mem_cons.mpr ⟨(k_wsX11_part_wsX11_part_r4 _ (List.mem_of_getElem? (i := 19) rfl)), List.forall_mem_cons.mpr ⟨(k_wsX11_part_wsX11_part_r4 _ (List.mem_of_getElem? (i := 20) rfl)), List.forall_mem_cons.mpr ⟨(k_wsX11_part_wsX11_part_r4 _ (List.mem_of_getElem? (i := 21) rfl)), fun _ h => absurd h List.not_mem_nil⟩⟩⟩⟩⟩⟩⟩⟩
theorem ggX11_part_X11_layEvents : GoodIn wsX11_part wsX11_layEvents := goodIn_sub (fun w h => (List.mem_cons.mp h).elim (fun e => ft_me e (k_wsX11_part_wsX11_part_r1 _ (List.mem_of_getElem? (i := 19) rfl))) (fun h => (List.mem_append.mp h).elim (fun h => (List.mem_append.mp h).elim (fun h => s_X11_part_X11_layEvents_wsX11_layEvents_r1 w h) (fun h => (List.mem_append.mp h).elim (fun h => s_X11_part_X11_layEvents_wsX11_layEvents_r2 w h) (fun h => (List.mem_append.mp h).elim (fun h => s_X11_part_X11_layEvents_wsX11_layEvents_r3 w h) (fun h => s_X11_part_X11_layEvents_wsX11_layEvents_r4 w h)))) (fun h => k_wsX11_part_wsX110 w h))) gw_wsX11_layEvents
theorem gX11_part_X11_layEvents : GoodIn wsX11_part (wsV RX11 255 RX11 yX11_layEvents wsX11_layEvents) := goodIn_app (goodIn_sub (List.forall_mem_cons.mpr ⟨(k_wsX11_part_wsX11_part_r1 _ (List.mem_of_getElem? (i := 16) rfl)), List.forall_mem_cons.mpr ⟨(k_wsX11_part_wsX11_part_r1 _ (List.mem_of_getElem? (i := 17) rfl)), List.forall_mem_cons.mpr ⟨(k_wsX11_part_wsX11_part_r1 _ (List.mem_of_getElem? (i := 18) rfl)), List.forall_mem_cons.mpr ⟨(k_wsX11_part_wsX11_part_r1 _ (List.mem_of_getElem? (i := 6) rfl)), fun _ h => absurd h List.not_mem_nil⟩⟩⟩⟩) (by decide +kernel)) ggX11_part_X11_layEvents
set_option maxRecDepth 20000 in
theorem s_X11_part_X11_stands_wsX11_stands_r1 : ∀ w ∈ wsX11_stands_r1, w ∈ wsX11_part := List.forall_mem_cons.mpr ⟨(k_wsX11_part_wsX11_part_r1 _ (List.mem_of_getElem? (i := 12) rfl)), List.forall_mem_cons.mpr ⟨(k_wsX11_part_wsX11_part_r1 _ (List.mem_of_getElem? (i := 13) rfl)), List.forall_mem_cons.mpr ⟨(k_wsX11_part_wsX11_part_r1 _ (List.mem_of_getElem? (i := 14) rfl)), List.forall_mem_cons.mpr ⟨(k_wsX11_part_wsX11_part_r1 _ (List.mem_of_getElem? (i := 6) rfl)), List.forall_mem_cons.mpr ⟨(k_wsX11_part_wsX11_part_r1 _ (List.mem_of_getElem? (i := 15) rfl)), List.forall_mem_cons.mpr ⟨(k_wsX11_part_wsX11_part_r1 _ (List.mem_of_getElem? (i := 8) rfl)), List.forall_mem_cons.mpr ⟨(k_wsX11_part_wsX11_part_r5 _ (List.mem_of_getElem? (i := 2) rfl)), List.forall_mem_cons.mpr ⟨(k_wsX11_part_wsX11_part_r5 _ (List.mem_of_getElem? (i := 3) rfl)), List.forall_mem_cons.mpr ⟨(k_wsX11_part_wsX11_part_r5 _ (List.mem_of_getElem? (i := 4) rfl)), List.forall_mem_cons.mpr ⟨(k_wsX11_part_wsX11_part_r5 _ (List.mem_of_getElem? (i := 5) rfl)), List.forall_mem_cons.mpr ⟨(k_wsX11_part_wsX11_part_r1 _ (List.mem_of_getElem? (i := 20) rfl)), List.forall_mem_cons.mpr ⟨(k_wsX11_part_wsX11_part_r4 _ (List.mem_of_getElem? (i := 8) rfl)), List.forall_mem_cons.mpr ⟨(k_wsX11_part_wsX11_part_r4 _ (List.mem_of_getElem? (i := 4) rfl)), List.forall_mem_cons.mpr ⟨(k_wsX11_part_wsX11_part_r4 _ (List.mem_of_getElem? (i := 13) rfl)), List.forall_mem_cons.mpr ⟨(k_wsX11_part_wsX11_part_r4 _ (List.mem_of_getElem? (i := 14) rfl)), List.forall_mem_cons.mpr ⟨(k_wsX11_part_wsX11_part_r4 _ (List.mem_of_getElem? (i := 15) rfl)), List.forall_mem_cons.mpr ⟨(k_wsX11_part_wsX11_part_r2 _ (List.mem_of_getElem? (i := 16) rfl)), List.forall_mem_cons.mpr ⟨(k_wsX11_part_wsX11_part_r2 _ (List.mem_of_getElem? (i := 17) rfl)), List.forall_mem_cons.mpr ⟨(k_wsX11_part_wsX11_part_r2 _ (List.mem_of_getElem? (i := 18) rfl)), List.forall_mem_cons.mpr ⟨(k_wsX11_part_wsX11_part_r2 _ (List.mem_of_getElem? (i := 19) rfl)), List.forall_mem_cons.mpr ⟨(k_wsX11_part_wsX11_part_r5 _ (List.mem_of_getElem? (i := 6) rfl)), List.forall_mem_cons.mpr ⟨(k_wsX11_part_wsX11_part_r5 _ (List.mem_of_getElem? (i := 7) rfl)), List.forall_mem_cons.mpr ⟨(k_wsX11_part_wsX11_part_r5 _ (List.mem_of_getElem? (i := 8) rfl)), List.forall_mem_cons.mpr ⟨(k_wsX11_part_wsX11_part_r5 _ (List.mem_of_getElem? (i := 9) rfl)), fun _ h => absurd h List.not_mem_nil⟩⟩⟩⟩⟩⟩⟩⟩⟩⟩⟩⟩⟩⟩⟩⟩⟩⟩⟩⟩⟩⟩⟩⟩
set_option maxRecDepth 20000 in
theorem s_X11_part_X11_stands_wsX11_stands_r2 : ∀ w ∈ wsX11_stands_r2, w ∈ wsX11_part := List.forall_mem_cons.mpr ⟨(k_wsX11_part_wsX11_part_r1 _ (List.mem_of_getElem? (i := 22) rfl)), List.forall_mem_cons.mpr ⟨(k_wsX11_part_wsX11_part_r1 _ (List.mem_of_getElem? (i := 9) rfl)), List.forall_mem_cons.mpr ⟨(k_wsX11_part_wsX11_part_r1 _ (List.mem_of_getElem? (i := 10) rfl)), List.forall_mem_cons.mpr ⟨(k_wsX11_part_wsX11_part_r1 _ (List.mem_of_getElem? (i := 11) rfl)), fun _ h => absurd h List.not_mem_nil⟩⟩⟩⟩
theorem ggX11_part_X11_stands : GoodIn wsX11_part wsX11_stands := goodIn_sub (fun w h => (List.mem_cons.mp h).elim (fun e => ft_me e (k_wsX11_part_wsX11_part_r5 _ (List.mem_of_getElem? (i := 1) rfl))) (fun h => (List.mem_append.mp h).elim (fun h => (List.mem_append.mp h).elim (fun h => s_X11_part_X11_stands_wsX11_stands_r1 w h) (fun h => s_X11_part_X11_stands_wsX11_stands_r2 w h)) (fun h => k_wsX11_part_wsX110 w h))) gw_wsX11_stands
theorem gX11_part_X11_stands : GoodIn wsX11_part (wsV RX11 268 RX11 yX11_stands wsX11_stands) := goodIn_app (goodIn_sub (List.forall_mem_cons.mpr ⟨(k_wsX11_part_wsX11_part_r4 _ (List.mem_of_getElem? (i := 22) rfl)), List.forall_mem_cons.mpr ⟨(k_wsX11_part_wsX11_part_r4 _ (List.mem_of_getElem? (i := 23) rfl)), List.forall_mem_cons.mpr ⟨(k_wsX11_part_wsX11_part_r5 _ (List.mem_of_getElem? (i := 0) rfl)), List.forall_mem_cons.mpr ⟨(k_wsX11_part_wsX11_part_r1 _ (List.mem_of_getElem? (i := 6) rfl)), fun _ h => absurd h List.not_mem_nil⟩⟩⟩⟩) (by decide +kernel)) ggX11_part_X11_stands
theorem ggX11_part_X11_eventNear : GoodIn wsX11_part wsX11_eventNear := goodIn_sub (fun w h => (List.mem_cons.mp h).elim (fun e => ft_me e (k_wsX11_part_wsX11_part_r5 _ (List.mem_of_getElem? (i := 5) rfl))) (fun h => (List.mem_append.mp h).elim (fun h => (List.forall_mem_cons.mpr ⟨(k_wsX11_part_wsX11_part_r1 _ (List.mem_of_getElem? (i := 20) rfl)), List.forall_mem_cons.mpr ⟨(k_wsX11_part_wsX11_part_r4 _ (List.mem_of_getElem? (i := 8) rfl)), List.forall_mem_cons.mpr ⟨(k_wsX11_part_wsX11_part_r4 _ (List.mem_of_getElem? (i := 4) rfl)), List.forall_mem_cons.mpr ⟨(k_wsX11_part_wsX11_part_r4 _ (List.mem_of_getElem? (i := 13) rfl)), List.forall_mem_cons.mpr ⟨(k_wsX11_part_wsX11_part_r4 _ (List.mem_of_getElem? (i := 14) rfl)), List.forall_mem_cons.mpr ⟨(k_wsX11_part_wsX11_part_r1 _ (List.mem_of_getElem? (i := 6) rfl)), List.forall_mem_cons.mpr ⟨(k_wsX11_part_wsX11_part_r4 _ (List.mem_of_getElem? (i := 15) rfl)), List.forall_mem_cons.mpr ⟨(k_wsX11_part_wsX11_part_r2 _ (List.mem_of_getElem? (i := 16) rfl)), List.forall_mem_cons.mpr ⟨(k_wsX11_part_wsX11_part_r2 _ (List.mem_of_getElem? (i := 17) rfl)), List.forall_mem_cons.mpr ⟨(k_wsX11_part_wsX11_part_r2 _ (List.mem_of_getElem? (i := 18) rfl)), List.forall_mem_cons.mpr ⟨(k_wsX11_part_wsX11_part_r2 _ (List.mem_of_getElem? (i := 19) rfl)), List.forall_mem_cons.mpr ⟨(k_wsX11_part_wsX11_part_r1 _ (List.mem_of_getElem? (i := 8) rfl)), fun _ h => absurd h List.not_mem_nil⟩⟩⟩⟩⟩⟩⟩⟩⟩⟩⟩⟩) w h) (fun h => k_wsX11_part_wsX110 w h))) gw_wsX11_eventNear
theorem gX11_part_X11_eventNear : GoodIn wsX11_part (wsV RX11 265 RX11 yX11_eventNear wsX11_eventNear) := goodIn_app (goodIn_sub (List.forall_mem_cons.mpr ⟨(k_wsX11_part_wsX11_part_r5 _ (List.mem_of_getElem? (i := 2) rfl)), List.forall_mem_cons.mpr ⟨(k_wsX11_part_wsX11_part_r5 _ (List.mem_of_getElem? (i := 3) rfl)), List.forall_mem_cons.mpr ⟨(k_wsX11_part_wsX11_part_r5 _ (List.mem_of_getElem? (i := 4) rfl)), List.forall_mem_cons.mpr ⟨(k_wsX11_part_wsX11_part_r1 _ (List.mem_of_getElem? (i := 6) rfl)), fun _ h => absurd h List.not_mem_nil⟩⟩⟩⟩) (by decide +kernel)) ggX11_part_X11_eventNear
theorem ggX11_part_X11_eventOn : GoodIn wsX11_part wsX11_eventOn := goodIn_sub (fun w h => (List.mem_cons.mp h).elim (fun e => ft_me e (k_wsX11_part_wsX11_part_r5 _ (List.mem_of_getElem? (i := 9) rfl))) (fun h => (List.mem_append.mp h).elim (fun h => (List.forall_mem_cons.mpr ⟨(k_wsX11_part_wsX11_part_r1 _ (List.mem_of_getElem? (i := 20) rfl)), List.forall_mem_cons.mpr ⟨(k_wsX11_part_wsX11_part_r4 _ (List.mem_of_getElem? (i := 4) rfl)), List.forall_mem_cons.mpr ⟨(k_wsX11_part_wsX11_part_r1 _ (List.mem_of_getElem? (i := 22) rfl)), List.forall_mem_cons.mpr ⟨(k_wsX11_part_wsX11_part_r1 _ (List.mem_of_getElem? (i := 9) rfl)), List.forall_mem_cons.mpr ⟨(k_wsX11_part_wsX11_part_r1 _ (List.mem_of_getElem? (i := 10) rfl)), List.forall_mem_cons.mpr ⟨(k_wsX11_part_wsX11_part_r1 _ (List.mem_of_getElem? (i := 6) rfl)), List.forall_mem_cons.mpr ⟨(k_wsX11_part_wsX11_part_r1 _ (List.mem_of_getElem? (i := 11) rfl)), fun _ h => absurd h List.not_mem_nil⟩⟩⟩⟩⟩⟩⟩) w h) (fun h => k_wsX11_part_wsX110 w h))) gw_wsX11_eventOn
theorem gX11_part_X11_eventOn : GoodIn wsX11_part (wsV RX11 262 RX11 yX11_eventOn wsX11_eventOn) := goodIn_app (goodIn_sub (List.forall_mem_cons.mpr ⟨(k_wsX11_part_wsX11_part_r5 _ (List.mem_of_getElem? (i := 6) rfl)), List.forall_mem_cons.mpr ⟨(k_wsX11_part_wsX11_part_r5 _ (List.mem_of_getElem? (i := 7) rfl)), List.forall_mem_cons.mpr ⟨(k_wsX11_part_wsX11_part_r5 _ (List.mem_of_getElem? (i := 8) rfl)), List.forall_mem_cons.mpr ⟨(k_wsX11_part_wsX11_part_r1 _ (List.mem_of_getElem? (i := 6) rfl)), fun _ h => absurd h List.not_mem_nil⟩⟩⟩⟩) (by decide +kernel)) ggX11_part_X11_eventOn
theorem dX11_part_0 : decode cX11_part 0 = .ok (.aload_n 0, 1) := by decide +kernel
theorem dX11_part_1 : decode cX11_part 1 = .ok (.iload_n 1, 1) := by decide +kernel
theorem dX11_part_2 : decode cX11_part 2 = .ok (.invokevirtual 183, 3) := by decide +kernel
theorem dX11_part_5 : decode cX11_part 5 = .ok (.ifCond .eq 15, 3) := by decide +kernel
theorem dX11_part_8 : decode cX11_part 8 = .ok (.iload_n 2, 1) := by decide +kernel
theorem dX11_part_9 : decode cX11_part 9 = .ok (.i2l, 1) := by decide +kernel
theorem dX11_part_10 : decode cX11_part 10 = .ok (.lconst 0, 1) := by decide +kernel
theorem dX11_part_11 : decode cX11_part 11 = .ok (.ldc2_w 260, 3) := by decide +kernel
theorem dX11_part_14 : decode cX11_part 14 = .ok (.invokestatic 91, 3) := by decide +kernel
theorem dX11_part_17 : decode cX11_part 17 = .ok (.ifCond .ne 6, 3) := by decide +kernel
theorem dX11_part_20 : decode cX11_part 20 = .ok (.ldc 95, 2) := by decide +kernel
theorem dX11_part_22 : decode cX11_part 22 = .ok (.ireturn, 1) := by decide +kernel
theorem dX11_part_23 : decode cX11_part 23 = .ok (.iload_n 2, 1) := by decide +kernel
theorem dX11_part_24 : decode cX11_part 24 = .ok (.iconst 4, 1) := by decide +kernel
theorem dX11_part_25 : decode cX11_part 25 = .ok (.if_icmp .ge 10, 3) := by decide +kernel
theorem dX11_part_28 : decode cX11_part 28 = .ok (.aload_n 0, 1) := by decide +kernel
theorem dX11_part_29 : decode cX11_part 29 = .ok (.iload_n 1, 1) := by decide +kernel
theorem dX11_part_30 : decode cX11_part 30 = .ok (.iload_n 2, 1) := by decide +kernel
theorem dX11_part_31 : decode cX11_part 31 = .ok (.invokevirtual 177, 3) := by decide +kernel
theorem dX11_part_34 : decode cX11_part 34 = .ok (.ireturn, 1) := by decide +kernel
theorem dX11_part_35 : decode cX11_part 35 = .ok (.aload_n 0, 1) := by decide +kernel
theorem dX11_part_36 : decode cX11_part 36 = .ok (.invokevirtual 255, 3) := by decide +kernel
theorem dX11_part_39 : decode cX11_part 39 = .ok (.aload_n 0, 1) := by decide +kernel
theorem dX11_part_40 : decode cX11_part 40 = .ok (.iload_n 1, 1) := by decide +kernel
theorem dX11_part_41 : decode cX11_part 41 = .ok (.invokevirtual 268, 3) := by decide +kernel
theorem dX11_part_44 : decode cX11_part 44 = .ok (.istore_n 3, 1) := by decide +kernel
theorem dX11_part_45 : decode cX11_part 45 = .ok (.iload_n 2, 1) := by decide +kernel
theorem dX11_part_46 : decode cX11_part 46 = .ok (.iconst 4, 1) := by decide +kernel
theorem dX11_part_47 : decode cX11_part 47 = .ok (.if_icmp .ne 7, 3) := by decide +kernel
theorem dX11_part_50 : decode cX11_part 50 = .ok (.iload_n 3, 1) := by decide +kernel
theorem dX11_part_51 : decode cX11_part 51 = .ok (.goto 40, 3) := by decide +kernel
theorem dX11_part_54 : decode cX11_part 54 = .ok (.iload_n 3, 1) := by decide +kernel
theorem dX11_part_55 : decode cX11_part 55 = .ok (.ifCond .ne 16, 3) := by decide +kernel
theorem dX11_part_58 : decode cX11_part 58 = .ok (.aload_n 0, 1) := by decide +kernel
theorem dX11_part_59 : decode cX11_part 59 = .ok (.aload_n 0, 1) := by decide +kernel
theorem dX11_part_60 : decode cX11_part 60 = .ok (.iload_n 1, 1) := by decide +kernel
theorem dX11_part_61 : decode cX11_part 61 = .ok (.iconst 1, 1) := by decide +kernel
theorem dX11_part_62 : decode cX11_part 62 = .ok (.invokevirtual 177, 3) := by decide +kernel
theorem dX11_part_65 : decode cX11_part 65 = .ok (.invokevirtual 265, 3) := by decide +kernel
theorem dX11_part_68 : decode cX11_part 68 = .ok (.goto 23, 3) := by decide +kernel
theorem dX11_part_71 : decode cX11_part 71 = .ok (.iload_n 3, 1) := by decide +kernel
theorem dX11_part_72 : decode cX11_part 72 = .ok (.iconst 1, 1) := by decide +kernel
theorem dX11_part_73 : decode cX11_part 73 = .ok (.if_icmp .ne 16, 3) := by decide +kernel
theorem dX11_part_76 : decode cX11_part 76 = .ok (.aload_n 0, 1) := by decide +kernel
theorem dX11_part_77 : decode cX11_part 77 = .ok (.aload_n 0, 1) := by decide +kernel
theorem dX11_part_78 : decode cX11_part 78 = .ok (.iload_n 1, 1) := by decide +kernel
theorem dX11_part_79 : decode cX11_part 79 = .ok (.iconst 1, 1) := by decide +kernel
theorem dX11_part_80 : decode cX11_part 80 = .ok (.invokevirtual 177, 3) := by decide +kernel
theorem dX11_part_83 : decode cX11_part 83 = .ok (.invokevirtual 262, 3) := by decide +kernel
theorem dX11_part_86 : decode cX11_part 86 = .ok (.goto 5, 3) := by decide +kernel
theorem dX11_part_89 : decode cX11_part 89 = .ok (.ldc 173, 2) := by decide +kernel
theorem dX11_part_91 : decode cX11_part 91 = .ok (.ireturn, 1) := by decide +kernel
theorem ggX11_isStrange_X11_at : GoodIn wsX11_isStrange wsX11_at := goodIn_sub (fun w h => (List.mem_cons.mp h).elim (fun e => ft_me e (List.mem_cons_of_mem _ (List.mem_append_left _ (List.mem_of_getElem? (i := 7) rfl)))) (fun h => (List.mem_append.mp h).elim (fun h => (List.forall_mem_cons.mpr ⟨(List.mem_cons_of_mem _ (List.mem_append_left _ (List.mem_of_getElem? (i := 1) rfl))), fun _ h => absurd h List.not_mem_nil⟩) w h) (fun h => k_wsX11_isStrange_wsX110 w h))) gw_wsX11_at
theorem gX11_isStrange_X11_at : GoodIn wsX11_isStrange (wsV RX11 177 RX11 yX11_at wsX11_at) := goodIn_app (goodIn_sub (List.forall_mem_cons.mpr ⟨(List.mem_cons_of_mem _ (List.mem_append_left _ (List.mem_of_getElem? (i := 3) rfl))), List.forall_mem_cons.mpr ⟨(List.mem_cons_of_mem _ (List.mem_append_left _ (List.mem_of_getElem? (i := 4) rfl))), List.forall_mem_cons.mpr ⟨(List.mem_cons_of_mem _ (List.mem_append_left _ (List.mem_of_getElem? (i := 5) rfl))), List.forall_mem_cons.mpr ⟨(List.mem_cons_of_mem _ (List.mem_append_left _ (List.mem_of_getElem? (i := 6) rfl))), fun _ h => absurd h List.not_mem_nil⟩⟩⟩⟩) (by decide +kernel)) ggX11_isStrange_X11_at
theorem ggX11_isStrange_X11_sizeOf : GoodIn wsX11_isStrange wsX11_sizeOf := goodIn_sub (fun w h => (List.mem_cons.mp h).elim (fun e => ft_me e (List.mem_cons_of_mem _ (List.mem_append_left _ (List.mem_of_getElem? (i := 10) rfl)))) (fun h => absurd h List.not_mem_nil)) gw_wsX11_sizeOf
theorem gX11_isStrange_X11_sizeOf : GoodIn wsX11_isStrange (va_wsS RX11 235 yX11_sizeOf wsX11_sizeOf) := goodIn_app (goodIn_sub (List.forall_mem_cons.mpr ⟨(List.mem_cons_of_mem _ (List.mem_append_left _ (List.mem_of_getElem? (i := 8) rfl))), List.forall_mem_cons.mpr ⟨(List.mem_cons_of_mem _ (List.mem_append_left _ (List.mem_of_getElem? (i := 9) rfl))), List.forall_mem_cons.mpr ⟨(List.mem_cons_of_mem _ (List.mem_append_left _ (List.mem_of_getElem? (i := 6) rfl))), fun _ h => absurd h List.not_mem_nil⟩⟩⟩) (by decide +kernel)) ggX11_isStrange_X11_sizeOf
theorem ggX11_isStrange_X11_setting : GoodIn wsX11_isStrange wsX11_setting := goodIn_sub (fun w h => (List.mem_cons.mp h).elim (fun e => ft_me e (List.mem_cons_of_mem _ (List.mem_append_left _ (List.mem_of_getElem? (i := 14) rfl)))) (fun h => (List.mem_append.mp h).elim (fun h => (List.forall_mem_cons.mpr ⟨(List.mem_cons_of_mem _ (List.mem_append_left _ (List.mem_of_getElem? (i := 1) rfl))), fun _ h => absurd h List.not_mem_nil⟩) w h) (fun h => k_wsX11_isStrange_wsX110 w h))) gw_wsX11_setting
theorem gX11_isStrange_X11_setting : GoodIn wsX11_isStrange (wsV RX11 194 RX11 yX11_setting wsX11_setting) := goodIn_app (goodIn_sub (List.forall_mem_cons.mpr ⟨(List.mem_cons_of_mem _ (List.mem_append_left _ (List.mem_of_getElem? (i := 11) rfl))), List.forall_mem_cons.mpr ⟨(List.mem_cons_of_mem _ (List.mem_append_left _ (List.mem_of_getElem? (i := 12) rfl))), List.forall_mem_cons.mpr ⟨(List.mem_cons_of_mem _ (List.mem_append_left _ (List.mem_of_getElem? (i := 13) rfl))), List.forall_mem_cons.mpr ⟨(List.mem_cons_of_mem _ (List.mem_append_left _ (List.mem_of_getElem? (i := 6) rfl))), fun _ h => absurd h List.not_mem_nil⟩⟩⟩⟩) (by decide +kernel)) ggX11_isStrange_X11_setting
theorem dX11_isStrange_0 : decode cX11_isStrange 0 = .ok (.aload_n 0, 1) := by decide +kernel
theorem dX11_isStrange_1 : decode cX11_isStrange 1 = .ok (.getfield 64, 3) := by decide +kernel
theorem dX11_isStrange_4 : decode cX11_isStrange 4 = .ok (.iload_n 1, 1) := by decide +kernel
theorem dX11_isStrange_5 : decode cX11_isStrange 5 = .ok (.iaload, 1) := by decide +kernel
theorem dX11_isStrange_6 : decode cX11_isStrange 6 = .ok (.iconst 2, 1) := by decide +kernel
theorem dX11_isStrange_7 : decode cX11_isStrange 7 = .ok (.if_icmp .ge 7, 3) := by decide +kernel
theorem dX11_isStrange_10 : decode cX11_isStrange 10 = .ok (.iconst 1, 1) := by decide +kernel
theorem dX11_isStrange_11 : decode cX11_isStrange 11 = .ok (.goto 4, 3) := by decide +kernel
theorem dX11_isStrange_14 : decode cX11_isStrange 14 = .ok (.iconst 0, 1) := by decide +kernel
theorem dX11_isStrange_15 : decode cX11_isStrange 15 = .ok (.istore_n 2, 1) := by decide +kernel
theorem dX11_isStrange_16 : decode cX11_isStrange 16 = .ok (.iconst 0, 1) := by decide +kernel
theorem dX11_isStrange_17 : decode cX11_isStrange 17 = .ok (.istore_n 3, 1) := by decide +kernel
theorem dX11_isStrange_18 : decode cX11_isStrange 18 = .ok (.iload_n 3, 1) := by decide +kernel
theorem dX11_isStrange_19 : decode cX11_isStrange 19 = .ok (.aload_n 0, 1) := by decide +kernel
theorem dX11_isStrange_20 : decode cX11_isStrange 20 = .ok (.getfield 7, 3) := by decide +kernel
theorem dX11_isStrange_23 : decode cX11_isStrange 23 = .ok (.iconst 3, 1) := by decide +kernel
theorem dX11_isStrange_24 : decode cX11_isStrange 24 = .ok (.iaload, 1) := by decide +kernel
theorem dX11_isStrange_25 : decode cX11_isStrange 25 = .ok (.if_icmp .ge 54, 3) := by decide +kernel
theorem dX11_isStrange_28 : decode cX11_isStrange 28 = .ok (.iload_n 2, 1) := by decide +kernel
theorem dX11_isStrange_29 : decode cX11_isStrange 29 = .ok (.ifCond .eq 42, 3) := by decide +kernel
theorem dX11_isStrange_32 : decode cX11_isStrange 32 = .ok (.aload_n 0, 1) := by decide +kernel
theorem dX11_isStrange_33 : decode cX11_isStrange 33 = .ok (.iload_n 3, 1) := by decide +kernel
theorem dX11_isStrange_34 : decode cX11_isStrange 34 = .ok (.iconst 0, 1) := by decide +kernel
theorem dX11_isStrange_35 : decode cX11_isStrange 35 = .ok (.invokevirtual 177, 3) := by decide +kernel
theorem dX11_isStrange_38 : decode cX11_isStrange 38 = .ok (.iconst 2, 1) := by decide +kernel
theorem dX11_isStrange_39 : decode cX11_isStrange 39 = .ok (.if_icmp .eq 28, 3) := by decide +kernel
theorem dX11_isStrange_42 : decode cX11_isStrange 42 = .ok (.aload_n 0, 1) := by decide +kernel
theorem dX11_isStrange_43 : decode cX11_isStrange 43 = .ok (.getfield 52, 3) := by decide +kernel
theorem dX11_isStrange_46 : decode cX11_isStrange 46 = .ok (.iload_n 1, 1) := by decide +kernel
theorem dX11_isStrange_47 : decode cX11_isStrange 47 = .ok (.iaload, 1) := by decide +kernel
theorem dX11_isStrange_48 : decode cX11_isStrange 48 = .ok (.aload_n 0, 1) := by decide +kernel
theorem dX11_isStrange_49 : decode cX11_isStrange 49 = .ok (.iload_n 3, 1) := by decide +kernel
theorem dX11_isStrange_50 : decode cX11_isStrange 50 = .ok (.iconst 1, 1) := by decide +kernel
theorem dX11_isStrange_51 : decode cX11_isStrange 51 = .ok (.invokevirtual 177, 3) := by decide +kernel
theorem dX11_isStrange_54 : decode cX11_isStrange 54 = .ok (.isub, 1) := by decide +kernel
theorem dX11_isStrange_55 : decode cX11_isStrange 55 = .ok (.invokestatic 235, 3) := by decide +kernel
theorem dX11_isStrange_58 : decode cX11_isStrange 58 = .ok (.aload_n 0, 1) := by decide +kernel
theorem dX11_isStrange_59 : decode cX11_isStrange 59 = .ok (.bipush 9, 2) := by decide +kernel
theorem dX11_isStrange_61 : decode cX11_isStrange 61 = .ok (.invokevirtual 194, 3) := by decide +kernel
theorem dX11_isStrange_64 : decode cX11_isStrange 64 = .ok (.if_icmp .le 7, 3) := by decide +kernel
theorem dX11_isStrange_67 : decode cX11_isStrange 67 = .ok (.iconst 1, 1) := by decide +kernel
theorem dX11_isStrange_68 : decode cX11_isStrange 68 = .ok (.goto 4, 3) := by decide +kernel
theorem dX11_isStrange_71 : decode cX11_isStrange 71 = .ok (.iconst 0, 1) := by decide +kernel
theorem dX11_isStrange_72 : decode cX11_isStrange 72 = .ok (.istore_n 2, 1) := by decide +kernel
theorem dX11_isStrange_73 : decode cX11_isStrange 73 = .ok (.iinc 3 1, 3) := by decide +kernel
theorem dX11_isStrange_76 : decode cX11_isStrange 76 = .ok (.goto (-58), 3) := by decide +kernel
theorem dX11_isStrange_79 : decode cX11_isStrange 79 = .ok (.iload_n 2, 1) := by decide +kernel
theorem dX11_isStrange_80 : decode cX11_isStrange 80 = .ok (.ireturn, 1) := by decide +kernel
theorem ggX11_standing_X11_at : GoodIn wsX11_standing wsX11_at := goodIn_sub (fun w h => (List.mem_cons.mp h).elim (fun e => ft_me e (k_wsX11_standing_wsX11_standing_r1 _ (List.mem_of_getElem? (i := 5) rfl))) (fun h => (List.mem_append.mp h).elim (fun h => (List.forall_mem_cons.mpr ⟨(k_wsX11_standing_wsX11_standing_r1 _ (List.mem_of_getElem? (i := 0) rfl)), fun _ h => absurd h List.not_mem_nil⟩) w h) (fun h => k_wsX11_standing_wsX110 w h))) gw_wsX11_at
theorem gX11_standing_X11_at : GoodIn wsX11_standing (wsV RX11 177 RX11 yX11_at wsX11_at) := goodIn_app (goodIn_sub (List.forall_mem_cons.mpr ⟨(k_wsX11_standing_wsX11_standing_r1 _ (List.mem_of_getElem? (i := 1) rfl)), List.forall_mem_cons.mpr ⟨(k_wsX11_standing_wsX11_standing_r1 _ (List.mem_of_getElem? (i := 2) rfl)), List.forall_mem_cons.mpr ⟨(k_wsX11_standing_wsX11_standing_r1 _ (List.mem_of_getElem? (i := 3) rfl)), List.forall_mem_cons.mpr ⟨(k_wsX11_standing_wsX11_standing_r1 _ (List.mem_of_getElem? (i := 4) rfl)), fun _ h => absurd h List.not_mem_nil⟩⟩⟩⟩) (by decide +kernel)) ggX11_standing_X11_at
set_option maxRecDepth 20000 in
theorem s_X11_standing_X11_stands_wsX11_stands_r1 : ∀ w ∈ wsX11_stands_r1, w ∈ wsX11_standing := List.forall_mem_cons.mpr ⟨(k_wsX11_standing_wsX11_standing_r1 _ (List.mem_of_getElem? (i := 1) rfl)), List.forall_mem_cons.mpr ⟨(k_wsX11_standing_wsX11_standing_r1 _ (List.mem_of_getElem? (i := 2) rfl)), List.forall_mem_cons.mpr ⟨(k_wsX11_standing_wsX11_standing_r1 _ (List.mem_of_getElem? (i := 3) rfl)), List.forall_mem_cons.mpr ⟨(k_wsX11_standing_wsX11_standing_r1 _ (List.mem_of_getElem? (i := 4) rfl)), List.forall_mem_cons.mpr ⟨(k_wsX11_standing_wsX11_standing_r1 _ (List.mem_of_getElem? (i := 5) rfl)), List.forall_mem_cons.mpr ⟨(k_wsX11_standing_wsX11_standing_r1 _ (List.mem_of_getElem? (i := 0) rfl)), List.forall_mem_cons.mpr ⟨(k_wsX11_standing_wsX11_standing_r1 _ (List.mem_of_getElem? (i := 10) rfl)), List.forall_mem_cons.mpr ⟨(k_wsX11_standing_wsX11_standing_r1 _ (List.mem_of_getElem? (i := 11) rfl)), List.forall_mem_cons.mpr ⟨(k_wsX11_standing_wsX11_standing_r1 _ (List.mem_of_getElem? (i := 12) rfl)), List.forall_mem_cons.mpr ⟨(k_wsX11_standing_wsX11_standing_r1 _ (List.mem_of_getElem? (i := 13) rfl)), List.forall_mem_cons.mpr ⟨(k_wsX11_standing_wsX11_standing_r1 _ (List.mem_of_getElem? (i := 14) rfl)), List.forall_mem_cons.mpr ⟨(k_wsX11_standing_wsX11_standing_r1 _ (List.mem_of_getElem? (i := 15) rfl)), List.forall_mem_cons.mpr ⟨(k_wsX11_standing_wsX11_standing_r1 _ (List.mem_of_getElem? (i := 16) rfl)), List.forall_mem_cons.mpr ⟨(k_wsX11_standing_wsX11_standing_r1 _ (List.mem_of_getElem? (i := 17) rfl)), List.forall_mem_cons.mpr ⟨(k_wsX11_standing_wsX11_standing_r1 _ (List.mem_of_getElem? (i := 18) rfl)), List.forall_mem_cons.mpr ⟨(k_wsX11_standing_wsX11_standing_r1 _ (List.mem_of_getElem? (i := 19) rfl)), List.forall_mem_cons.mpr ⟨(k_wsX11_standing_wsX11_standing_r1 _ (List.mem_of_getElem? (i := 20) rfl)), List.forall_mem_cons.mpr ⟨(k_wsX11_standing_wsX11_standing_r1 _ (List.mem_of_getElem? (i := 21) rfl)), List.forall_mem_cons.mpr ⟨(k_wsX11_standing_wsX11_standing_r1 _ (List.mem_of_getElem? (i := 22) rfl)), List.forall_mem_cons.mpr ⟨(k_wsX11_standing_wsX11_standing_r1 _ (List.mem_of_getElem? (i := 23) rfl)), List.forall_mem_cons.mpr ⟨(k_wsX11_standing_wsX11_standing_r2 _ (List.mem_of_getElem? (i := 0) rfl)), List.forall_mem_cons.mpr ⟨(k_wsX11_standing_wsX11_standing_r2 _ (List.mem_of_getElem? (i := 1) rfl)), List.forall_mem_cons.mpr ⟨(k_wsX11_standing_wsX11_standing_r2 _ (List.mem_of_getElem? (i := 2) rfl)), List.forall_mem_cons.mpr ⟨(k_wsX11_standing_wsX11_standing_r2 _ (List.mem_of_getElem? (i := 3) rfl)), fun _ h => absurd h List.not_mem_nil⟩⟩⟩⟩⟩⟩⟩⟩⟩⟩⟩⟩⟩⟩⟩⟩⟩⟩⟩⟩⟩⟩⟩⟩
set_option maxRecDepth 20000 in
theorem s_X11_standing_X11_stands_wsX11_stands_r2 : ∀ w ∈ wsX11_stands_r2, w ∈ wsX11_standing := List.forall_mem_cons.mpr ⟨(k_wsX11_standing_wsX11_standing_r2 _ (List.mem_of_getElem? (i := 4) rfl)), List.forall_mem_cons.mpr ⟨(k_wsX11_standing_wsX11_standing_r2 _ (List.mem_of_getElem? (i := 5) rfl)), List.forall_mem_cons.mpr ⟨(k_wsX11_standing_wsX11_standing_r2 _ (List.mem_of_getElem? (i := 6) rfl)), List.forall_mem_cons.mpr ⟨(k_wsX11_standing_wsX11_standing_r2 _ (List.mem_of_getElem? (i := 7) rfl)), fun _ h => absurd h List.not_mem_nil⟩⟩⟩⟩
theorem ggX11_standing_X11_stands : GoodIn wsX11_standing wsX11_stands := goodIn_sub (fun w h => (List.mem_cons.mp h).elim (fun e => ft_me e (k_wsX11_standing_wsX11_standing_r1 _ (List.mem_of_getElem? (i := 9) rfl))) (fun h => (List.mem_append.mp h).elim (fun h => (List.mem_append.mp h).elim (fun h => s_X11_standing_X11_stands_wsX11_stands_r1 w h) (fun h => s_X11_standing_X11_stands_wsX11_stands_r2 w h)) (fun h => k_wsX11_standing_wsX110 w h))) gw_wsX11_stands
theorem gX11_standing_X11_stands : GoodIn wsX11_standing (wsV RX11 268 RX11 yX11_stands wsX11_stands) := goodIn_app (goodIn_sub (List.forall_mem_cons.mpr ⟨(k_wsX11_standing_wsX11_standing_r1 _ (List.mem_of_getElem? (i := 6) rfl)), List.forall_mem_cons.mpr ⟨(k_wsX11_standing_wsX11_standing_r1 _ (List.mem_of_getElem? (i := 7) rfl)), List.forall_mem_cons.mpr ⟨(k_wsX11_standing_wsX11_standing_r1 _ (List.mem_of_getElem? (i := 8) rfl)), List.forall_mem_cons.mpr ⟨(k_wsX11_standing_wsX11_standing_r1 _ (List.mem_of_getElem? (i := 4) rfl)), fun _ h => absurd h List.not_mem_nil⟩⟩⟩⟩) (by decide +kernel)) ggX11_standing_X11_stands
theorem dX11_standing_0 : decode cX11_standing 0 = .ok (.iconst 0, 1) := by decide +kernel
theorem dX11_standing_1 : decode cX11_standing 1 = .ok (.istore_n 2, 1) := by decide +kernel
theorem dX11_standing_2 : decode cX11_standing 2 = .ok (.iconst 0, 1) := by decide +kernel
theorem dX11_standing_3 : decode cX11_standing 3 = .ok (.istore_n 3, 1) := by decide +kernel
theorem dX11_standing_4 : decode cX11_standing 4 = .ok (.iload_n 3, 1) := by decide +kernel
theorem dX11_standing_5 : decode cX11_standing 5 = .ok (.aload_n 0, 1) := by decide +kernel
theorem dX11_standing_6 : decode cX11_standing 6 = .ok (.getfield 7, 3) := by decide +kernel
theorem dX11_standing_9 : decode cX11_standing 9 = .ok (.iconst 3, 1) := by decide +kernel
theorem dX11_standing_10 : decode cX11_standing 10 = .ok (.iaload, 1) := by decide +kernel
theorem dX11_standing_11 : decode cX11_standing 11 = .ok (.if_icmp .ge 36, 3) := by decide +kernel
theorem dX11_standing_14 : decode cX11_standing 14 = .ok (.iload_n 2, 1) := by decide +kernel
theorem dX11_standing_15 : decode cX11_standing 15 = .ok (.aload_n 0, 1) := by decide +kernel
theorem dX11_standing_16 : decode cX11_standing 16 = .ok (.iload_n 3, 1) := by decide +kernel
theorem dX11_standing_17 : decode cX11_standing 17 = .ok (.iconst 0, 1) := by decide +kernel
theorem dX11_standing_18 : decode cX11_standing 18 = .ok (.invokevirtual 177, 3) := by decide +kernel
theorem dX11_standing_21 : decode cX11_standing 21 = .ok (.iconst 2, 1) := by decide +kernel
theorem dX11_standing_22 : decode cX11_standing 22 = .ok (.if_icmp .ge 16, 3) := by decide +kernel
theorem dX11_standing_25 : decode cX11_standing 25 = .ok (.aload_n 0, 1) := by decide +kernel
theorem dX11_standing_26 : decode cX11_standing 26 = .ok (.iload_n 3, 1) := by decide +kernel
theorem dX11_standing_27 : decode cX11_standing 27 = .ok (.invokevirtual 268, 3) := by decide +kernel
theorem dX11_standing_30 : decode cX11_standing 30 = .ok (.iload_n 1, 1) := by decide +kernel
theorem dX11_standing_31 : decode cX11_standing 31 = .ok (.if_icmp .ne 7, 3) := by decide +kernel
theorem dX11_standing_34 : decode cX11_standing 34 = .ok (.iconst 1, 1) := by decide +kernel
theorem dX11_standing_35 : decode cX11_standing 35 = .ok (.goto 4, 3) := by decide +kernel
theorem dX11_standing_38 : decode cX11_standing 38 = .ok (.iconst 0, 1) := by decide +kernel
theorem dX11_standing_39 : decode cX11_standing 39 = .ok (.iadd, 1) := by decide +kernel
theorem dX11_standing_40 : decode cX11_standing 40 = .ok (.istore_n 2, 1) := by decide +kernel
theorem dX11_standing_41 : decode cX11_standing 41 = .ok (.iinc 3 1, 3) := by decide +kernel
theorem dX11_standing_44 : decode cX11_standing 44 = .ok (.goto (-40), 3) := by decide +kernel
theorem dX11_standing_47 : decode cX11_standing 47 = .ok (.iload_n 2, 1) := by decide +kernel
theorem dX11_standing_48 : decode cX11_standing 48 = .ok (.ireturn, 1) := by decide +kernel
theorem ggX11_findings_X11_in : GoodIn wsX11_findings wsX11_in := goodIn_sub (fun w h => (List.mem_cons.mp h).elim (fun e => ft_me e (k_wsX11_findings_wsX11_findings_r1 _ (List.mem_of_getElem? (i := 6) rfl))) (fun h => absurd h List.not_mem_nil)) gw_wsX11_in
theorem gX11_findings_X11_in : GoodIn wsX11_findings (va_wsS RX11 91 yX11_in wsX11_in) := goodIn_app (goodIn_sub (List.forall_mem_cons.mpr ⟨(k_wsX11_findings_wsX11_findings_r1 _ (List.mem_of_getElem? (i := 3) rfl)), List.forall_mem_cons.mpr ⟨(k_wsX11_findings_wsX11_findings_r1 _ (List.mem_of_getElem? (i := 4) rfl)), List.forall_mem_cons.mpr ⟨(k_wsX11_findings_wsX11_findings_r1 _ (List.mem_of_getElem? (i := 5) rfl)), fun _ h => absurd h List.not_mem_nil⟩⟩⟩) (by decide +kernel)) ggX11_findings_X11_in
set_option maxRecDepth 20000 in
theorem s_X11_findings_X11_layEvents_wsX11_layEvents_r1 : ∀ w ∈ wsX11_layEvents_r1, w ∈ wsX11_findings := List.forall_mem_cons.mpr ⟨(k_wsX11_findings_wsX11_findings_r1 _ (List.mem_of_getElem? (i := 2) rfl)), List.forall_mem_cons.mpr ⟨(k_wsX11_findings_wsX11_findings_r1 _ (List.mem_of_getElem? (i := 11) rfl)), List.forall_mem_cons.mpr ⟨(k_wsX11_findings_wsX11_findings_r1 _ (List.mem_of_getElem? (i := 12) rfl)), List.forall_mem_cons.mpr ⟨(k_wsX11_findings_wsX11_findings_r1 _ (List.mem_of_getElem? (i := 13) rfl)), List.forall_mem_cons.mpr ⟨(k_wsX11_findings_wsX11_findings_r1 _ (List.mem_of_getElem? (i := 14) rfl)), List.forall_mem_cons.mpr ⟨(k_wsX11_findings_wsX11_findings_r1 _ (List.mem_of_getElem? (i := 15) rfl)), List.forall_mem_cons.mpr ⟨(k_wsX11_findings_wsX11_findings_r1 _ (List.mem_of_getElem? (i := 5) rfl)), List.forall_mem_cons.mpr ⟨(k_wsX11_findings_wsX11_findings_r1 _ (List.mem_of_getElem? (i := 16) rfl)), List.forall_mem_cons.mpr ⟨(k_wsX11_findings_wsX11_findings_r1 _ (List.mem_of_getElem? (i := 17) rfl)), List.forall_mem_cons.mpr ⟨(k_wsX11_findings_wsX11_findings_r1 _ (List.mem_of_getElem? (i := 18) rfl)), List.forall_mem_cons.mpr ⟨(k_wsX11_findings_wsX11_findings_r1 _ (List.mem_of_getElem? (i := 19) rfl)), List.forall_mem_cons.mpr ⟨(k_wsX11_findings_wsX11_findings_r1 _ (List.mem_of_getElem? (i := 20) rfl)), List.forall_mem_cons.mpr ⟨(k_wsX11_findings_wsX11_findings_r1 _ (List.mem_of_getElem? (i := 21) rfl)), List.forall_mem_cons.mpr ⟨(k_wsX11_findings_wsX11_findings_r1 _ (List.mem_of_getElem? (i := 22) rfl)), List.forall_mem_cons.mpr ⟨(k_wsX11_findings_wsX11_findings_r1 _ (List.mem_of_getElem? (i := 23) rfl)), List.forall_mem_cons.mpr ⟨(k_wsX11_findings_wsX11_findings_r2 _ (List.mem_of_getElem? (i := 0) rfl)), List.forall_mem_cons.mpr ⟨(k_wsX11_findings_wsX11_findings_r2 _ (List.mem_of_getElem? (i := 1) rfl)), List.forall_mem_cons.mpr ⟨(k_wsX11_findings_wsX11_findings_r2 _ (List.mem_of_getElem? (i := 2) rfl)), List.forall_mem_cons.mpr ⟨(k_wsX11_findings_wsX11_findings_r2 _ (List.mem_of_getElem? (i := 3) rfl)), List.forall_mem_cons.mpr ⟨(k_wsX11_findings_wsX11_findings_r2 _ (List.mem_of_getElem? (i := 4) rfl)), List.forall_mem_cons.mpr ⟨(k_wsX11_findings_wsX11_findings_r2 _ (List.mem_of_getElem? (i := 5) rfl)), List.forall_mem_cons.mpr ⟨(k_wsX11_findings_wsX11_findings_r2 _ (List.mem_of_getElem? (i := 6) rfl)), List.forall_mem_cons.mpr ⟨(k_wsX11_findings_wsX11_findings_r2 _ (List.mem_of_getElem? (i := 7) rfl)), List.forall_mem_cons.mpr ⟨(k_wsX11_findings_wsX11_findings_r2 _ (List.mem_of_getElem? (i := 8) rfl)), fun _ h => absurd h List.not_mem_nil⟩⟩⟩⟩⟩⟩⟩⟩⟩⟩⟩⟩⟩⟩⟩⟩⟩⟩⟩⟩⟩⟩⟩⟩
set_option maxRecDepth 20000 in
theorem s_X11_findings_X11_layEvents_wsX11_layEvents_r2 : ∀ w ∈ wsX11_layEvents_r2, w ∈ wsX11_findings := List.forall_mem_cons.mpr ⟨(k_wsX11_findings_wsX11_findings_r2 _ (List.mem_of_getElem? (i := 9) rfl)), List.forall_mem_cons.mpr ⟨(k_wsX11_findings_wsX11_findings_r2 _ (List.mem_of_getElem? (i := 10) rfl)), List.forall_mem_cons.mpr ⟨(k_wsX11_findings_wsX11_findings_r2 _ (List.mem_of_getElem? (i := 11) rfl)), List.forall_mem_cons.mpr ⟨(k_wsX11_findings_wsX11_findings_r2 _ (List.mem_of_getElem? (i := 12) rfl)), List.forall_mem_cons.mpr ⟨(k_wsX11_findings_wsX11_findings_r2 _ (List.mem_of_getElem? (i := 13) rfl)), List.forall_mem_cons.mpr ⟨(k_wsX11_findings_wsX11_findings_r2 _ (List.mem_of_getElem? (i := 14) rfl)), List.forall_mem_cons.mpr ⟨(k_wsX11_findings_wsX11_findings_r2 _ (List.mem_of_getElem? (i := 15) rfl)), List.forall_mem_cons.mpr ⟨(k_wsX11_findings_wsX11_findings_r2 _ (List.mem_of_getElem? (i := 16) rfl)), List.forall_mem_cons.mpr ⟨(k_wsX11_findings_wsX11_findings_r2 _ (List.mem_of_getElem? (i := 17) rfl)), List.forall_mem_cons.mpr ⟨(k_wsX11_findings_wsX11_findings_r2 _ (List.mem_of_getElem? (i := 18) rfl)), List.forall_mem_cons.mpr ⟨(k_wsX11_findings_wsX11_findings_r2 _ (List.mem_of_getElem? (i := 19) rfl)), List.forall_mem_cons.mpr ⟨(k_wsX11_findings_wsX11_findings_r2 _ (List.mem_of_getElem? (i := 20) rfl)), List.forall_mem_cons.mpr ⟨(k_wsX11_findings_wsX11_findings_r2 _ (List.mem_of_getElem? (i := 21) rfl)), List.forall_mem_cons.mpr ⟨(k_wsX11_findings_wsX11_findings_r2 _ (List.mem_of_getElem? (i := 22) rfl)), List.forall_mem_cons.mpr ⟨(k_wsX11_findings_wsX11_findings_r2 _ (List.mem_of_getElem? (i := 23) rfl)), List.forall_mem_cons.mpr ⟨(k_wsX11_findings_wsX11_findings_r3 _ (List.mem_of_getElem? (i := 0) rfl)), List.forall_mem_cons.mpr ⟨(k_wsX11_findings_wsX11_findings_r3 _ (List.mem_of_getElem? (i := 1) rfl)), List.forall_mem_cons.mpr ⟨(k_wsX11_findings_wsX11_findings_r3 _ (List.mem_of_getElem? (i := 2) rfl)), List.forall_mem_cons.mpr ⟨(k_wsX11_findings_wsX11_findings_r3 _ (List.mem_of_getElem? (i := 3) rfl)), List.forall_mem_cons.mpr ⟨(k_wsX11_findings_wsX11_findings_r3 _ (List.mem_of_getElem? (i := 4) rfl)), List.forall_mem_cons.mpr ⟨(k_wsX11_findings_wsX11_findings_r3 _ (List.mem_of_getElem? (i := 5) rfl)), List.forall_mem_cons.mpr ⟨(k_wsX11_findings_wsX11_findings_r3 _ (List.mem_of_getElem? (i := 6) rfl)), List.forall_mem_cons.mpr ⟨(k_wsX11_findings_wsX11_findings_r3 _ (List.mem_of_getElem? (i := 7) rfl)), List.forall_mem_cons.mpr ⟨(k_wsX11_findings_wsX11_findings_r3 _ (List.mem_of_getElem? (i := 8) rfl)), fun _ h => absurd h List.not_mem_nil⟩⟩⟩⟩⟩⟩⟩⟩⟩⟩⟩⟩⟩⟩⟩⟩⟩⟩⟩⟩⟩⟩⟩⟩
set_option maxRecDepth 20000 in
theorem s_X11_findings_X11_layEvents_wsX11_layEvents_r3 : ∀ w ∈ wsX11_layEvents_r3, w ∈ wsX11_findings := List.forall_mem_cons.mpr ⟨(k_wsX11_findings_wsX11_findings_r3 _ (List.mem_of_getElem? (i := 9) rfl)), List.forall_mem_cons.mpr ⟨(k_wsX11_findings_wsX11_findings_r3 _ (List.mem_of_getElem? (i := 10) rfl)), List.forall_mem_cons.mpr ⟨(k_wsX11_findings_wsX11_findings_r3 _ (List.mem_of_getElem? (i := 11) rfl)), List.forall_mem_cons.mpr ⟨(k_wsX11_findings_wsX11_findings_r3 _ (List.mem_of_getElem? (i := 12) rfl)), List.forall_mem_cons.mpr ⟨(k_wsX11_findings_wsX11_findings_r3 _ (List.mem_of_getElem? (i := 13) rfl)), List.forall_mem_cons.mpr ⟨(k_wsX11_findings_wsX11_findings_r3 _ (List.mem_of_getElem? (i := 14) rfl)), List.forall_mem_cons.mpr ⟨(k_wsX11_findings_wsX11_findings_r3 _ (List.mem_of_getElem? (i := 15) rfl)), List.forall_mem_cons.mpr ⟨(k_wsX11_findings_wsX11_findings_r3 _ (List.mem_of_getElem? (i := 16) rfl)), List.forall_mem_cons.mpr ⟨(k_wsX11_findings_wsX11_findings_r3 _ (List.mem_of_getElem? (i := 17) rfl)), List.forall_mem_cons.mpr ⟨(k_wsX11_findings_wsX11_findings_r3 _ (List.mem_of_getElem? (i := 18) rfl)), List.forall_mem_cons.mpr ⟨(k_wsX11_findings_wsX11_findings_r3 _ (List.mem_of_getElem? (i := 19) rfl)), List.forall_mem_cons.mpr ⟨(k_wsX11_findings_wsX11_findings_r3 _ (List.mem_of_getElem? (i := 20) rfl)), List.forall_mem_cons.mpr ⟨(k_wsX11_findings_wsX11_findings_r3 _ (List.mem_of_getElem? (i := 21) rfl)), List.forall_mem_cons.mpr ⟨(k_wsX11_findings_wsX11_findings_r3 _ (List.mem_of_getElem? (i := 22) rfl)), List.forall_mem_cons.mpr ⟨(k_wsX11_findings_wsX11_findings_r3 _ (List.mem_of_getElem? (i := 23) rfl)), List.forall_mem_cons.mpr ⟨(k_wsX11_findings_wsX11_findings_r4 _ (List.mem_of_getElem? (i := 0) rfl)), List.forall_mem_cons.mpr ⟨(k_wsX11_findings_wsX11_findings_r4 _ (List.mem_of_getElem? (i := 1) rfl)), List.forall_mem_cons.mpr ⟨(k_wsX11_findings_wsX11_findings_r4 _ (List.mem_of_getElem? (i := 2) rfl)), List.forall_mem_cons.mpr ⟨(k_wsX11_findings_wsX11_findings_r4 _ (List.mem_of_getElem? (i := 3) rfl)), List.forall_mem_cons.mpr ⟨(k_wsX11_findings_wsX11_findings_r4 _ (List.mem_of_getElem? (i := 4) rfl)), List.forall_mem_cons.mpr ⟨(k_wsX11_findings_wsX11_findings_r4 _ (List.mem_of_getElem? (i := 5) rfl)), List.forall_mem_cons.mpr ⟨(k_wsX11_findings_wsX11_findings_r4 _ (List.mem_of_getElem? (i := 6) rfl)), List.forall_mem_cons.mpr ⟨(k_wsX11_findings_wsX11_findings_r4 _ (List.mem_of_getElem? (i := 7) rfl)), List.forall_mem_cons.mpr ⟨(k_wsX11_findings_wsX11_findings_r4 _ (List.mem_of_getElem? (i := 8) rfl)), fun _ h => absurd h List.not_mem_nil⟩⟩⟩⟩⟩⟩⟩⟩⟩⟩⟩⟩⟩⟩⟩⟩⟩⟩⟩⟩⟩⟩⟩⟩
set_option maxRecDepth 20000 in
theorem s_X11_findings_X11_layEvents_wsX11_layEvents_r4 : ∀ w ∈ wsX11_layEvents_r4, w ∈ wsX11_findings := List.forall_mem_cons.mpr ⟨(k_wsX11_findings_wsX11_findings_r4 _ (List.mem_of_getElem? (i := 9) rfl)), List.forall_mem_cons.mpr ⟨(k_wsX11_findings_wsX11_findings_r4 _ (List.mem_of_getElem? (i := 10) rfl)), List.forall_mem_cons.mpr ⟨(k_wsX11_findings_wsX11_findings_r4 _ (List.mem_of_getElem? (i := 11) rfl)), List.forall_mem_cons.mpr ⟨(k_wsX11_findings_wsX11_findings_r4 _ (List.mem_of_getElem? (i := 12) rfl)), List.forall_mem_cons.mpr ⟨(k_wsX11_findings_wsX11_findings_r4 _ (List.mem_of_getElem? (i := 13) rfl)), List.forall_mem_cons.mpr ⟨(k_wsX11_findings_wsX11_findings_r4 _ (List.mem_of_getElem? (i := 14) rfl)), List.forall_mem_cons.mpr ⟨(k_wsX11_findings_wsX11_findings_r4 _ (List.mem_of_getElem? (i := 15) rfl)), List.forall_mem_cons.mpr ⟨(k_wsX11_findings_wsX11_findings_r4 _ (List.mem_of_getElem? (i := 16) rfl)), fun _ h => absurd h List.not_mem_nil⟩⟩⟩⟩⟩⟩⟩⟩
theorem ggX11_findings_X11_layEvents : GoodIn wsX11_findings wsX11_layEvents := goodIn_sub (fun w h => (List.mem_cons.mp h).elim (fun e => ft_me e (k_wsX11_findings_wsX11_findings_r1 _ (List.mem_of_getElem? (i := 10) rfl))) (fun h => (List.mem_append.mp h).elim (fun h => (List.mem_append.mp h).elim (fun h => s_X11_findings_X11_layEvents_wsX11_layEvents_r1 w h) (fun h => (List.mem_append.mp h).elim (fun h => s_X11_findings_X11_layEvents_wsX11_layEvents_r2 w h) (fun h => (List.mem_append.mp h).elim (fun h => s_X11_findings_X11_layEvents_wsX11_layEvents_r3 w h) (fun h => s_X11_findings_X11_layEvents_wsX11_layEvents_r4 w h)))) (fun h => k_wsX11_findings_wsX110 w h))) gw_wsX11_layEvents
theorem gX11_findings_X11_layEvents : GoodIn wsX11_findings (wsV RX11 255 RX11 yX11_layEvents wsX11_layEvents) := goodIn_app (goodIn_sub (List.forall_mem_cons.mpr ⟨(k_wsX11_findings_wsX11_findings_r1 _ (List.mem_of_getElem? (i := 7) rfl)), List.forall_mem_cons.mpr ⟨(k_wsX11_findings_wsX11_findings_r1 _ (List.mem_of_getElem? (i := 8) rfl)), List.forall_mem_cons.mpr ⟨(k_wsX11_findings_wsX11_findings_r1 _ (List.mem_of_getElem? (i := 9) rfl)), List.forall_mem_cons.mpr ⟨(k_wsX11_findings_wsX11_findings_r1 _ (List.mem_of_getElem? (i := 5) rfl)), fun _ h => absurd h List.not_mem_nil⟩⟩⟩⟩) (by decide +kernel)) ggX11_findings_X11_layEvents
theorem ggX11_findings_X11_isStrange : GoodIn wsX11_findings wsX11_isStrange := goodIn_sub (fun w h => (List.mem_cons.mp h).elim (fun e => ft_me e (k_wsX11_findings_wsX11_findings_r4 _ (List.mem_of_getElem? (i := 20) rfl))) (fun h => (List.mem_append.mp h).elim (fun h => (List.forall_mem_cons.mpr ⟨(k_wsX11_findings_wsX11_findings_r4 _ (List.mem_of_getElem? (i := 3) rfl)), List.forall_mem_cons.mpr ⟨(k_wsX11_findings_wsX11_findings_r1 _ (List.mem_of_getElem? (i := 19) rfl)), List.forall_mem_cons.mpr ⟨(k_wsX11_findings_wsX11_findings_r3 _ (List.mem_of_getElem? (i := 23) rfl)), List.forall_mem_cons.mpr ⟨(k_wsX11_findings_wsX11_findings_r2 _ (List.mem_of_getElem? (i := 7) rfl)), List.forall_mem_cons.mpr ⟨(k_wsX11_findings_wsX11_findings_r2 _ (List.mem_of_getElem? (i := 8) rfl)), List.forall_mem_cons.mpr ⟨(k_wsX11_findings_wsX11_findings_r2 _ (List.mem_of_getElem? (i := 9) rfl)), List.forall_mem_cons.mpr ⟨(k_wsX11_findings_wsX11_findings_r1 _ (List.mem_of_getElem? (i := 5) rfl)), List.forall_mem_cons.mpr ⟨(k_wsX11_findings_wsX11_findings_r2 _ (List.mem_of_getElem? (i := 10) rfl)), List.forall_mem_cons.mpr ⟨(k_wsX11_findings_wsX11_findings_r4 _ (List.mem_of_getElem? (i := 8) rfl)), List.forall_mem_cons.mpr ⟨(k_wsX11_findings_wsX11_findings_r4 _ (List.mem_of_getElem? (i := 9) rfl)), List.forall_mem_cons.mpr ⟨(k_wsX11_findings_wsX11_findings_r4 _ (List.mem_of_getElem? (i := 10) rfl)), List.forall_mem_cons.mpr ⟨(k_wsX11_findings_wsX11_findings_r2 _ (List.mem_of_getElem? (i := 11) rfl)), List.forall_mem_cons.mpr ⟨(k_wsX11_findings_wsX11_findings_r2 _ (List.mem_of_getElem? (i := 12) rfl)), List.forall_mem_cons.mpr ⟨(k_wsX11_findings_wsX11_findings_r2 _ (List.mem_of_getElem? (i := 13) rfl)), List.forall_mem_cons.mpr ⟨(k_wsX11_findings_wsX11_findings_r2 _ (List.mem_of_getElem? (i := 14) rfl)), fun _ h => absurd h List.not_mem_nil⟩⟩⟩⟩⟩⟩⟩⟩⟩⟩⟩⟩⟩⟩⟩) w h) (fun h => k_wsX11_findings_wsX110 w h))) gw_wsX11_isStrange
theorem gX11_findings_X11_isStrange : GoodIn wsX11_findings (wsV RX11 271 RX11 yX11_isStrange wsX11_isStrange) := goodIn_app (goodIn_sub (List.forall_mem_cons.mpr ⟨(k_wsX11_findings_wsX11_findings_r4 _ (List.mem_of_getElem? (i := 17) rfl)), List.forall_mem_cons.mpr ⟨(k_wsX11_findings_wsX11_findings_r4 _ (List.mem_of_getElem? (i := 18) rfl)), List.forall_mem_cons.mpr ⟨(k_wsX11_findings_wsX11_findings_r4 _ (List.mem_of_getElem? (i := 19) rfl)), List.forall_mem_cons.mpr ⟨(k_wsX11_findings_wsX11_findings_r1 _ (List.mem_of_getElem? (i := 5) rfl)), fun _ h => absurd h List.not_mem_nil⟩⟩⟩⟩) (by decide +kernel)) ggX11_findings_X11_isStrange
set_option maxRecDepth 20000 in
theorem s_X11_findings_X11_standing_wsX11_standing_r1 : ∀ w ∈ wsX11_standing_r1, w ∈ wsX11_findings := List.forall_mem_cons.mpr ⟨(k_wsX11_findings_wsX11_findings_r1 _ (List.mem_of_getElem? (i := 19) rfl)), List.forall_mem_cons.mpr ⟨(k_wsX11_findings_wsX11_findings_r2 _ (List.mem_of_getElem? (i := 7) rfl)), List.forall_mem_cons.mpr ⟨(k_wsX11_findings_wsX11_findings_r2 _ (List.mem_of_getElem? (i := 8) rfl)), List.forall_mem_cons.mpr ⟨(k_wsX11_findings_wsX11_findings_r2 _ (List.mem_of_getElem? (i := 9) rfl)), List.forall_mem_cons.mpr ⟨(k_wsX11_findings_wsX11_findings_r1 _ (List.mem_of_getElem? (i := 5) rfl)), List.forall_mem_cons.mpr ⟨(k_wsX11_findings_wsX11_findings_r2 _ (List.mem_of_getElem? (i := 10) rfl)), List.forall_mem_cons.mpr ⟨(k_wsX11_findings_wsX11_findings_r5 _ (List.mem_of_getElem? (i := 1) rfl)), List.forall_mem_cons.mpr ⟨(k_wsX11_findings_wsX11_findings_r5 _ (List.mem_of_getElem? (i := 2) rfl)), List.forall_mem_cons.mpr ⟨(k_wsX11_findings_wsX11_findings_r5 _ (List.mem_of_getElem? (i := 3) rfl)), List.forall_mem_cons.mpr ⟨(k_wsX11_findings_wsX11_findings_r5 _ (List.mem_of_getElem? (i := 4) rfl)), List.forall_mem_cons.mpr ⟨(k_wsX11_findings_wsX11_findings_r5 _ (List.mem_of_getElem? (i := 5) rfl)), List.forall_mem_cons.mpr ⟨(k_wsX11_findings_wsX11_findings_r5 _ (List.mem_of_getElem? (i := 6) rfl)), List.forall_mem_cons.mpr ⟨(k_wsX11_findings_wsX11_findings_r5 _ (List.mem_of_getElem? (i := 7) rfl)), List.forall_mem_cons.mpr ⟨(k_wsX11_findings_wsX11_findings_r5 _ (List.mem_of_getElem? (i := 8) rfl)), List.forall_mem_cons.mpr ⟨(k_wsX11_findings_wsX11_findings_r1 _ (List.mem_of_getElem? (i := 2) rfl)), List.forall_mem_cons.mpr ⟨(k_wsX11_findings_wsX11_findings_r4 _ (List.mem_of_getElem? (i := 3) rfl)), List.forall_mem_cons.mpr ⟨(k_wsX11_findings_wsX11_findings_r3 _ (List.mem_of_getElem? (i := 23) rfl)), List.forall_mem_cons.mpr ⟨(k_wsX11_findings_wsX11_findings_r4 _ (List.mem_of_getElem? (i := 8) rfl)), List.forall_mem_cons.mpr ⟨(k_wsX11_findings_wsX11_findings_r4 _ (List.mem_of_getElem? (i := 9) rfl)), List.forall_mem_cons.mpr ⟨(k_wsX11_findings_wsX11_findings_r4 _ (List.mem_of_getElem? (i := 10) rfl)), List.forall_mem_cons.mpr ⟨(k_wsX11_findings_wsX11_findings_r2 _ (List.mem_of_getElem? (i := 11) rfl)), List.forall_mem_cons.mpr ⟨(k_wsX11_findings_wsX11_findings_r2 _ (List.mem_of_getElem? (i := 12) rfl)), List.forall_mem_cons.mpr ⟨(k_wsX11_findings_wsX11_findings_r2 _ (List.mem_of_getElem? (i := 13) rfl)), List.forall_mem_cons.mpr ⟨(k_wsX11_findings_wsX11_findings_r2 _ (List.mem_of_getElem? (i := 14) rfl)), fun _ h => absurd h List.not_mem_nil⟩⟩⟩⟩⟩⟩⟩⟩⟩⟩⟩⟩⟩⟩⟩⟩⟩⟩⟩⟩⟩⟩⟩⟩
set_option maxRecDepth 20000 in
theorem s_X11_findings_X11_standing_wsX11_standing_r2 : ∀ w ∈ wsX11_standing_r2, w ∈ wsX11_findings := List.forall_mem_cons.mpr ⟨(k_wsX11_findings_wsX11_findings_r5 _ (List.mem_of_getElem? (i := 9) rfl)), List.forall_mem_cons.mpr ⟨(k_wsX11_findings_wsX11_findings_r5 _ (List.mem_of_getElem? (i := 10) rfl)), List.forall_mem_cons.mpr ⟨(k_wsX11_findings_wsX11_findings_r5 _ (List.mem_of_getElem? (i := 11) rfl)), List.forall_mem_cons.mpr ⟨(k_wsX11_findings_wsX11_findings_r5 _ (List.mem_of_getElem? (i := 12) rfl)), List.forall_mem_cons.mpr ⟨(k_wsX11_findings_wsX11_findings_r1 _ (List.mem_of_getElem? (i := 12) rfl)), List.forall_mem_cons.mpr ⟨(k_wsX11_findings_wsX11_findings_r1 _ (List.mem_of_getElem? (i := 3) rfl)), List.forall_mem_cons.mpr ⟨(k_wsX11_findings_wsX11_findings_r1 _ (List.mem_of_getElem? (i := 4) rfl)), List.forall_mem_cons.mpr ⟨(k_wsX11_findings_wsX11_findings_r1 _ (List.mem_of_getElem? (i := 6) rfl)), fun _ h => absurd h List.not_mem_nil⟩⟩⟩⟩⟩⟩⟩⟩
theorem ggX11_findings_X11_standing : GoodIn wsX11_findings wsX11_standing := goodIn_sub (fun w h => (List.mem_cons.mp h).elim (fun e => ft_me e (k_wsX11_findings_wsX11_findings_r5 _ (List.mem_of_getElem? (i := 0) rfl))) (fun h => (List.mem_append.mp h).elim (fun h => (List.mem_append.mp h).elim (fun h => s_X11_findings_X11_standing_wsX11_standing_r1 w h) (fun h => s_X11_findings_X11_standing_wsX11_standing_r2 w h)) (fun h => k_wsX11_findings_wsX110 w h))) gw_wsX11_standing
theorem gX11_findings_X11_standing : GoodIn wsX11_findings (wsV RX11 274 RX11 yX11_standing wsX11_standing) := goodIn_app (goodIn_sub (List.forall_mem_cons.mpr ⟨(k_wsX11_findings_wsX11_findings_r4 _ (List.mem_of_getElem? (i := 21) rfl)), List.forall_mem_cons.mpr ⟨(k_wsX11_findings_wsX11_findings_r4 _ (List.mem_of_getElem? (i := 22) rfl)), List.forall_mem_cons.mpr ⟨(k_wsX11_findings_wsX11_findings_r4 _ (List.mem_of_getElem? (i := 23) rfl)), List.forall_mem_cons.mpr ⟨(k_wsX11_findings_wsX11_findings_r1 _ (List.mem_of_getElem? (i := 5) rfl)), fun _ h => absurd h List.not_mem_nil⟩⟩⟩⟩) (by decide +kernel)) ggX11_findings_X11_standing
theorem dX11_findings_0 : decode cX11_findings 0 = .ok (.iload_n 1, 1) := by decide +kernel
theorem dX11_findings_1 : decode cX11_findings 1 = .ok (.i2l, 1) := by decide +kernel
theorem dX11_findings_2 : decode cX11_findings 2 = .ok (.lconst 0, 1) := by decide +kernel
theorem dX11_findings_3 : decode cX11_findings 3 = .ok (.ldc2_w 227, 3) := by decide +kernel
theorem dX11_findings_6 : decode cX11_findings 6 = .ok (.invokestatic 91, 3) := by decide +kernel
theorem dX11_findings_9 : decode cX11_findings 9 = .ok (.ifCond .ne 6, 3) := by decide +kernel
theorem dX11_findings_12 : decode cX11_findings 12 = .ok (.ldc 95, 2) := by decide +kernel
theorem dX11_findings_14 : decode cX11_findings 14 = .ok (.ireturn, 1) := by decide +kernel
theorem dX11_findings_15 : decode cX11_findings 15 = .ok (.aload_n 0, 1) := by decide +kernel
theorem dX11_findings_16 : decode cX11_findings 16 = .ok (.invokevirtual 255, 3) := by decide +kernel
theorem dX11_findings_19 : decode cX11_findings 19 = .ok (.iconst 0, 1) := by decide +kernel
theorem dX11_findings_20 : decode cX11_findings 20 = .ok (.istore_n 2, 1) := by decide +kernel
theorem dX11_findings_21 : decode cX11_findings 21 = .ok (.iconst 0, 1) := by decide +kernel
theorem dX11_findings_22 : decode cX11_findings 22 = .ok (.istore_n 3, 1) := by decide +kernel
theorem dX11_findings_23 : decode cX11_findings 23 = .ok (.iload_n 3, 1) := by decide +kernel
theorem dX11_findings_24 : decode cX11_findings 24 = .ok (.aload_n 0, 1) := by decide +kernel
theorem dX11_findings_25 : decode cX11_findings 25 = .ok (.getfield 238, 3) := by decide +kernel
theorem dX11_findings_28 : decode cX11_findings 28 = .ok (.if_icmp .ge 25, 3) := by decide +kernel
theorem dX11_findings_31 : decode cX11_findings 31 = .ok (.iload_n 2, 1) := by decide +kernel
theorem dX11_findings_32 : decode cX11_findings 32 = .ok (.aload_n 0, 1) := by decide +kernel
theorem dX11_findings_33 : decode cX11_findings 33 = .ok (.iload_n 3, 1) := by decide +kernel
theorem dX11_findings_34 : decode cX11_findings 34 = .ok (.invokevirtual 271, 3) := by decide +kernel
theorem dX11_findings_37 : decode cX11_findings 37 = .ok (.ifCond .eq 7, 3) := by decide +kernel
theorem dX11_findings_40 : decode cX11_findings 40 = .ok (.iconst 1, 1) := by decide +kernel
theorem dX11_findings_41 : decode cX11_findings 41 = .ok (.goto 4, 3) := by decide +kernel
theorem dX11_findings_44 : decode cX11_findings 44 = .ok (.iconst 0, 1) := by decide +kernel
theorem dX11_findings_45 : decode cX11_findings 45 = .ok (.iadd, 1) := by decide +kernel
theorem dX11_findings_46 : decode cX11_findings 46 = .ok (.istore_n 2, 1) := by decide +kernel
theorem dX11_findings_47 : decode cX11_findings 47 = .ok (.iinc 3 1, 3) := by decide +kernel
theorem dX11_findings_50 : decode cX11_findings 50 = .ok (.goto (-27), 3) := by decide +kernel
theorem dX11_findings_53 : decode cX11_findings 53 = .ok (.iload_n 1, 1) := by decide +kernel
theorem dX11_findings_54 : decode cX11_findings 54 = .ok (.iconst 3, 1) := by decide +kernel
theorem dX11_findings_55 : decode cX11_findings 55 = .ok (.if_icmp .ne 7, 3) := by decide +kernel
theorem dX11_findings_58 : decode cX11_findings 58 = .ok (.iload_n 2, 1) := by decide +kernel
theorem dX11_findings_59 : decode cX11_findings 59 = .ok (.goto 8, 3) := by decide +kernel
theorem dX11_findings_62 : decode cX11_findings 62 = .ok (.aload_n 0, 1) := by decide +kernel
theorem dX11_findings_63 : decode cX11_findings 63 = .ok (.iload_n 1, 1) := by decide +kernel
theorem dX11_findings_64 : decode cX11_findings 64 = .ok (.invokevirtual 274, 3) := by decide +kernel
theorem dX11_findings_67 : decode cX11_findings 67 = .ok (.ireturn, 1) := by decide +kernel
theorem ggX11_widthFor_X11_setting : GoodIn wsX11_widthFor wsX11_setting := goodIn_sub (fun w h => (List.mem_cons.mp h).elim (fun e => ft_me e (k_wsX11_widthFor_wsX11_widthFor_r1 _ (List.mem_of_getElem? (i := 6) rfl))) (fun h => (List.mem_append.mp h).elim (fun h => (List.forall_mem_cons.mpr ⟨(k_wsX11_widthFor_wsX11_widthFor_r1 _ (List.mem_of_getElem? (i := 1) rfl)), fun _ h => absurd h List.not_mem_nil⟩) w h) (fun h => k_wsX11_widthFor_wsX110 w h))) gw_wsX11_setting
theorem gX11_widthFor_X11_setting : GoodIn wsX11_widthFor (wsV RX11 194 RX11 yX11_setting wsX11_setting) := goodIn_app (goodIn_sub (List.forall_mem_cons.mpr ⟨(k_wsX11_widthFor_wsX11_widthFor_r1 _ (List.mem_of_getElem? (i := 2) rfl)), List.forall_mem_cons.mpr ⟨(k_wsX11_widthFor_wsX11_widthFor_r1 _ (List.mem_of_getElem? (i := 3) rfl)), List.forall_mem_cons.mpr ⟨(k_wsX11_widthFor_wsX11_widthFor_r1 _ (List.mem_of_getElem? (i := 4) rfl)), List.forall_mem_cons.mpr ⟨(k_wsX11_widthFor_wsX11_widthFor_r1 _ (List.mem_of_getElem? (i := 5) rfl)), fun _ h => absurd h List.not_mem_nil⟩⟩⟩⟩) (by decide +kernel)) ggX11_widthFor_X11_setting
set_option maxRecDepth 20000 in
theorem s_X11_widthFor_X11_layEvents_wsX11_layEvents_r1 : ∀ w ∈ wsX11_layEvents_r1, w ∈ wsX11_widthFor := List.forall_mem_cons.mpr ⟨(k_wsX11_widthFor_wsX11_widthFor_r1 _ (List.mem_of_getElem? (i := 11) rfl)), List.forall_mem_cons.mpr ⟨(k_wsX11_widthFor_wsX11_widthFor_r1 _ (List.mem_of_getElem? (i := 12) rfl)), List.forall_mem_cons.mpr ⟨(k_wsX11_widthFor_wsX11_widthFor_r1 _ (List.mem_of_getElem? (i := 13) rfl)), List.forall_mem_cons.mpr ⟨(k_wsX11_widthFor_wsX11_widthFor_r1 _ (List.mem_of_getElem? (i := 14) rfl)), List.forall_mem_cons.mpr ⟨(k_wsX11_widthFor_wsX11_widthFor_r1 _ (List.mem_of_getElem? (i := 15) rfl)), List.forall_mem_cons.mpr ⟨(k_wsX11_widthFor_wsX11_widthFor_r1 _ (List.mem_of_getElem? (i := 16) rfl)), List.forall_mem_cons.mpr ⟨(k_wsX11_widthFor_wsX11_widthFor_r1 _ (List.mem_of_getElem? (i := 5) rfl)), List.forall_mem_cons.mpr ⟨(k_wsX11_widthFor_wsX11_widthFor_r1 _ (List.mem_of_getElem? (i := 17) rfl)), List.forall_mem_cons.mpr ⟨(k_wsX11_widthFor_wsX11_widthFor_r1 _ (List.mem_of_getElem? (i := 18) rfl)), List.forall_mem_cons.mpr ⟨(k_wsX11_widthFor_wsX11_widthFor_r1 _ (List.mem_of_getElem? (i := 19) rfl)), List.forall_mem_cons.mpr ⟨(k_wsX11_widthFor_wsX11_widthFor_r1 _ (List.mem_of_getElem? (i := 1) rfl)), List.forall_mem_cons.mpr ⟨(k_wsX11_widthFor_wsX11_widthFor_r1 _ (List.mem_of_getElem? (i := 20) rfl)), List.forall_mem_cons.mpr ⟨(k_wsX11_widthFor_wsX11_widthFor_r1 _ (List.mem_of_getElem? (i := 21) rfl)), List.forall_mem_cons.mpr ⟨(k_wsX11_widthFor_wsX11_widthFor_r1 _ (List.mem_of_getElem? (i := 22) rfl)), List.forall_mem_cons.mpr ⟨(k_wsX11_widthFor_wsX11_widthFor_r1 _ (List.mem_of_getElem? (i := 23) rfl)), List.forall_mem_cons.mpr ⟨(k_wsX11_widthFor_wsX11_widthFor_r2 _ (List.mem_of_getElem? (i := 0) rfl)), List.forall_mem_cons.mpr ⟨(k_wsX11_widthFor_wsX11_widthFor_r2 _ (List.mem_of_getElem? (i := 1) rfl)), List.forall_mem_cons.mpr ⟨(k_wsX11_widthFor_wsX11_widthFor_r2 _ (List.mem_of_getElem? (i := 2) rfl)), List.forall_mem_cons.mpr ⟨(k_wsX11_widthFor_wsX11_widthFor_r2 _ (List.mem_of_getElem? (i := 3) rfl)), List.forall_mem_cons.mpr ⟨(k_wsX11_widthFor_wsX11_widthFor_r2 _ (List.mem_of_getElem? (i := 4) rfl)), List.forall_mem_cons.mpr ⟨(k_wsX11_widthFor_wsX11_widthFor_r2 _ (List.mem_of_getElem? (i := 5) rfl)), List.forall_mem_cons.mpr ⟨(k_wsX11_widthFor_wsX11_widthFor_r2 _ (List.mem_of_getElem? (i := 6) rfl)), List.forall_mem_cons.mpr ⟨(k_wsX11_widthFor_wsX11_widthFor_r2 _ (List.mem_of_getElem? (i := 7) rfl)), List.forall_mem_cons.mpr ⟨(k_wsX11_widthFor_wsX11_widthFor_r2 _ (List.mem_of_getElem? (i := 8) rfl)), fun _ h => absurd h List.not_mem_nil⟩⟩⟩⟩⟩⟩⟩⟩⟩⟩⟩⟩⟩⟩⟩⟩⟩⟩⟩⟩⟩⟩⟩⟩
set_option maxRecDepth 20000 in
theorem s_X11_widthFor_X11_layEvents_wsX11_layEvents_r2 : ∀ w ∈ wsX11_layEvents_r2, w ∈ wsX11_widthFor := List.forall_mem_cons.mpr ⟨(k_wsX11_widthFor_wsX11_widthFor_r2 _ (List.mem_of_getElem? (i := 9) rfl)), List.forall_mem_cons.mpr ⟨(k_wsX11_widthFor_wsX11_widthFor_r2 _ (List.mem_of_getElem? (i := 10) rfl)), List.forall_mem_cons.mpr ⟨(k_wsX11_widthFor_wsX11_widthFor_r1 _ (List.mem_of_getElem? (i := 2) rfl)), List.forall_mem_cons.mpr ⟨(k_wsX11_widthFor_wsX11_widthFor_r1 _ (List.mem_of_getElem? (i := 3) rfl)), List.forall_mem_cons.mpr ⟨(k_wsX11_widthFor_wsX11_widthFor_r1 _ (List.mem_of_getElem? (i := 4) rfl)), List.forall_mem_cons.mpr ⟨(k_wsX11_widthFor_wsX11_widthFor_r1 _ (List.mem_of_getElem? (i := 6) rfl)), List.forall_mem_cons.mpr ⟨(k_wsX11_widthFor_wsX11_widthFor_r2 _ (List.mem_of_getElem? (i := 11) rfl)), List.forall_mem_cons.mpr ⟨(k_wsX11_widthFor_wsX11_widthFor_r2 _ (List.mem_of_getElem? (i := 12) rfl)), List.forall_mem_cons.mpr ⟨(k_wsX11_widthFor_wsX11_widthFor_r2 _ (List.mem_of_getElem? (i := 13) rfl)), List.forall_mem_cons.mpr ⟨(k_wsX11_widthFor_wsX11_widthFor_r2 _ (List.mem_of_getElem? (i := 14) rfl)), List.forall_mem_cons.mpr ⟨(k_wsX11_widthFor_wsX11_widthFor_r2 _ (List.mem_of_getElem? (i := 15) rfl)), List.forall_mem_cons.mpr ⟨(k_wsX11_widthFor_wsX11_widthFor_r2 _ (List.mem_of_getElem? (i := 16) rfl)), List.forall_mem_cons.mpr ⟨(k_wsX11_widthFor_wsX11_widthFor_r2 _ (List.mem_of_getElem? (i := 17) rfl)), List.forall_mem_cons.mpr ⟨(k_wsX11_widthFor_wsX11_widthFor_r2 _ (List.mem_of_getElem? (i := 18) rfl)), List.forall_mem_cons.mpr ⟨(k_wsX11_widthFor_wsX11_widthFor_r2 _ (List.mem_of_getElem? (i := 19) rfl)), List.forall_mem_cons.mpr ⟨(k_wsX11_widthFor_wsX11_widthFor_r2 _ (List.mem_of_getElem? (i := 20) rfl)), List.forall_mem_cons.mpr ⟨(k_wsX11_widthFor_wsX11_widthFor_r2 _ (List.mem_of_getElem? (i := 21) rfl)), List.forall_mem_cons.mpr ⟨(k_wsX11_widthFor_wsX11_widthFor_r2 _ (List.mem_of_getElem? (i := 22) rfl)), List.forall_mem_cons.mpr ⟨(k_wsX11_widthFor_wsX11_widthFor_r2 _ (List.mem_of_getElem? (i := 23) rfl)), List.forall_mem_cons.mpr ⟨(k_wsX11_widthFor_wsX11_widthFor_r3 _ (List.mem_of_getElem? (i := 0) rfl)), List.forall_mem_cons.mpr ⟨(k_wsX11_widthFor_wsX11_widthFor_r3 _ (List.mem_of_getElem? (i := 1) rfl)), List.forall_mem_cons.mpr ⟨(k_wsX11_widthFor_wsX11_widthFor_r3 _ (List.mem_of_getElem? (i := 2) rfl)), List.forall_mem_cons.mpr ⟨(k_wsX11_widthFor_wsX11_widthFor_r3 _ (List.mem_of_getElem? (i := 3) rfl)), List.forall_mem_cons.mpr ⟨(k_wsX11_widthFor_wsX11_widthFor_r3 _ (List.mem_of_getElem? (i := 4) rfl)), fun _ h => absurd h List.not_mem_nil⟩⟩⟩⟩⟩⟩⟩⟩⟩⟩⟩⟩⟩⟩⟩⟩⟩⟩⟩⟩⟩⟩⟩⟩
set_option maxRecDepth 20000 in
theorem s_X11_widthFor_X11_layEvents_wsX11_layEvents_r3 : ∀ w ∈ wsX11_layEvents_r3, w ∈ wsX11_widthFor := List.forall_mem_cons.mpr ⟨(k_wsX11_widthFor_wsX11_widthFor_r3 _ (List.mem_of_getElem? (i := 5) rfl)), List.forall_mem_cons.mpr ⟨(k_wsX11_widthFor_wsX11_widthFor_r3 _ (List.mem_of_getElem? (i := 6) rfl)), List.forall_mem_cons.mpr ⟨(k_wsX11_widthFor_wsX11_widthFor_r3 _ (List.mem_of_getElem? (i := 7) rfl)), List.forall_mem_cons.mpr ⟨(k_wsX11_widthFor_wsX11_widthFor_r3 _ (List.mem_of_getElem? (i := 8) rfl)), List.forall_mem_cons.mpr ⟨(k_wsX11_widthFor_wsX11_widthFor_r3 _ (List.mem_of_getElem? (i := 9) rfl)), List.forall_mem_cons.mpr ⟨(k_wsX11_widthFor_wsX11_widthFor_r3 _ (List.mem_of_getElem? (i := 10) rfl)), List.forall_mem_cons.mpr ⟨(k_wsX11_widthFor_wsX11_widthFor_r3 _ (List.mem_of_getElem? (i := 11) rfl)), List.forall_mem_cons.mpr ⟨(k_wsX11_widthFor_wsX11_widthFor_r3 _ (List.mem_of_getElem? (i := 12) rfl)), List.forall_mem_cons.mpr ⟨(k_wsX11_widthFor_wsX11_widthFor_r3 _ (List.mem_of_getElem? (i := 13) rfl)), List.forall_mem_cons.mpr ⟨(k_wsX11_widthFor_wsX11_widthFor_r3 _ (List.mem_of_getElem? (i := 14) rfl)), List.forall_mem_cons.mpr ⟨(k_wsX11_widthFor_wsX11_widthFor_r3 _ (List.mem_of_getElem? (i := 15) rfl)), List.forall_mem_cons.mpr ⟨(k_wsX11_widthFor_wsX11_widthFor_r3 _ (List.mem_of_getElem? (i := 16) rfl)), List.forall_mem_cons.mpr ⟨(k_wsX11_widthFor_wsX11_widthFor_r3 _ (List.mem_of_getElem? (i := 17) rfl)), List.forall_mem_cons.mpr ⟨(k_wsX11_widthFor_wsX11_widthFor_r3 _ (List.mem_of_getElem? (i := 18) rfl)), List.forall_mem_cons.mpr ⟨(k_wsX11_widthFor_wsX11_widthFor_r3 _ (List.mem_of_getElem? (i := 19) rfl)), List.forall_mem_cons.mpr ⟨(k_wsX11_widthFor_wsX11_widthFor_r3 _ (List.mem_of_getElem? (i := 20) rfl)), List.forall_mem_cons.mpr ⟨(k_wsX11_widthFor_wsX11_widthFor_r3 _ (List.mem_of_getElem? (i := 21) rfl)), List.forall_mem_cons.mpr ⟨(k_wsX11_widthFor_wsX11_widthFor_r3 _ (List.mem_of_getElem? (i := 22) rfl)), List.forall_mem_cons.mpr ⟨(k_wsX11_widthFor_wsX11_widthFor_r3 _ (List.mem_of_getElem? (i := 23) rfl)), List.forall_mem_cons.mpr ⟨(k_wsX11_widthFor_wsX11_widthFor_r4 _ (List.mem_of_getElem? (i := 0) rfl)), List.forall_mem_cons.mpr ⟨(k_wsX11_widthFor_wsX11_widthFor_r4 _ (List.mem_of_getElem? (i := 1) rfl)), List.forall_mem_cons.mpr ⟨(k_wsX11_widthFor_wsX11_widthFor_r4 _ (List.mem_of_getElem? (i := 2) rfl)), List.forall_mem_cons.mpr ⟨(k_wsX11_widthFor_wsX11_widthFor_r4 _ (List.mem_of_getElem? (i := 3) rfl)), List.forall_mem_cons.mpr ⟨(k_wsX11_widthFor_wsX11_widthFor_r4 _ (List.mem_of_getElem? (i := 4) rfl)), fun _ h => absurd h List.not_mem_nil⟩⟩⟩⟩⟩⟩⟩⟩⟩⟩⟩⟩⟩⟩⟩⟩⟩⟩⟩⟩⟩⟩⟩⟩
set_option maxRecDepth 20000 in
theorem s_X11_widthFor_X11_layEvents_wsX11_layEvents_r4 : ∀ w ∈ wsX11_layEvents_r4, w ∈ wsX11_widthFor := List.forall_mem_cons.mpr ⟨(k_wsX11_widthFor_wsX11_widthFor_r4 _ (List.mem_of_getElem? (i := 5) rfl)), List.forall_mem_cons.mpr ⟨(k_wsX11_widthFor_wsX11_widthFor_r4 _ (List.mem_of_getElem? (i := 6) rfl)), List.forall_mem_cons.mpr ⟨(k_wsX11_widthFor_wsX11_widthFor_r4 _ (List.mem_of_getElem? (i := 7) rfl)), List.forall_mem_cons.mpr ⟨(k_wsX11_widthFor_wsX11_widthFor_r4 _ (List.mem_of_getElem? (i := 8) rfl)), List.forall_mem_cons.mpr ⟨(k_wsX11_widthFor_wsX11_widthFor_r4 _ (List.mem_of_getElem? (i := 9) rfl)), List.forall_mem_cons.mpr ⟨(k_wsX11_widthFor_wsX11_widthFor_r4 _ (List.mem_of_getElem? (i := 10) rfl)), List.forall_mem_cons.mpr ⟨(k_wsX11_widthFor_wsX11_widthFor_r4 _ (List.mem_of_getElem? (i := 11) rfl)), List.forall_mem_cons.mpr ⟨(k_wsX11_widthFor_wsX11_widthFor_r4 _ (List.mem_of_getElem? (i := 12) rfl)), fun _ h => absurd h List.not_mem_nil⟩⟩⟩⟩⟩⟩⟩⟩
theorem ggX11_widthFor_X11_layEvents : GoodIn wsX11_widthFor wsX11_layEvents := goodIn_sub (fun w h => (List.mem_cons.mp h).elim (fun e => ft_me e (k_wsX11_widthFor_wsX11_widthFor_r1 _ (List.mem_of_getElem? (i := 10) rfl))) (fun h => (List.mem_append.mp h).elim (fun h => (List.mem_append.mp h).elim (fun h => s_X11_widthFor_X11_layEvents_wsX11_layEvents_r1 w h) (fun h => (List.mem_append.mp h).elim (fun h => s_X11_widthFor_X11_layEvents_wsX11_layEvents_r2 w h) (fun h => (List.mem_append.mp h).elim (fun h => s_X11_widthFor_X11_layEvents_wsX11_layEvents_r3 w h) (fun h => s_X11_widthFor_X11_layEvents_wsX11_layEvents_r4 w h)))) (fun h => k_wsX11_widthFor_wsX110 w h))) gw_wsX11_layEvents
theorem gX11_widthFor_X11_layEvents : GoodIn wsX11_widthFor (wsV RX11 255 RX11 yX11_layEvents wsX11_layEvents) := goodIn_app (goodIn_sub (List.forall_mem_cons.mpr ⟨(k_wsX11_widthFor_wsX11_widthFor_r1 _ (List.mem_of_getElem? (i := 7) rfl)), List.forall_mem_cons.mpr ⟨(k_wsX11_widthFor_wsX11_widthFor_r1 _ (List.mem_of_getElem? (i := 8) rfl)), List.forall_mem_cons.mpr ⟨(k_wsX11_widthFor_wsX11_widthFor_r1 _ (List.mem_of_getElem? (i := 9) rfl)), List.forall_mem_cons.mpr ⟨(k_wsX11_widthFor_wsX11_widthFor_r1 _ (List.mem_of_getElem? (i := 5) rfl)), fun _ h => absurd h List.not_mem_nil⟩⟩⟩⟩) (by decide +kernel)) ggX11_widthFor_X11_layEvents
set_option maxRecDepth 20000 in
theorem s_X11_widthFor_X11_standing_wsX11_standing_r1 : ∀ w ∈ wsX11_standing_r1, w ∈ wsX11_widthFor := List.forall_mem_cons.mpr ⟨(k_wsX11_widthFor_wsX11_widthFor_r1 _ (List.mem_of_getElem? (i := 1) rfl)), List.forall_mem_cons.mpr ⟨(k_wsX11_widthFor_wsX11_widthFor_r2 _ (List.mem_of_getElem? (i := 7) rfl)), List.forall_mem_cons.mpr ⟨(k_wsX11_widthFor_wsX11_widthFor_r2 _ (List.mem_of_getElem? (i := 8) rfl)), List.forall_mem_cons.mpr ⟨(k_wsX11_widthFor_wsX11_widthFor_r2 _ (List.mem_of_getElem? (i := 9) rfl)), List.forall_mem_cons.mpr ⟨(k_wsX11_widthFor_wsX11_widthFor_r1 _ (List.mem_of_getElem? (i := 5) rfl)), List.forall_mem_cons.mpr ⟨(k_wsX11_widthFor_wsX11_widthFor_r2 _ (List.mem_of_getElem? (i := 10) rfl)), List.forall_mem_cons.mpr ⟨(k_wsX11_widthFor_wsX11_widthFor_r4 _ (List.mem_of_getElem? (i := 17) rfl)), List.forall_mem_cons.mpr ⟨(k_wsX11_widthFor_wsX11_widthFor_r4 _ (List.mem_of_getElem? (i := 18) rfl)), List.forall_mem_cons.mpr ⟨(k_wsX11_widthFor_wsX11_widthFor_r4 _ (List.mem_of_getElem? (i := 19) rfl)), List.forall_mem_cons.mpr ⟨(k_wsX11_widthFor_wsX11_widthFor_r4 _ (List.mem_of_getElem? (i := 20) rfl)), List.forall_mem_cons.mpr ⟨(k_wsX11_widthFor_wsX11_widthFor_r4 _ (List.mem_of_getElem? (i := 21) rfl)), List.forall_mem_cons.mpr ⟨(k_wsX11_widthFor_wsX11_widthFor_r4 _ (List.mem_of_getElem? (i := 22) rfl)), List.forall_mem_cons.mpr ⟨(k_wsX11_widthFor_wsX11_widthFor_r4 _ (List.mem_of_getElem? (i := 23) rfl)), List.forall_mem_cons.mpr ⟨(k_wsX11_widthFor_wsX11_widthFor_r5 _ (List.mem_of_getElem? (i := 0) rfl)), List.forall_mem_cons.mpr ⟨(k_wsX11_widthFor_wsX11_widthFor_r1 _ (List.mem_of_getElem? (i := 11) rfl)), List.forall_mem_cons.mpr ⟨(k_wsX11_widthFor_wsX11_widthFor_r3 _ (List.mem_of_getElem? (i := 23) rfl)), List.forall_mem_cons.mpr ⟨(k_wsX11_widthFor_wsX11_widthFor_r3 _ (List.mem_of_getElem? (i := 19) rfl)), List.forall_mem_cons.mpr ⟨(k_wsX11_widthFor_wsX11_widthFor_r4 _ (List.mem_of_getElem? (i := 4) rfl)), List.forall_mem_cons.mpr ⟨(k_wsX11_widthFor_wsX11_widthFor_r4 _ (List.mem_of_getElem? (i := 5) rfl)), List.forall_mem_cons.mpr ⟨(k_wsX11_widthFor_wsX11_widthFor_r4 _ (List.mem_of_getElem? (i := 6) rfl)), List.forall_mem_cons.mpr ⟨(k_wsX11_widthFor_wsX11_widthFor_r1 _ (List.mem_of_getElem? (i := 2) rfl)), List.forall_mem_cons.mpr ⟨(k_wsX11_widthFor_wsX11_widthFor_r1 _ (List.mem_of_getElem? (i := 3) rfl)), List.forall_mem_cons.mpr ⟨(k_wsX11_widthFor_wsX11_widthFor_r1 _ (List.mem_of_getElem? (i := 4) rfl)), List.forall_mem_cons.mpr ⟨(k_wsX11_widthFor_wsX11_widthFor_r1 _ (List.mem_of_getElem? (i := 6) rfl)), fun _ h => absurd h List.not_mem_nil⟩⟩⟩⟩⟩⟩⟩⟩⟩⟩⟩⟩⟩⟩⟩⟩⟩⟩⟩⟩⟩⟩⟩⟩
set_option maxRecDepth 20000 in
theorem s_X11_widthFor_X11_standing_wsX11_standing_r2 : ∀ w ∈ wsX11_standing_r2, w ∈ wsX11_widthFor := List.forall_mem_cons.mpr ⟨(k_wsX11_widthFor_wsX11_widthFor_r5 _ (List.mem_of_getElem? (i := 1) rfl)), List.forall_mem_cons.mpr ⟨(k_wsX11_widthFor_wsX11_widthFor_r5 _ (List.mem_of_getElem? (i := 2) rfl)), List.forall_mem_cons.mpr ⟨(k_wsX11_widthFor_wsX11_widthFor_r5 _ (List.mem_of_getElem? (i := 3) rfl)), List.forall_mem_cons.mpr ⟨(k_wsX11_widthFor_wsX11_widthFor_r5 _ (List.mem_of_getElem? (i := 4) rfl)), List.forall_mem_cons.mpr ⟨(k_wsX11_widthFor_wsX11_widthFor_r1 _ (List.mem_of_getElem? (i := 13) rfl)), List.forall_mem_cons.mpr ⟨(k_wsX11_widthFor_wsX11_widthFor_r5 _ (List.mem_of_getElem? (i := 5) rfl)), List.forall_mem_cons.mpr ⟨(k_wsX11_widthFor_wsX11_widthFor_r5 _ (List.mem_of_getElem? (i := 6) rfl)), List.forall_mem_cons.mpr ⟨(k_wsX11_widthFor_wsX11_widthFor_r5 _ (List.mem_of_getElem? (i := 7) rfl)), fun _ h => absurd h List.not_mem_nil⟩⟩⟩⟩⟩⟩⟩⟩
theorem ggX11_widthFor_X11_standing : GoodIn wsX11_widthFor wsX11_standing := goodIn_sub (fun w h => (List.mem_cons.mp h).elim (fun e => ft_me e (k_wsX11_widthFor_wsX11_widthFor_r4 _ (List.mem_of_getElem? (i := 16) rfl))) (fun h => (List.mem_append.mp h).elim (fun h => (List.mem_append.mp h).elim (fun h => s_X11_widthFor_X11_standing_wsX11_standing_r1 w h) (fun h => s_X11_widthFor_X11_standing_wsX11_standing_r2 w h)) (fun h => k_wsX11_widthFor_wsX110 w h))) gw_wsX11_standing
theorem gX11_widthFor_X11_standing : GoodIn wsX11_widthFor (wsV RX11 274 RX11 yX11_standing wsX11_standing) := goodIn_app (goodIn_sub (List.forall_mem_cons.mpr ⟨(k_wsX11_widthFor_wsX11_widthFor_r4 _ (List.mem_of_getElem? (i := 13) rfl)), List.forall_mem_cons.mpr ⟨(k_wsX11_widthFor_wsX11_widthFor_r4 _ (List.mem_of_getElem? (i := 14) rfl)), List.forall_mem_cons.mpr ⟨(k_wsX11_widthFor_wsX11_widthFor_r4 _ (List.mem_of_getElem? (i := 15) rfl)), List.forall_mem_cons.mpr ⟨(k_wsX11_widthFor_wsX11_widthFor_r1 _ (List.mem_of_getElem? (i := 5) rfl)), fun _ h => absurd h List.not_mem_nil⟩⟩⟩⟩) (by decide +kernel)) ggX11_widthFor_X11_standing
theorem dX11_widthFor_0 : decode cX11_widthFor 0 = .ok (.aload_n 0, 1) := by decide +kernel
theorem dX11_widthFor_1 : decode cX11_widthFor 1 = .ok (.iconst 0, 1) := by decide +kernel
theorem dX11_widthFor_2 : decode cX11_widthFor 2 = .ok (.invokevirtual 194, 3) := by decide +kernel
theorem dX11_widthFor_5 : decode cX11_widthFor 5 = .ok (.istore_n 1, 1) := by decide +kernel
theorem dX11_widthFor_6 : decode cX11_widthFor 6 = .ok (.ldc 173, 2) := by decide +kernel
theorem dX11_widthFor_8 : decode cX11_widthFor 8 = .ok (.istore_n 2, 1) := by decide +kernel
theorem dX11_widthFor_9 : decode cX11_widthFor 9 = .ok (.bipush 20, 2) := by decide +kernel
theorem dX11_widthFor_11 : decode cX11_widthFor 11 = .ok (.istore_n 3, 1) := by decide +kernel
theorem dX11_widthFor_12 : decode cX11_widthFor 12 = .ok (.iload_n 3, 1) := by decide +kernel
theorem dX11_widthFor_13 : decode cX11_widthFor 13 = .ok (.ifCond .le 41, 3) := by decide +kernel
theorem dX11_widthFor_16 : decode cX11_widthFor 16 = .ok (.aload_n 0, 1) := by decide +kernel
theorem dX11_widthFor_17 : decode cX11_widthFor 17 = .ok (.getfield 7, 3) := by decide +kernel
theorem dX11_widthFor_20 : decode cX11_widthFor 20 = .ok (.bipush 44, 2) := by decide +kernel
theorem dX11_widthFor_22 : decode cX11_widthFor 22 = .ok (.iload_n 3, 1) := by decide +kernel
theorem dX11_widthFor_23 : decode cX11_widthFor 23 = .ok (.iastore, 1) := by decide +kernel
theorem dX11_widthFor_24 : decode cX11_widthFor 24 = .ok (.aload_n 0, 1) := by decide +kernel
theorem dX11_widthFor_25 : decode cX11_widthFor 25 = .ok (.invokevirtual 255, 3) := by decide +kernel
theorem dX11_widthFor_28 : decode cX11_widthFor 28 = .ok (.aload_n 0, 1) := by decide +kernel
theorem dX11_widthFor_29 : decode cX11_widthFor 29 = .ok (.iconst 1, 1) := by decide +kernel
theorem dX11_widthFor_30 : decode cX11_widthFor 30 = .ok (.invokevirtual 274, 3) := by decide +kernel
theorem dX11_widthFor_33 : decode cX11_widthFor 33 = .ok (.aload_n 0, 1) := by decide +kernel
theorem dX11_widthFor_34 : decode cX11_widthFor 34 = .ok (.iconst 2, 1) := by decide +kernel
theorem dX11_widthFor_35 : decode cX11_widthFor 35 = .ok (.invokevirtual 274, 3) := by decide +kernel
theorem dX11_widthFor_38 : decode cX11_widthFor 38 = .ok (.iadd, 1) := by decide +kernel
theorem dX11_widthFor_39 : decode cX11_widthFor 39 = .ok (.ifCond .ne 7, 3) := by decide +kernel
theorem dX11_widthFor_42 : decode cX11_widthFor 42 = .ok (.iload_n 3, 1) := by decide +kernel
theorem dX11_widthFor_43 : decode cX11_widthFor 43 = .ok (.goto 4, 3) := by decide +kernel
theorem dX11_widthFor_46 : decode cX11_widthFor 46 = .ok (.iload_n 2, 1) := by decide +kernel
theorem dX11_widthFor_47 : decode cX11_widthFor 47 = .ok (.istore_n 2, 1) := by decide +kernel
theorem dX11_widthFor_48 : decode cX11_widthFor 48 = .ok (.iinc 3 (-1), 3) := by decide +kernel
theorem dX11_widthFor_51 : decode cX11_widthFor 51 = .ok (.goto (-39), 3) := by decide +kernel
theorem dX11_widthFor_54 : decode cX11_widthFor 54 = .ok (.aload_n 0, 1) := by decide +kernel
theorem dX11_widthFor_55 : decode cX11_widthFor 55 = .ok (.getfield 7, 3) := by decide +kernel
theorem dX11_widthFor_58 : decode cX11_widthFor 58 = .ok (.bipush 44, 2) := by decide +kernel
theorem dX11_widthFor_60 : decode cX11_widthFor 60 = .ok (.iload_n 1, 1) := by decide +kernel
theorem dX11_widthFor_61 : decode cX11_widthFor 61 = .ok (.iastore, 1) := by decide +kernel
theorem dX11_widthFor_62 : decode cX11_widthFor 62 = .ok (.iload_n 2, 1) := by decide +kernel
theorem dX11_widthFor_63 : decode cX11_widthFor 63 = .ok (.ireturn, 1) := by decide +kernel
theorem ggX11_keep_X11_change : GoodIn wsX11_keep wsX11_change := goodIn_sub (fun w h => (List.mem_cons.mp h).elim (fun e => ft_me e (k_wsX11_keep_wsX11_keep_r1 _ (List.mem_of_getElem? (i := 5) rfl))) (fun h => (List.mem_append.mp h).elim (fun h => (List.forall_mem_cons.mpr ⟨(k_wsX11_keep_wsX11_keep_r1 _ (List.mem_of_getElem? (i := 6) rfl)), List.forall_mem_cons.mpr ⟨(k_wsX11_keep_wsX11_keep_r1 _ (List.mem_of_getElem? (i := 7) rfl)), List.forall_mem_cons.mpr ⟨(k_wsX11_keep_wsX11_keep_r1 _ (List.mem_of_getElem? (i := 0) rfl)), fun _ h => absurd h List.not_mem_nil⟩⟩⟩) w h) (fun h => k_wsX11_keep_wsX110 w h))) gw_wsX11_change
theorem gX11_keep_X11_change : GoodIn wsX11_keep (wsV RX11 174 RX11 yX11_change wsX11_change) := goodIn_app (goodIn_sub (List.forall_mem_cons.mpr ⟨(k_wsX11_keep_wsX11_keep_r1 _ (List.mem_of_getElem? (i := 1) rfl)), List.forall_mem_cons.mpr ⟨(k_wsX11_keep_wsX11_keep_r1 _ (List.mem_of_getElem? (i := 2) rfl)), List.forall_mem_cons.mpr ⟨(k_wsX11_keep_wsX11_keep_r1 _ (List.mem_of_getElem? (i := 3) rfl)), List.forall_mem_cons.mpr ⟨(k_wsX11_keep_wsX11_keep_r1 _ (List.mem_of_getElem? (i := 4) rfl)), fun _ h => absurd h List.not_mem_nil⟩⟩⟩⟩) (by decide +kernel)) ggX11_keep_X11_change
set_option maxRecDepth 20000 in
theorem s_X11_keep_X11_layTrace_wsX11_layTrace_r1 : ∀ w ∈ wsX11_layTrace_r1, w ∈ wsX11_keep := List.forall_mem_cons.mpr ⟨(k_wsX11_keep_wsX11_keep_r1 _ (List.mem_of_getElem? (i := 12) rfl)), List.forall_mem_cons.mpr ⟨(k_wsX11_keep_wsX11_keep_r1 _ (List.mem_of_getElem? (i := 13) rfl)), List.forall_mem_cons.mpr ⟨(k_wsX11_keep_wsX11_keep_r1 _ (List.mem_of_getElem? (i := 0) rfl)), List.forall_mem_cons.mpr ⟨(k_wsX11_keep_wsX11_keep_r1 _ (List.mem_of_getElem? (i := 14) rfl)), List.forall_mem_cons.mpr ⟨(k_wsX11_keep_wsX11_keep_r1 _ (List.mem_of_getElem? (i := 15) rfl)), List.forall_mem_cons.mpr ⟨(k_wsX11_keep_wsX11_keep_r1 _ (List.mem_of_getElem? (i := 16) rfl)), List.forall_mem_cons.mpr ⟨(k_wsX11_keep_wsX11_keep_r1 _ (List.mem_of_getElem? (i := 17) rfl)), List.forall_mem_cons.mpr ⟨(k_wsX11_keep_wsX11_keep_r1 _ (List.mem_of_getElem? (i := 18) rfl)), List.forall_mem_cons.mpr ⟨(k_wsX11_keep_wsX11_keep_r1 _ (List.mem_of_getElem? (i := 19) rfl)), List.forall_mem_cons.mpr ⟨(k_wsX11_keep_wsX11_keep_r1 _ (List.mem_of_getElem? (i := 20) rfl)), List.forall_mem_cons.mpr ⟨(k_wsX11_keep_wsX11_keep_r1 _ (List.mem_of_getElem? (i := 21) rfl)), List.forall_mem_cons.mpr ⟨(k_wsX11_keep_wsX11_keep_r1 _ (List.mem_of_getElem? (i := 22) rfl)), List.forall_mem_cons.mpr ⟨(k_wsX11_keep_wsX11_keep_r1 _ (List.mem_of_getElem? (i := 23) rfl)), List.forall_mem_cons.mpr ⟨(k_wsX11_keep_wsX11_keep_r1 _ (List.mem_of_getElem? (i := 4) rfl)), List.forall_mem_cons.mpr ⟨(k_wsX11_keep_wsX11_keep_r2 _ (List.mem_of_getElem? (i := 0) rfl)), List.forall_mem_cons.mpr ⟨(k_wsX11_keep_wsX11_keep_r2 _ (List.mem_of_getElem? (i := 1) rfl)), List.forall_mem_cons.mpr ⟨(k_wsX11_keep_wsX11_keep_r2 _ (List.mem_of_getElem? (i := 2) rfl)), List.forall_mem_cons.mpr ⟨(k_wsX11_keep_wsX11_keep_r2 _ (List.mem_of_getElem? (i := 3) rfl)), List.forall_mem_cons.mpr ⟨(k_wsX11_keep_wsX11_keep_r2 _ (List.mem_of_getElem? (i := 4) rfl)), List.forall_mem_cons.mpr ⟨(k_wsX11_keep_wsX11_keep_r2 _ (List.mem_of_getElem? (i := 5) rfl)), List.forall_mem_cons.mpr ⟨(k_wsX11_keep_wsX11_keep_r2 _ (List.mem_of_getElem? (i := 6) rfl)), List.forall_mem_cons.mpr ⟨(k_wsX11_keep_wsX11_keep_r2 _ (List.mem_of_getElem? (i := 7) rfl)), List.forall_mem_cons.mpr ⟨(k_wsX11_keep_wsX11_keep_r2 _ (List.mem_of_getElem? (i := 8) rfl)), List.forall_mem_cons.mpr ⟨(k_wsX11_keep_wsX11_keep_r2 _ (List.mem_of_getElem? (i := 9) rfl)), fun _ h => absurd h List.not_mem_nil⟩⟩⟩⟩⟩⟩⟩⟩⟩⟩⟩⟩⟩⟩⟩⟩⟩⟩⟩⟩⟩⟩⟩⟩
set_option maxRecDepth 20000 in
theorem s_X11_keep_X11_layTrace_wsX11_layTrace_r2 : ∀ w ∈ wsX11_layTrace_r2, w ∈ wsX11_keep := List.forall_mem_cons.mpr ⟨(k_wsX11_keep_wsX11_keep_r2 _ (List.mem_of_getElem? (i := 10) rfl)), List.forall_mem_cons.mpr ⟨(k_wsX11_keep_wsX11_keep_r2 _ (List.mem_of_getElem? (i := 11) rfl)), List.forall_mem_cons.mpr ⟨(k_wsX11_keep_wsX11_keep_r2 _ (List.mem_of_getElem? (i := 12) rfl)), List.forall_mem_cons.mpr ⟨(k_wsX11_keep_wsX11_keep_r2 _ (List.mem_of_getElem? (i := 13) rfl)), List.forall_mem_cons.mpr ⟨(k_wsX11_keep_wsX11_keep_r2 _ (List.mem_of_getElem? (i := 14) rfl)), List.forall_mem_cons.mpr ⟨(k_wsX11_keep_wsX11_keep_r2 _ (List.mem_of_getElem? (i := 15) rfl)), List.forall_mem_cons.mpr ⟨(k_wsX11_keep_wsX11_keep_r2 _ (List.mem_of_getElem? (i := 16) rfl)), List.forall_mem_cons.mpr ⟨(k_wsX11_keep_wsX11_keep_r2 _ (List.mem_of_getElem? (i := 17) rfl)), List.forall_mem_cons.mpr ⟨(k_wsX11_keep_wsX11_keep_r2 _ (List.mem_of_getElem? (i := 18) rfl)), List.forall_mem_cons.mpr ⟨(k_wsX11_keep_wsX11_keep_r2 _ (List.mem_of_getElem? (i := 19) rfl)), List.forall_mem_cons.mpr ⟨(k_wsX11_keep_wsX11_keep_r2 _ (List.mem_of_getElem? (i := 20) rfl)), List.forall_mem_cons.mpr ⟨(k_wsX11_keep_wsX11_keep_r2 _ (List.mem_of_getElem? (i := 21) rfl)), List.forall_mem_cons.mpr ⟨(k_wsX11_keep_wsX11_keep_r2 _ (List.mem_of_getElem? (i := 22) rfl)), List.forall_mem_cons.mpr ⟨(k_wsX11_keep_wsX11_keep_r2 _ (List.mem_of_getElem? (i := 23) rfl)), List.forall_mem_cons.mpr ⟨(k_wsX11_keep_wsX11_keep_r3 _ (List.mem_of_getElem? (i := 0) rfl)), List.forall_mem_cons.mpr ⟨(k_wsX11_keep_wsX11_keep_r3 _ (List.mem_of_getElem? (i := 1) rfl)), List.forall_mem_cons.mpr ⟨(k_wsX11_keep_wsX11_keep_r3 _ (List.mem_of_getElem? (i := 2) rfl)), List.forall_mem_cons.mpr ⟨(k_wsX11_keep_wsX11_keep_r3 _ (List.mem_of_getElem? (i := 3) rfl)), List.forall_mem_cons.mpr ⟨(k_wsX11_keep_wsX11_keep_r3 _ (List.mem_of_getElem? (i := 4) rfl)), List.forall_mem_cons.mpr ⟨(k_wsX11_keep_wsX11_keep_r3 _ (List.mem_of_getElem? (i := 5) rfl)), List.forall_mem_cons.mpr ⟨(k_wsX11_keep_wsX11_keep_r3 _ (List.mem_of_getElem? (i := 6) rfl)), List.forall_mem_cons.mpr ⟨(k_wsX11_keep_wsX11_keep_r3 _ (List.mem_of_getElem? (i := 7) rfl)), List.forall_mem_cons.mpr ⟨(k_wsX11_keep_wsX11_keep_r3 _ (List.mem_of_getElem? (i := 8) rfl)), fun _ h => absurd h List.not_mem_nil⟩⟩⟩⟩⟩⟩⟩⟩⟩⟩⟩⟩⟩⟩⟩⟩⟩⟩⟩⟩⟩⟩⟩
theorem ggX11_keep_X11_layTrace : GoodIn wsX11_keep wsX11_layTrace := goodIn_sub (fun w h => (List.mem_cons.mp h).elim (fun e => ft_me e (k_wsX11_keep_wsX11_keep_r1 _ (List.mem_of_getElem? (i := 11) rfl))) (fun h => (List.mem_append.mp h).elim (fun h => (List.mem_append.mp h).elim (fun h => s_X11_keep_X11_layTrace_wsX11_layTrace_r1 w h) (fun h => s_X11_keep_X11_layTrace_wsX11_layTrace_r2 w h)) (fun h => k_wsX11_keep_wsX110 w h))) gw_wsX11_layTrace
theorem gX11_keep_X11_layTrace : GoodIn wsX11_keep (wsV RX11 229 RX11 yX11_layTrace wsX11_layTrace) := goodIn_app (goodIn_sub (List.forall_mem_cons.mpr ⟨(k_wsX11_keep_wsX11_keep_r1 _ (List.mem_of_getElem? (i := 8) rfl)), List.forall_mem_cons.mpr ⟨(k_wsX11_keep_wsX11_keep_r1 _ (List.mem_of_getElem? (i := 9) rfl)), List.forall_mem_cons.mpr ⟨(k_wsX11_keep_wsX11_keep_r1 _ (List.mem_of_getElem? (i := 10) rfl)), List.forall_mem_cons.mpr ⟨(k_wsX11_keep_wsX11_keep_r1 _ (List.mem_of_getElem? (i := 4) rfl)), fun _ h => absurd h List.not_mem_nil⟩⟩⟩⟩) (by decide +kernel)) ggX11_keep_X11_layTrace
theorem ggX11_keep_X11_samples : GoodIn wsX11_keep wsX11_samples := goodIn_sub (fun w h => (List.mem_cons.mp h).elim (fun e => ft_me e (k_wsX11_keep_wsX11_keep_r3 _ (List.mem_of_getElem? (i := 0) rfl))) (fun h => (List.mem_append.mp h).elim (fun h => (List.forall_mem_cons.mpr ⟨(k_wsX11_keep_wsX11_keep_r1 _ (List.mem_of_getElem? (i := 0) rfl)), fun _ h => absurd h List.not_mem_nil⟩) w h) (fun h => k_wsX11_keep_wsX110 w h))) gw_wsX11_samples
theorem gX11_keep_X11_samples : GoodIn wsX11_keep (wsV RX11 199 RX11 yX11_samples wsX11_samples) := goodIn_app (goodIn_sub (List.forall_mem_cons.mpr ⟨(k_wsX11_keep_wsX11_keep_r2 _ (List.mem_of_getElem? (i := 21) rfl)), List.forall_mem_cons.mpr ⟨(k_wsX11_keep_wsX11_keep_r2 _ (List.mem_of_getElem? (i := 22) rfl)), List.forall_mem_cons.mpr ⟨(k_wsX11_keep_wsX11_keep_r2 _ (List.mem_of_getElem? (i := 23) rfl)), List.forall_mem_cons.mpr ⟨(k_wsX11_keep_wsX11_keep_r1 _ (List.mem_of_getElem? (i := 4) rfl)), fun _ h => absurd h List.not_mem_nil⟩⟩⟩⟩) (by decide +kernel)) ggX11_keep_X11_samples
theorem ggX11_keep_X11_v : GoodIn wsX11_keep wsX11_v := goodIn_sub (fun w h => (List.mem_cons.mp h).elim (fun e => ft_me e (k_wsX11_keep_wsX11_keep_r3 _ (List.mem_of_getElem? (i := 12) rfl))) (fun h => (List.mem_append.mp h).elim (fun h => (List.forall_mem_cons.mpr ⟨(k_wsX11_keep_wsX11_keep_r1 _ (List.mem_of_getElem? (i := 13) rfl)), List.forall_mem_cons.mpr ⟨(k_wsX11_keep_wsX11_keep_r1 _ (List.mem_of_getElem? (i := 14) rfl)), List.forall_mem_cons.mpr ⟨(k_wsX11_keep_wsX11_keep_r2 _ (List.mem_of_getElem? (i := 20) rfl)), fun _ h => absurd h List.not_mem_nil⟩⟩⟩) w h) (fun h => k_wsX11_keep_wsX110 w h))) gw_wsX11_v
theorem gX11_keep_X11_v : GoodIn wsX11_keep (wsV RX11 232 RX11 yX11_v wsX11_v) := goodIn_app (goodIn_sub (List.forall_mem_cons.mpr ⟨(k_wsX11_keep_wsX11_keep_r3 _ (List.mem_of_getElem? (i := 9) rfl)), List.forall_mem_cons.mpr ⟨(k_wsX11_keep_wsX11_keep_r3 _ (List.mem_of_getElem? (i := 10) rfl)), List.forall_mem_cons.mpr ⟨(k_wsX11_keep_wsX11_keep_r3 _ (List.mem_of_getElem? (i := 11) rfl)), List.forall_mem_cons.mpr ⟨(k_wsX11_keep_wsX11_keep_r1 _ (List.mem_of_getElem? (i := 4) rfl)), fun _ h => absurd h List.not_mem_nil⟩⟩⟩⟩) (by decide +kernel)) ggX11_keep_X11_v
theorem dX11_keep_0 : decode cX11_keep 0 = .ok (.aload_n 0, 1) := by decide +kernel
theorem dX11_keep_1 : decode cX11_keep 1 = .ok (.invokevirtual 174, 3) := by decide +kernel
theorem dX11_keep_4 : decode cX11_keep 4 = .ok (.aload_n 0, 1) := by decide +kernel
theorem dX11_keep_5 : decode cX11_keep 5 = .ok (.invokevirtual 229, 3) := by decide +kernel
theorem dX11_keep_8 : decode cX11_keep 8 = .ok (.aload_n 0, 1) := by decide +kernel
theorem dX11_keep_9 : decode cX11_keep 9 = .ok (.getfield 7, 3) := by decide +kernel
theorem dX11_keep_12 : decode cX11_keep 12 = .ok (.bipush 55, 2) := by decide +kernel
theorem dX11_keep_14 : decode cX11_keep 14 = .ok (.iaload, 1) := by decide +kernel
theorem dX11_keep_15 : decode cX11_keep 15 = .ok (.iconst 3, 1) := by decide +kernel
theorem dX11_keep_16 : decode cX11_keep 16 = .ok (.if_icmp .ne 71, 3) := by decide +kernel
theorem dX11_keep_19 : decode cX11_keep 19 = .ok (.aload_n 0, 1) := by decide +kernel
theorem dX11_keep_20 : decode cX11_keep 20 = .ok (.getfield 7, 3) := by decide +kernel
theorem dX11_keep_23 : decode cX11_keep 23 = .ok (.bipush 56, 2) := by decide +kernel
theorem dX11_keep_25 : decode cX11_keep 25 = .ok (.aload_n 0, 1) := by decide +kernel
theorem dX11_keep_26 : decode cX11_keep 26 = .ok (.getfield 7, 3) := by decide +kernel
theorem dX11_keep_29 : decode cX11_keep 29 = .ok (.bipush 57, 2) := by decide +kernel
theorem dX11_keep_31 : decode cX11_keep 31 = .ok (.iaload, 1) := by decide +kernel
theorem dX11_keep_32 : decode cX11_keep 32 = .ok (.iastore, 1) := by decide +kernel
theorem dX11_keep_33 : decode cX11_keep 33 = .ok (.aload_n 0, 1) := by decide +kernel
theorem dX11_keep_34 : decode cX11_keep 34 = .ok (.getfield 7, 3) := by decide +kernel
theorem dX11_keep_37 : decode cX11_keep 37 = .ok (.bipush 57, 2) := by decide +kernel
theorem dX11_keep_39 : decode cX11_keep 39 = .ok (.aload_n 0, 1) := by decide +kernel
theorem dX11_keep_40 : decode cX11_keep 40 = .ok (.getfield 7, 3) := by decide +kernel
theorem dX11_keep_43 : decode cX11_keep 43 = .ok (.bipush 58, 2) := by decide +kernel
theorem dX11_keep_45 : decode cX11_keep 45 = .ok (.iaload, 1) := by decide +kernel
theorem dX11_keep_46 : decode cX11_keep 46 = .ok (.iastore, 1) := by decide +kernel
theorem dX11_keep_47 : decode cX11_keep 47 = .ok (.bipush 59, 2) := by decide +kernel
theorem dX11_keep_49 : decode cX11_keep 49 = .ok (.istore_n 1, 1) := by decide +kernel
theorem dX11_keep_50 : decode cX11_keep 50 = .ok (.iload_n 1, 1) := by decide +kernel
theorem dX11_keep_51 : decode cX11_keep 51 = .ok (.sipush 979, 3) := by decide +kernel
theorem dX11_keep_54 : decode cX11_keep 54 = .ok (.if_icmp .ge 25, 3) := by decide +kernel
theorem dX11_keep_57 : decode cX11_keep 57 = .ok (.aload_n 0, 1) := by decide +kernel
theorem dX11_keep_58 : decode cX11_keep 58 = .ok (.getfield 7, 3) := by decide +kernel
theorem dX11_keep_61 : decode cX11_keep 61 = .ok (.iload_n 1, 1) := by decide +kernel
theorem dX11_keep_62 : decode cX11_keep 62 = .ok (.aload_n 0, 1) := by decide +kernel
theorem dX11_keep_63 : decode cX11_keep 63 = .ok (.getfield 7, 3) := by decide +kernel
theorem dX11_keep_66 : decode cX11_keep 66 = .ok (.iload_n 1, 1) := by decide +kernel
theorem dX11_keep_67 : decode cX11_keep 67 = .ok (.sipush 460, 3) := by decide +kernel
theorem dX11_keep_70 : decode cX11_keep 70 = .ok (.iadd, 1) := by decide +kernel
theorem dX11_keep_71 : decode cX11_keep 71 = .ok (.iaload, 1) := by decide +kernel
theorem dX11_keep_72 : decode cX11_keep 72 = .ok (.iastore, 1) := by decide +kernel
theorem dX11_keep_73 : decode cX11_keep 73 = .ok (.iinc 1 1, 3) := by decide +kernel
theorem dX11_keep_76 : decode cX11_keep 76 = .ok (.goto (-26), 3) := by decide +kernel
theorem dX11_keep_79 : decode cX11_keep 79 = .ok (.aload_n 0, 1) := by decide +kernel
theorem dX11_keep_80 : decode cX11_keep 80 = .ok (.getfield 7, 3) := by decide +kernel
theorem dX11_keep_83 : decode cX11_keep 83 = .ok (.bipush 55, 2) := by decide +kernel
theorem dX11_keep_85 : decode cX11_keep 85 = .ok (.iconst 2, 1) := by decide +kernel
theorem dX11_keep_86 : decode cX11_keep 86 = .ok (.iastore, 1) := by decide +kernel
theorem dX11_keep_87 : decode cX11_keep 87 = .ok (.bipush 59, 2) := by decide +kernel
theorem dX11_keep_89 : decode cX11_keep 89 = .ok (.sipush 460, 3) := by decide +kernel
theorem dX11_keep_92 : decode cX11_keep 92 = .ok (.aload_n 0, 1) := by decide +kernel
theorem dX11_keep_93 : decode cX11_keep 93 = .ok (.getfield 7, 3) := by decide +kernel
theorem dX11_keep_96 : decode cX11_keep 96 = .ok (.bipush 55, 2) := by decide +kernel
theorem dX11_keep_98 : decode cX11_keep 98 = .ok (.iaload, 1) := by decide +kernel
theorem dX11_keep_99 : decode cX11_keep 99 = .ok (.imul, 1) := by decide +kernel
theorem dX11_keep_100 : decode cX11_keep 100 = .ok (.iadd, 1) := by decide +kernel
theorem dX11_keep_101 : decode cX11_keep 101 = .ok (.istore_n 1, 1) := by decide +kernel
theorem dX11_keep_102 : decode cX11_keep 102 = .ok (.iconst 0, 1) := by decide +kernel
theorem dX11_keep_103 : decode cX11_keep 103 = .ok (.istore_n 2, 1) := by decide +kernel
theorem dX11_keep_104 : decode cX11_keep 104 = .ok (.iload_n 2, 1) := by decide +kernel
theorem dX11_keep_105 : decode cX11_keep 105 = .ok (.aload_n 0, 1) := by decide +kernel
theorem dX11_keep_106 : decode cX11_keep 106 = .ok (.invokevirtual 199, 3) := by decide +kernel
theorem dX11_keep_109 : decode cX11_keep 109 = .ok (.if_icmp .ge 22, 3) := by decide +kernel
theorem dX11_keep_112 : decode cX11_keep 112 = .ok (.aload_n 0, 1) := by decide +kernel
theorem dX11_keep_113 : decode cX11_keep 113 = .ok (.getfield 7, 3) := by decide +kernel
theorem dX11_keep_116 : decode cX11_keep 116 = .ok (.iload_n 1, 1) := by decide +kernel
theorem dX11_keep_117 : decode cX11_keep 117 = .ok (.iload_n 2, 1) := by decide +kernel
theorem dX11_keep_118 : decode cX11_keep 118 = .ok (.iadd, 1) := by decide +kernel
theorem dX11_keep_119 : decode cX11_keep 119 = .ok (.aload_n 0, 1) := by decide +kernel
theorem dX11_keep_120 : decode cX11_keep 120 = .ok (.iload_n 2, 1) := by decide +kernel
theorem dX11_keep_121 : decode cX11_keep 121 = .ok (.invokevirtual 232, 3) := by decide +kernel
theorem dX11_keep_124 : decode cX11_keep 124 = .ok (.iastore, 1) := by decide +kernel
theorem dX11_keep_125 : decode cX11_keep 125 = .ok (.iinc 2 1, 3) := by decide +kernel
theorem dX11_keep_128 : decode cX11_keep 128 = .ok (.goto (-24), 3) := by decide +kernel
theorem dX11_keep_131 : decode cX11_keep 131 = .ok (.aload_n 0, 1) := by decide +kernel
theorem dX11_keep_132 : decode cX11_keep 132 = .ok (.getfield 7, 3) := by decide +kernel
theorem dX11_keep_135 : decode cX11_keep 135 = .ok (.bipush 56, 2) := by decide +kernel
theorem dX11_keep_137 : decode cX11_keep 137 = .ok (.aload_n 0, 1) := by decide +kernel
theorem dX11_keep_138 : decode cX11_keep 138 = .ok (.getfield 7, 3) := by decide +kernel
theorem dX11_keep_141 : decode cX11_keep 141 = .ok (.bipush 55, 2) := by decide +kernel
theorem dX11_keep_143 : decode cX11_keep 143 = .ok (.iaload, 1) := by decide +kernel
theorem dX11_keep_144 : decode cX11_keep 144 = .ok (.iadd, 1) := by decide +kernel
theorem dX11_keep_145 : decode cX11_keep 145 = .ok (.aload_n 0, 1) := by decide +kernel
theorem dX11_keep_146 : decode cX11_keep 146 = .ok (.invokevirtual 199, 3) := by decide +kernel
theorem dX11_keep_149 : decode cX11_keep 149 = .ok (.iastore, 1) := by decide +kernel
theorem dX11_keep_150 : decode cX11_keep 150 = .ok (.aload_n 0, 1) := by decide +kernel
theorem dX11_keep_151 : decode cX11_keep 151 = .ok (.getfield 7, 3) := by decide +kernel
theorem dX11_keep_154 : decode cX11_keep 154 = .ok (.bipush 55, 2) := by decide +kernel
theorem dX11_keep_156 : decode cX11_keep 156 = .ok (.dup2, 1) := by decide +kernel
theorem dX11_keep_157 : decode cX11_keep 157 = .ok (.iaload, 1) := by decide +kernel
theorem dX11_keep_158 : decode cX11_keep 158 = .ok (.iconst 1, 1) := by decide +kernel
theorem dX11_keep_159 : decode cX11_keep 159 = .ok (.iadd, 1) := by decide +kernel
theorem dX11_keep_160 : decode cX11_keep 160 = .ok (.iastore, 1) := by decide +kernel
theorem dX11_keep_161 : decode cX11_keep 161 = .ok (.aload_n 0, 1) := by decide +kernel
theorem dX11_keep_162 : decode cX11_keep 162 = .ok (.getfield 7, 3) := by decide +kernel
theorem dX11_keep_165 : decode cX11_keep 165 = .ok (.bipush 55, 2) := by decide +kernel
theorem dX11_keep_167 : decode cX11_keep 167 = .ok (.iaload, 1) := by decide +kernel
theorem dX11_keep_168 : decode cX11_keep 168 = .ok (.ireturn, 1) := by decide +kernel
theorem ggX11_compare_X11_in : GoodIn wsX11_compare wsX11_in := goodIn_sub (fun w h => (List.mem_cons.mp h).elim (fun e => ft_me e (k_wsX11_compare_wsX11_compare_r1 _ (List.mem_of_getElem? (i := 8) rfl))) (fun h => absurd h List.not_mem_nil)) gw_wsX11_in
theorem gX11_compare_X11_in : GoodIn wsX11_compare (va_wsS RX11 91 yX11_in wsX11_in) := goodIn_app (goodIn_sub (List.forall_mem_cons.mpr ⟨(k_wsX11_compare_wsX11_compare_r1 _ (List.mem_of_getElem? (i := 5) rfl)), List.forall_mem_cons.mpr ⟨(k_wsX11_compare_wsX11_compare_r1 _ (List.mem_of_getElem? (i := 6) rfl)), List.forall_mem_cons.mpr ⟨(k_wsX11_compare_wsX11_compare_r1 _ (List.mem_of_getElem? (i := 7) rfl)), fun _ h => absurd h List.not_mem_nil⟩⟩⟩) (by decide +kernel)) ggX11_compare_X11_in
set_option maxRecDepth 20000 in
theorem s_X11_compare_X11_layTrace_wsX11_layTrace_r1 : ∀ w ∈ wsX11_layTrace_r1, w ∈ wsX11_compare := List.forall_mem_cons.mpr ⟨(k_wsX11_compare_wsX11_compare_r1 _ (List.mem_of_getElem? (i := 13) rfl)), List.forall_mem_cons.mpr ⟨(k_wsX11_compare_wsX11_compare_r1 _ (List.mem_of_getElem? (i := 14) rfl)), List.forall_mem_cons.mpr ⟨(k_wsX11_compare_wsX11_compare_r1 _ (List.mem_of_getElem? (i := 0) rfl)), List.forall_mem_cons.mpr ⟨(k_wsX11_compare_wsX11_compare_r1 _ (List.mem_of_getElem? (i := 15) rfl)), List.forall_mem_cons.mpr ⟨(k_wsX11_compare_wsX11_compare_r1 _ (List.mem_of_getElem? (i := 16) rfl)), List.forall_mem_cons.mpr ⟨(k_wsX11_compare_wsX11_compare_r1 _ (List.mem_of_getElem? (i := 17) rfl)), List.forall_mem_cons.mpr ⟨(k_wsX11_compare_wsX11_compare_r1 _ (List.mem_of_getElem? (i := 18) rfl)), List.forall_mem_cons.mpr ⟨(k_wsX11_compare_wsX11_compare_r1 _ (List.mem_of_getElem? (i := 19) rfl)), List.forall_mem_cons.mpr ⟨(k_wsX11_compare_wsX11_compare_r1 _ (List.mem_of_getElem? (i := 20) rfl)), List.forall_mem_cons.mpr ⟨(k_wsX11_compare_wsX11_compare_r1 _ (List.mem_of_getElem? (i := 21) rfl)), List.forall_mem_cons.mpr ⟨(k_wsX11_compare_wsX11_compare_r1 _ (List.mem_of_getElem? (i := 22) rfl)), List.forall_mem_cons.mpr ⟨(k_wsX11_compare_wsX11_compare_r1 _ (List.mem_of_getElem? (i := 23) rfl)), List.forall_mem_cons.mpr ⟨(k_wsX11_compare_wsX11_compare_r2 _ (List.mem_of_getElem? (i := 0) rfl)), List.forall_mem_cons.mpr ⟨(k_wsX11_compare_wsX11_compare_r1 _ (List.mem_of_getElem? (i := 7) rfl)), List.forall_mem_cons.mpr ⟨(k_wsX11_compare_wsX11_compare_r2 _ (List.mem_of_getElem? (i := 1) rfl)), List.forall_mem_cons.mpr ⟨(k_wsX11_compare_wsX11_compare_r2 _ (List.mem_of_getElem? (i := 2) rfl)), List.forall_mem_cons.mpr ⟨(k_wsX11_compare_wsX11_compare_r2 _ (List.mem_of_getElem? (i := 3) rfl)), List.forall_mem_cons.mpr ⟨(k_wsX11_compare_wsX11_compare_r2 _ (List.mem_of_getElem? (i := 4) rfl)), List.forall_mem_cons.mpr ⟨(k_wsX11_compare_wsX11_compare_r2 _ (List.mem_of_getElem? (i := 5) rfl)), List.forall_mem_cons.mpr ⟨(k_wsX11_compare_wsX11_compare_r2 _ (List.mem_of_getElem? (i := 6) rfl)), List.forall_mem_cons.mpr ⟨(k_wsX11_compare_wsX11_compare_r2 _ (List.mem_of_getElem? (i := 7) rfl)), List.forall_mem_cons.mpr ⟨(k_wsX11_compare_wsX11_compare_r2 _ (List.mem_of_getElem? (i := 8) rfl)), List.forall_mem_cons.mpr ⟨(k_wsX11_compare_wsX11_compare_r2 _ (List.mem_of_getElem? (i := 9) rfl)), List.forall_mem_cons.mpr ⟨(k_wsX11_compare_wsX11_compare_r2 _ (List.mem_of_getElem? (i := 10) rfl)), fun _ h => absurd h List.not_mem_nil⟩⟩⟩⟩⟩⟩⟩⟩⟩⟩⟩⟩⟩⟩⟩⟩⟩⟩⟩⟩⟩⟩⟩⟩
set_option maxRecDepth 20000 in
theorem s_X11_compare_X11_layTrace_wsX11_layTrace_r2 : ∀ w ∈ wsX11_layTrace_r2, w ∈ wsX11_compare := List.forall_mem_cons.mpr ⟨(k_wsX11_compare_wsX11_compare_r2 _ (List.mem_of_getElem? (i := 11) rfl)), List.forall_mem_cons.mpr ⟨(k_wsX11_compare_wsX11_compare_r2 _ (List.mem_of_getElem? (i := 12) rfl)), List.forall_mem_cons.mpr ⟨(k_wsX11_compare_wsX11_compare_r2 _ (List.mem_of_getElem? (i := 13) rfl)), List.forall_mem_cons.mpr ⟨(k_wsX11_compare_wsX11_compare_r2 _ (List.mem_of_getElem? (i := 14) rfl)), List.forall_mem_cons.mpr ⟨(k_wsX11_compare_wsX11_compare_r2 _ (List.mem_of_getElem? (i := 15) rfl)), List.forall_mem_cons.mpr ⟨(k_wsX11_compare_wsX11_compare_r2 _ (List.mem_of_getElem? (i := 16) rfl)), List.forall_mem_cons.mpr ⟨(k_wsX11_compare_wsX11_compare_r2 _ (List.mem_of_getElem? (i := 17) rfl)), List.forall_mem_cons.mpr ⟨(k_wsX11_compare_wsX11_compare_r2 _ (List.mem_of_getElem? (i := 18) rfl)), List.forall_mem_cons.mpr ⟨(k_wsX11_compare_wsX11_compare_r2 _ (List.mem_of_getElem? (i := 19) rfl)), List.forall_mem_cons.mpr ⟨(k_wsX11_compare_wsX11_compare_r2 _ (List.mem_of_getElem? (i := 20) rfl)), List.forall_mem_cons.mpr ⟨(k_wsX11_compare_wsX11_compare_r2 _ (List.mem_of_getElem? (i := 21) rfl)), List.forall_mem_cons.mpr ⟨(k_wsX11_compare_wsX11_compare_r2 _ (List.mem_of_getElem? (i := 22) rfl)), List.forall_mem_cons.mpr ⟨(k_wsX11_compare_wsX11_compare_r2 _ (List.mem_of_getElem? (i := 23) rfl)), List.forall_mem_cons.mpr ⟨(k_wsX11_compare_wsX11_compare_r3 _ (List.mem_of_getElem? (i := 0) rfl)), List.forall_mem_cons.mpr ⟨(k_wsX11_compare_wsX11_compare_r3 _ (List.mem_of_getElem? (i := 1) rfl)), List.forall_mem_cons.mpr ⟨(k_wsX11_compare_wsX11_compare_r3 _ (List.mem_of_getElem? (i := 2) rfl)), List.forall_mem_cons.mpr ⟨(k_wsX11_compare_wsX11_compare_r3 _ (List.mem_of_getElem? (i := 3) rfl)), List.forall_mem_cons.mpr ⟨(k_wsX11_compare_wsX11_compare_r3 _ (List.mem_of_getElem? (i := 4) rfl)), List.forall_mem_cons.mpr ⟨(k_wsX11_compare_wsX11_compare_r3 _ (List.mem_of_getElem? (i := 5) rfl)), List.forall_mem_cons.mpr ⟨(k_wsX11_compare_wsX11_compare_r3 _ (List.mem_of_getElem? (i := 6) rfl)), List.forall_mem_cons.mpr ⟨(k_wsX11_compare_wsX11_compare_r3 _ (List.mem_of_getElem? (i := 7) rfl)), List.forall_mem_cons.mpr ⟨(k_wsX11_compare_wsX11_compare_r3 _ (List.mem_of_getElem? (i := 8) rfl)), List.forall_mem_cons.mpr ⟨(k_wsX11_compare_wsX11_compare_r3 _ (List.mem_of_getElem? (i := 9) rfl)), fun _ h => absurd h List.not_mem_nil⟩⟩⟩⟩⟩⟩⟩⟩⟩⟩⟩⟩⟩⟩⟩⟩⟩⟩⟩⟩⟩⟩⟩
theorem ggX11_compare_X11_layTrace : GoodIn wsX11_compare wsX11_layTrace := goodIn_sub (fun w h => (List.mem_cons.mp h).elim (fun e => ft_me e (k_wsX11_compare_wsX11_compare_r1 _ (List.mem_of_getElem? (i := 12) rfl))) (fun h => (List.mem_append.mp h).elim (fun h => (List.mem_append.mp h).elim (fun h => s_X11_compare_X11_layTrace_wsX11_layTrace_r1 w h) (fun h => s_X11_compare_X11_layTrace_wsX11_layTrace_r2 w h)) (fun h => k_wsX11_compare_wsX110 w h))) gw_wsX11_layTrace
theorem gX11_compare_X11_layTrace : GoodIn wsX11_compare (wsV RX11 229 RX11 yX11_layTrace wsX11_layTrace) := goodIn_app (goodIn_sub (List.forall_mem_cons.mpr ⟨(k_wsX11_compare_wsX11_compare_r1 _ (List.mem_of_getElem? (i := 9) rfl)), List.forall_mem_cons.mpr ⟨(k_wsX11_compare_wsX11_compare_r1 _ (List.mem_of_getElem? (i := 10) rfl)), List.forall_mem_cons.mpr ⟨(k_wsX11_compare_wsX11_compare_r1 _ (List.mem_of_getElem? (i := 11) rfl)), List.forall_mem_cons.mpr ⟨(k_wsX11_compare_wsX11_compare_r1 _ (List.mem_of_getElem? (i := 7) rfl)), fun _ h => absurd h List.not_mem_nil⟩⟩⟩⟩) (by decide +kernel)) ggX11_compare_X11_layTrace
theorem ggX11_compare_X11_samples : GoodIn wsX11_compare wsX11_samples := goodIn_sub (fun w h => (List.mem_cons.mp h).elim (fun e => ft_me e (k_wsX11_compare_wsX11_compare_r3 _ (List.mem_of_getElem? (i := 1) rfl))) (fun h => (List.mem_append.mp h).elim (fun h => (List.forall_mem_cons.mpr ⟨(k_wsX11_compare_wsX11_compare_r1 _ (List.mem_of_getElem? (i := 0) rfl)), fun _ h => absurd h List.not_mem_nil⟩) w h) (fun h => k_wsX11_compare_wsX110 w h))) gw_wsX11_samples
theorem gX11_compare_X11_samples : GoodIn wsX11_compare (wsV RX11 199 RX11 yX11_samples wsX11_samples) := goodIn_app (goodIn_sub (List.forall_mem_cons.mpr ⟨(k_wsX11_compare_wsX11_compare_r2 _ (List.mem_of_getElem? (i := 22) rfl)), List.forall_mem_cons.mpr ⟨(k_wsX11_compare_wsX11_compare_r2 _ (List.mem_of_getElem? (i := 23) rfl)), List.forall_mem_cons.mpr ⟨(k_wsX11_compare_wsX11_compare_r3 _ (List.mem_of_getElem? (i := 0) rfl)), List.forall_mem_cons.mpr ⟨(k_wsX11_compare_wsX11_compare_r1 _ (List.mem_of_getElem? (i := 7) rfl)), fun _ h => absurd h List.not_mem_nil⟩⟩⟩⟩) (by decide +kernel)) ggX11_compare_X11_samples
theorem ggX11_compare_X11_v : GoodIn wsX11_compare wsX11_v := goodIn_sub (fun w h => (List.mem_cons.mp h).elim (fun e => ft_me e (k_wsX11_compare_wsX11_compare_r3 _ (List.mem_of_getElem? (i := 13) rfl))) (fun h => (List.mem_append.mp h).elim (fun h => (List.forall_mem_cons.mpr ⟨(k_wsX11_compare_wsX11_compare_r1 _ (List.mem_of_getElem? (i := 14) rfl)), List.forall_mem_cons.mpr ⟨(k_wsX11_compare_wsX11_compare_r1 _ (List.mem_of_getElem? (i := 15) rfl)), List.forall_mem_cons.mpr ⟨(k_wsX11_compare_wsX11_compare_r2 _ (List.mem_of_getElem? (i := 21) rfl)), fun _ h => absurd h List.not_mem_nil⟩⟩⟩) w h) (fun h => k_wsX11_compare_wsX110 w h))) gw_wsX11_v
theorem gX11_compare_X11_v : GoodIn wsX11_compare (wsV RX11 232 RX11 yX11_v wsX11_v) := goodIn_app (goodIn_sub (List.forall_mem_cons.mpr ⟨(k_wsX11_compare_wsX11_compare_r3 _ (List.mem_of_getElem? (i := 10) rfl)), List.forall_mem_cons.mpr ⟨(k_wsX11_compare_wsX11_compare_r3 _ (List.mem_of_getElem? (i := 11) rfl)), List.forall_mem_cons.mpr ⟨(k_wsX11_compare_wsX11_compare_r3 _ (List.mem_of_getElem? (i := 12) rfl)), List.forall_mem_cons.mpr ⟨(k_wsX11_compare_wsX11_compare_r1 _ (List.mem_of_getElem? (i := 7) rfl)), fun _ h => absurd h List.not_mem_nil⟩⟩⟩⟩) (by decide +kernel)) ggX11_compare_X11_v
theorem ggX11_compare_X11_sizeOf : GoodIn wsX11_compare wsX11_sizeOf := goodIn_sub (fun w h => (List.mem_cons.mp h).elim (fun e => ft_me e (k_wsX11_compare_wsX11_compare_r3 _ (List.mem_of_getElem? (i := 16) rfl))) (fun h => absurd h List.not_mem_nil)) gw_wsX11_sizeOf
theorem gX11_compare_X11_sizeOf : GoodIn wsX11_compare (va_wsS RX11 235 yX11_sizeOf wsX11_sizeOf) := goodIn_app (goodIn_sub (List.forall_mem_cons.mpr ⟨(k_wsX11_compare_wsX11_compare_r3 _ (List.mem_of_getElem? (i := 14) rfl)), List.forall_mem_cons.mpr ⟨(k_wsX11_compare_wsX11_compare_r3 _ (List.mem_of_getElem? (i := 15) rfl)), List.forall_mem_cons.mpr ⟨(k_wsX11_compare_wsX11_compare_r1 _ (List.mem_of_getElem? (i := 7) rfl)), fun _ h => absurd h List.not_mem_nil⟩⟩⟩) (by decide +kernel)) ggX11_compare_X11_sizeOf
theorem dX11_compare_0 : decode cX11_compare 0 = .ok (.iload_n 1, 1) := by decide +kernel
theorem dX11_compare_1 : decode cX11_compare 1 = .ok (.i2l, 1) := by decide +kernel
theorem dX11_compare_2 : decode cX11_compare 2 = .ok (.lconst 0, 1) := by decide +kernel
theorem dX11_compare_3 : decode cX11_compare 3 = .ok (.aload_n 0, 1) := by decide +kernel
theorem dX11_compare_4 : decode cX11_compare 4 = .ok (.getfield 7, 3) := by decide +kernel
theorem dX11_compare_7 : decode cX11_compare 7 = .ok (.bipush 55, 2) := by decide +kernel
theorem dX11_compare_9 : decode cX11_compare 9 = .ok (.iaload, 1) := by decide +kernel
theorem dX11_compare_10 : decode cX11_compare 10 = .ok (.iconst 1, 1) := by decide +kernel
theorem dX11_compare_11 : decode cX11_compare 11 = .ok (.isub, 1) := by decide +kernel
theorem dX11_compare_12 : decode cX11_compare 12 = .ok (.i2l, 1) := by decide +kernel
theorem dX11_compare_13 : decode cX11_compare 13 = .ok (.invokestatic 91, 3) := by decide +kernel
theorem dX11_compare_16 : decode cX11_compare 16 = .ok (.ifCond .eq 27, 3) := by decide +kernel
theorem dX11_compare_19 : decode cX11_compare 19 = .ok (.iload_n 2, 1) := by decide +kernel
theorem dX11_compare_20 : decode cX11_compare 20 = .ok (.i2l, 1) := by decide +kernel
theorem dX11_compare_21 : decode cX11_compare 21 = .ok (.lconst 0, 1) := by decide +kernel
theorem dX11_compare_22 : decode cX11_compare 22 = .ok (.ldc2_w 277, 3) := by decide +kernel
theorem dX11_compare_25 : decode cX11_compare 25 = .ok (.invokestatic 91, 3) := by decide +kernel
theorem dX11_compare_28 : decode cX11_compare 28 = .ok (.ifCond .eq 15, 3) := by decide +kernel
theorem dX11_compare_31 : decode cX11_compare 31 = .ok (.iload_n 3, 1) := by decide +kernel
theorem dX11_compare_32 : decode cX11_compare 32 = .ok (.i2l, 1) := by decide +kernel
theorem dX11_compare_33 : decode cX11_compare 33 = .ok (.lconst 0, 1) := by decide +kernel
theorem dX11_compare_34 : decode cX11_compare 34 = .ok (.ldc2_w 227, 3) := by decide +kernel
theorem dX11_compare_37 : decode cX11_compare 37 = .ok (.invokestatic 91, 3) := by decide +kernel
theorem dX11_compare_40 : decode cX11_compare 40 = .ok (.ifCond .ne 6, 3) := by decide +kernel
theorem dX11_compare_43 : decode cX11_compare 43 = .ok (.ldc 95, 2) := by decide +kernel
theorem dX11_compare_45 : decode cX11_compare 45 = .ok (.ireturn, 1) := by decide +kernel
theorem dX11_compare_46 : decode cX11_compare 46 = .ok (.aload_n 0, 1) := by decide +kernel
theorem dX11_compare_47 : decode cX11_compare 47 = .ok (.invokevirtual 229, 3) := by decide +kernel
theorem dX11_compare_50 : decode cX11_compare 50 = .ok (.aload_n 0, 1) := by decide +kernel
theorem dX11_compare_51 : decode cX11_compare 51 = .ok (.invokevirtual 199, 3) := by decide +kernel
theorem dX11_compare_54 : decode cX11_compare 54 = .ok (.aload_n 0, 1) := by decide +kernel
theorem dX11_compare_55 : decode cX11_compare 55 = .ok (.getfield 7, 3) := by decide +kernel
theorem dX11_compare_58 : decode cX11_compare 58 = .ok (.bipush 56, 2) := by decide +kernel
theorem dX11_compare_60 : decode cX11_compare 60 = .ok (.iload_n 1, 1) := by decide +kernel
theorem dX11_compare_61 : decode cX11_compare 61 = .ok (.iadd, 1) := by decide +kernel
theorem dX11_compare_62 : decode cX11_compare 62 = .ok (.iaload, 1) := by decide +kernel
theorem dX11_compare_63 : decode cX11_compare 63 = .ok (.if_icmp .ge 10, 3) := by decide +kernel
theorem dX11_compare_66 : decode cX11_compare 66 = .ok (.aload_n 0, 1) := by decide +kernel
theorem dX11_compare_67 : decode cX11_compare 67 = .ok (.invokevirtual 199, 3) := by decide +kernel
theorem dX11_compare_70 : decode cX11_compare 70 = .ok (.goto 12, 3) := by decide +kernel
theorem dX11_compare_73 : decode cX11_compare 73 = .ok (.aload_n 0, 1) := by decide +kernel
theorem dX11_compare_74 : decode cX11_compare 74 = .ok (.getfield 7, 3) := by decide +kernel
theorem dX11_compare_77 : decode cX11_compare 77 = .ok (.bipush 56, 2) := by decide +kernel
theorem dX11_compare_79 : decode cX11_compare 79 = .ok (.iload_n 1, 1) := by decide +kernel
theorem dX11_compare_80 : decode cX11_compare 80 = .ok (.iadd, 1) := by decide +kernel
theorem dX11_compare_81 : decode cX11_compare 81 = .ok (.iaload, 1) := by decide +kernel
theorem dX11_compare_82 : decode cX11_compare 82 = .ok (.istore 4, 2) := by decide +kernel
theorem dX11_compare_84 : decode cX11_compare 84 = .ok (.ldc 173, 2) := by decide +kernel
theorem dX11_compare_86 : decode cX11_compare 86 = .ok (.istore 5, 2) := by decide +kernel
theorem dX11_compare_88 : decode cX11_compare 88 = .ok (.iconst 0, 1) := by decide +kernel
theorem dX11_compare_89 : decode cX11_compare 89 = .ok (.istore 6, 2) := by decide +kernel
theorem dX11_compare_91 : decode cX11_compare 91 = .ok (.iconst (-1), 1) := by decide +kernel
theorem dX11_compare_92 : decode cX11_compare 92 = .ok (.istore 7, 2) := by decide +kernel
theorem dX11_compare_94 : decode cX11_compare 94 = .ok (.iconst 0, 1) := by decide +kernel
theorem dX11_compare_95 : decode cX11_compare 95 = .ok (.istore 8, 2) := by decide +kernel
theorem dX11_compare_97 : decode cX11_compare 97 = .ok (.iload 4, 2) := by decide +kernel
theorem dX11_compare_99 : decode cX11_compare 99 = .ok (.iconst 1, 1) := by decide +kernel
theorem dX11_compare_100 : decode cX11_compare 100 = .ok (.isub, 1) := by decide +kernel
theorem dX11_compare_101 : decode cX11_compare 101 = .ok (.istore 9, 2) := by decide +kernel
theorem dX11_compare_103 : decode cX11_compare 103 = .ok (.iload 9, 2) := by decide +kernel
theorem dX11_compare_105 : decode cX11_compare 105 = .ok (.ifCond .lt 100, 3) := by decide +kernel
theorem dX11_compare_108 : decode cX11_compare 108 = .ok (.aload_n 0, 1) := by decide +kernel
theorem dX11_compare_109 : decode cX11_compare 109 = .ok (.iload 9, 2) := by decide +kernel
theorem dX11_compare_111 : decode cX11_compare 111 = .ok (.invokevirtual 232, 3) := by decide +kernel
theorem dX11_compare_114 : decode cX11_compare 114 = .ok (.aload_n 0, 1) := by decide +kernel
theorem dX11_compare_115 : decode cX11_compare 115 = .ok (.getfield 7, 3) := by decide +kernel
theorem dX11_compare_118 : decode cX11_compare 118 = .ok (.bipush 59, 2) := by decide +kernel
theorem dX11_compare_120 : decode cX11_compare 120 = .ok (.sipush 460, 3) := by decide +kernel
theorem dX11_compare_123 : decode cX11_compare 123 = .ok (.iload_n 1, 1) := by decide +kernel
theorem dX11_compare_124 : decode cX11_compare 124 = .ok (.imul, 1) := by decide +kernel
theorem dX11_compare_125 : decode cX11_compare 125 = .ok (.iadd, 1) := by decide +kernel
theorem dX11_compare_126 : decode cX11_compare 126 = .ok (.iload 9, 2) := by decide +kernel
theorem dX11_compare_128 : decode cX11_compare 128 = .ok (.iadd, 1) := by decide +kernel
theorem dX11_compare_129 : decode cX11_compare 129 = .ok (.iaload, 1) := by decide +kernel
theorem dX11_compare_130 : decode cX11_compare 130 = .ok (.isub, 1) := by decide +kernel
theorem dX11_compare_131 : decode cX11_compare 131 = .ok (.invokestatic 235, 3) := by decide +kernel
theorem dX11_compare_134 : decode cX11_compare 134 = .ok (.istore 10, 2) := by decide +kernel
theorem dX11_compare_136 : decode cX11_compare 136 = .ok (.iload 10, 2) := by decide +kernel
theorem dX11_compare_138 : decode cX11_compare 138 = .ok (.iload_n 2, 1) := by decide +kernel
theorem dX11_compare_139 : decode cX11_compare 139 = .ok (.if_icmp .le 8, 3) := by decide +kernel
theorem dX11_compare_142 : decode cX11_compare 142 = .ok (.iload 9, 2) := by decide +kernel
theorem dX11_compare_144 : decode cX11_compare 144 = .ok (.goto 5, 3) := by decide +kernel
theorem dX11_compare_147 : decode cX11_compare 147 = .ok (.iload 5, 2) := by decide +kernel
theorem dX11_compare_149 : decode cX11_compare 149 = .ok (.istore 5, 2) := by decide +kernel
theorem dX11_compare_151 : decode cX11_compare 151 = .ok (.iload 6, 2) := by decide +kernel
theorem dX11_compare_153 : decode cX11_compare 153 = .ok (.iload 10, 2) := by decide +kernel
theorem dX11_compare_155 : decode cX11_compare 155 = .ok (.iload_n 2, 1) := by decide +kernel
theorem dX11_compare_156 : decode cX11_compare 156 = .ok (.if_icmp .le 7, 3) := by decide +kernel
theorem dX11_compare_159 : decode cX11_compare 159 = .ok (.iconst 1, 1) := by decide +kernel
theorem dX11_compare_160 : decode cX11_compare 160 = .ok (.goto 4, 3) := by decide +kernel
theorem dX11_compare_163 : decode cX11_compare 163 = .ok (.iconst 0, 1) := by decide +kernel
theorem dX11_compare_164 : decode cX11_compare 164 = .ok (.iadd, 1) := by decide +kernel
theorem dX11_compare_165 : decode cX11_compare 165 = .ok (.istore 6, 2) := by decide +kernel
theorem dX11_compare_167 : decode cX11_compare 167 = .ok (.iload 10, 2) := by decide +kernel
theorem dX11_compare_169 : decode cX11_compare 169 = .ok (.iload 7, 2) := by decide +kernel
theorem dX11_compare_171 : decode cX11_compare 171 = .ok (.if_icmp .lt 8, 3) := by decide +kernel
theorem dX11_compare_174 : decode cX11_compare 174 = .ok (.iload 9, 2) := by decide +kernel
theorem dX11_compare_176 : decode cX11_compare 176 = .ok (.goto 5, 3) := by decide +kernel
theorem dX11_compare_179 : decode cX11_compare 179 = .ok (.iload 8, 2) := by decide +kernel
theorem dX11_compare_181 : decode cX11_compare 181 = .ok (.istore 8, 2) := by decide +kernel
theorem dX11_compare_183 : decode cX11_compare 183 = .ok (.iload 10, 2) := by decide +kernel
theorem dX11_compare_185 : decode cX11_compare 185 = .ok (.iload 7, 2) := by decide +kernel
theorem dX11_compare_187 : decode cX11_compare 187 = .ok (.if_icmp .le 8, 3) := by decide +kernel
theorem dX11_compare_190 : decode cX11_compare 190 = .ok (.iload 10, 2) := by decide +kernel
theorem dX11_compare_192 : decode cX11_compare 192 = .ok (.goto 5, 3) := by decide +kernel
theorem dX11_compare_195 : decode cX11_compare 195 = .ok (.iload 7, 2) := by decide +kernel
theorem dX11_compare_197 : decode cX11_compare 197 = .ok (.istore 7, 2) := by decide +kernel
theorem dX11_compare_199 : decode cX11_compare 199 = .ok (.iinc 9 (-1), 3) := by decide +kernel
theorem dX11_compare_202 : decode cX11_compare 202 = .ok (.goto (-99), 3) := by decide +kernel
theorem dX11_compare_205 : decode cX11_compare 205 = .ok (.iload_n 3, 1) := by decide +kernel
theorem dX11_compare_206 : decode cX11_compare 206 = .ok (.ifCond .ne 8, 3) := by decide +kernel
theorem dX11_compare_209 : decode cX11_compare 209 = .ok (.iload 5, 2) := by decide +kernel
theorem dX11_compare_211 : decode cX11_compare 211 = .ok (.goto 25, 3) := by decide +kernel
theorem dX11_compare_214 : decode cX11_compare 214 = .ok (.iload_n 3, 1) := by decide +kernel
theorem dX11_compare_215 : decode cX11_compare 215 = .ok (.iconst 1, 1) := by decide +kernel
theorem dX11_compare_216 : decode cX11_compare 216 = .ok (.if_icmp .ne 8, 3) := by decide +kernel
theorem dX11_compare_219 : decode cX11_compare 219 = .ok (.iload 6, 2) := by decide +kernel
theorem dX11_compare_221 : decode cX11_compare 221 = .ok (.goto 15, 3) := by decide +kernel
theorem dX11_compare_224 : decode cX11_compare 224 = .ok (.iload_n 3, 1) := by decide +kernel
theorem dX11_compare_225 : decode cX11_compare 225 = .ok (.iconst 2, 1) := by decide +kernel
theorem dX11_compare_226 : decode cX11_compare 226 = .ok (.if_icmp .ne 8, 3) := by decide +kernel
theorem dX11_compare_229 : decode cX11_compare 229 = .ok (.iload 7, 2) := by decide +kernel
theorem dX11_compare_231 : decode cX11_compare 231 = .ok (.goto 5, 3) := by decide +kernel
theorem dX11_compare_234 : decode cX11_compare 234 = .ok (.iload 8, 2) := by decide +kernel
theorem dX11_compare_236 : decode cX11_compare 236 = .ok (.ireturn, 1) := by decide +kernel
end
section
/-! the reference: leaves -/
theorem ft_in64 {x lo hi : Int32} {L H : Int64} (hL : L.toInt = lo.toInt) (hH : H.toInt = hi.toInt) : ftB (L ≤ x.toInt64 ∧ x.toInt64 ≤ H) = ftB (lo ≤ x ∧ x ≤ hi) := by
  refine ftB_congr ?_
  rw [Int64.le_iff_toInt_le, Int64.le_iff_toInt_le, Int32.le_iff_toInt_le, Int32.le_iff_toInt_le, hL, hH, Int32.toInt_toInt64]
def ftFirst (x : Int32) : Int32 := if x = 0 then 5 else if x = 1 then 1500 else if x = 2 then 9000 else if x = 3 then 0 else if x = 4 then 4 else if x = 5 then 1 else if x = 6 then 600 else if x = 7 then 60 else if x = 8 then 8000 else if x = 9 then 3 else 150
def ftLeast (x : Int32) : Int32 := if x = 0 ∨ x = 4 then 1 else if x = 1 then 100 else if x = 6 then 10 else if x = 7 then 5 else 0
def ftMost (x : Int32) : Int32 := if x = 0 then 20 else if x = 1 then 5000 else if x = 2 then 40000 else if x = 3 then 400 else if x = 4 then 32 else if x = 5 then 65535 else if x = 6 then 5000 else if x = 7 then 2000 else if x = 8 then 40000 else if x = 9 then 20 else 2000
def ftSz (x : Int32) : Int32 := if x < 0 then -x else x
theorem ftSz_abs (x : Int32) : ftSz x = ftAbs x := by
  unfold ftSz ftAbs
  by_cases h : x < 0
  · rw [if_pos h, if_neg (Int32.not_le.mpr h), Int32.zero_sub]
  · rw [if_neg h, if_pos (Int32.not_lt.mp h)]
/-- the attenuation that the first k parts of a row make hold at a place -/
def ftFw (w : Nat → Int32) (x : Int32) : Nat → Int32
  | 0 => w 1
  | k + 1 => if w (4 + 4 * k + 0) = 2 ∧ w (4 + 4 * k + 1) ≤ x then w (4 + 4 * k + 2) else ftFw w x k
theorem ftFw_t {w : Nat → Int32} {x : Int32} {k : Nat} (h1 : w (4 + 4 * k + 0) = 2) (h2 : w (4 + 4 * k + 1) ≤ x) : w (4 + 4 * k + 2) = ftFw w x (k + 1) := (if_pos ⟨h1, h2⟩).symm
theorem ftFw_1 {w : Nat → Int32} {x y : Int32} {k : Nat} (e : y = ftFw w x k) (h1 : ¬ w (4 + 4 * k + 0) = 2) : y = ftFw w x (k + 1) := by rw [e]; exact (if_neg (fun q => h1 q.1)).symm
theorem ftFw_2 {w : Nat → Int32} {x y : Int32} {k : Nat} (e : y = ftFw w x k) (h1 : x < w (4 + 4 * k + 1)) : y = ftFw w x (k + 1) := by rw [e]; exact (if_neg (fun q => absurd q.2 (Int32.not_le.mpr h1))).symm
/-- the last part at a place, or -1 -/
def ftPa (w : Nat → Int32) (x : Int32) : Nat → Int32
  | 0 => -1
  | k + 1 => if w (4 + 4 * k + 1) = x then nI k else ftPa w x k
def ftLj (w : Nat → Int32) (x : Int32) (s0 : Int32) : Nat → Int32
  | 0 => s0
  | k + 1 => ftLj w x s0 k + (if w (4 + 4 * k + 0) < 2 ∧ w (4 + 4 * k + 1) < x then w (4 + 4 * k + 2) else 0)
theorem ftLj_t {w : Nat → Int32} {x s0 y : Int32} {k : Nat} (e : y = ftLj w x s0 k) (h1 : w (4 + 4 * k + 0) < 2) (h2 : w (4 + 4 * k + 1) < x) : y + w (4 + 4 * k + 2) = ftLj w x s0 (k + 1) := by rw [e, ftLj, if_pos ⟨h1, h2⟩]
theorem ftLj_1 {w : Nat → Int32} {x s0 y : Int32} {k : Nat} (e : y = ftLj w x s0 k) (h1 : 2 ≤ w (4 + 4 * k + 0)) : y + 0 = ftLj w x s0 (k + 1) := by rw [e, ftLj, if_neg (fun q => absurd q.1 (Int32.not_lt.mpr h1))]
theorem ftLj_2 {w : Nat → Int32} {x s0 y : Int32} {k : Nat} (e : y = ftLj w x s0 k) (h1 : x ≤ w (4 + 4 * k + 1)) : y + 0 = ftLj w x s0 (k + 1) := by rw [e, ftLj, if_neg (fun q => absurd q.2 (Int32.not_lt.mpr h1))]
/-- the states behind a change: the oldest of five gone, the row laid behind -/
def ftShift (z : Nat → Int32) (J : Nat) : Nat → Int32 := fun t => if t < J then z (t + 1439) else z t
theorem ftShift_0 (z : Nat → Int32) : z = ftShift z 0 := funext fun t => (if_neg (Nat.not_lt_zero t)).symm
theorem ftShift_s {z : Nat → Int32} {J : Nat} : upd (ftShift z J) J (ftShift z J (J + 1439)) = ftShift z (J + 1) := by
  funext t
  unfold upd ftShift
  by_cases q : t = J
  · subst q; rw [if_pos rfl, if_neg (by omega), if_pos (by omega)]
  · rw [if_neg q]
    by_cases r : t < J
    · rw [if_pos r, if_pos (by omega)]
    · rw [if_neg r, if_neg (by omega)]
def ftPush (w z : Nat → Int32) (hm : Nat) : Nat → Int32 := if hm = 5 then ftSeg w (ftShift z 5756) 5756 1439 else ftSeg w z (hm * 1439) 1439
/-- a row with a part more -/
def ftComes (w : Nat → Int32) (k : Nat) (kd x lo re : Int32) : Nat → Int32 := upd (upd (upd (upd w (4 + 4 * k + 0) kd) (4 + 4 * k + 1) x) (4 + 4 * k + 2) lo) (4 + 4 * k + 3) re
set_option maxHeartbeats 4000000 in
set_option maxRecDepth 100000 in
theorem c_X11_firstOf (l : Launch) (D : va_G) (cI cS : ClassId) (x : Int32)  : Met l yX11_firstOf wsX11_firstOf ({ frames := 0, cells := 0, slots := 0, locals := 0 }) (ftRO D cI cS [.int x] []) (vp_Si (fun o9 => o9 = ftFirst x)) 0 0 (fun _ => False) := by
  refine Met.ofW (cc := cX11_firstOf) (maxL := 1) (ret := (some .int)) (by decide) rfl ?_
  intro p e s m args below meth c s₁ B hml hv
  obtain ⟨rfl, hP, hKK⟩ := hv
  have hK := hKK.1
  have hx := B.exec
  have hb := B.bytes
  have hr := B.returns
  have hts := atoms_spec (ws := wsX11_firstOf) B.pre
  have hown : s.vm.findClass RX11 = some m.cls := findClass_of_methodNamed B.named
  have hlocks := B.notSynchronized
  have hP : va_P D vwCl [] s.heap := hP
  have hl := lv_entry ([.int x]) (n := 1) (Nat.le_of_ble_eq_true rfl)
  rw [lg_entry_eq]
  generalize (lg_sl ([.int x]) ++ List.replicate (1 - (lg_sl ([.int x])).length) Slot.unset).toArray = ls at hl ⊢
  have hl : lv_has ls 1 [(0, .int x)] := hl
  refine lv_iload_n hx hb dX11_firstOf_0 rfl (lv_at hl 0 rfl) ?_
  by_cases c1_0 : x = 0
  · refine lv_tableIn (off := 55) (tgt := 56) hx hb dX11_firstOf_1 (by rw [c1_0]; decide) (by rw [c1_0]; decide) (by rw [c1_0]; decide) (by decide) ?_
    refine lv_iconst (v := 5) hx hb dX11_firstOf_56 (by decide) ?_
    exact W.iret (v := 5) hx hb hr (fun t ht hW => ⟨5, rfl, (by show (5 : Int32) = ftFirst x; unfold ftFirst; first | (subst c1_0; rfl) | (subst c1_1; rfl) | (subst c1_2; rfl) | (subst c1_3; rfl) | (subst c1_4; rfl) | (subst c1_5; rfl) | (subst c1_6; rfl) | (subst c1_7; rfl) | (subst c1_8; rfl) | (subst c1_9; rfl) | (rw [if_neg c1_0, if_neg c1_1, if_neg c1_2, if_neg c1_3, if_neg c1_4, if_neg c1_5, if_neg c1_6, if_neg c1_7, if_neg c1_8, if_neg c1_9]; done)), ht⟩) (fun _ h9 => absurd h9 List.not_mem_nil) dX11_firstOf_57
  by_cases c1_1 : x = 1
  · refine lv_tableIn (off := 57) (tgt := 58) hx hb dX11_firstOf_1 (by rw [c1_1]; decide) (by rw [c1_1]; decide) (by rw [c1_1]; decide) (by decide) ?_
    refine lv_sipush (v := 1500) hx hb dX11_firstOf_58 (by decide) ?_
    exact W.iret (v := 1500) hx hb hr (fun t ht hW => ⟨1500, rfl, (by show (1500 : Int32) = ftFirst x; unfold ftFirst; first | (subst c1_0; rfl) | (subst c1_1; rfl) | (subst c1_2; rfl) | (subst c1_3; rfl) | (subst c1_4; rfl) | (subst c1_5; rfl) | (subst c1_6; rfl) | (subst c1_7; rfl) | (subst c1_8; rfl) | (subst c1_9; rfl) | (rw [if_neg c1_0, if_neg c1_1, if_neg c1_2, if_neg c1_3, if_neg c1_4, if_neg c1_5, if_neg c1_6, if_neg c1_7, if_neg c1_8, if_neg c1_9]; done)), ht⟩) (fun _ h9 => absurd h9 List.not_mem_nil) dX11_firstOf_61
  by_cases c1_2 : x = 2
  · refine lv_tableIn (off := 61) (tgt := 62) hx hb dX11_firstOf_1 (by rw [c1_2]; decide) (by rw [c1_2]; decide) (by rw [c1_2]; decide) (by decide) ?_
    refine lv_sipush (v := 9000) hx hb dX11_firstOf_62 (by decide) ?_
    exact W.iret (v := 9000) hx hb hr (fun t ht hW => ⟨9000, rfl, (by show (9000 : Int32) = ftFirst x; unfold ftFirst; first | (subst c1_0; rfl) | (subst c1_1; rfl) | (subst c1_2; rfl) | (subst c1_3; rfl) | (subst c1_4; rfl) | (subst c1_5; rfl) | (subst c1_6; rfl) | (subst c1_7; rfl) | (subst c1_8; rfl) | (subst c1_9; rfl) | (rw [if_neg c1_0, if_neg c1_1, if_neg c1_2, if_neg c1_3, if_neg c1_4, if_neg c1_5, if_neg c1_6, if_neg c1_7, if_neg c1_8, if_neg c1_9]; done)), ht⟩) (fun _ h9 => absurd h9 List.not_mem_nil) dX11_firstOf_65
  by_cases c1_3 : x = 3
  · refine lv_tableIn (off := 65) (tgt := 66) hx hb dX11_firstOf_1 (by rw [c1_3]; decide) (by rw [c1_3]; decide) (by rw [c1_3]; decide) (by decide) ?_
    refine lv_iconst (v := 0) hx hb dX11_firstOf_66 (by decide) ?_
    exact W.iret (v := 0) hx hb hr (fun t ht hW => ⟨0, rfl, (by show (0 : Int32) = ftFirst x; unfold ftFirst; first | (subst c1_0; rfl) | (subst c1_1; rfl) | (subst c1_2; rfl) | (subst c1_3; rfl) | (subst c1_4; rfl) | (subst c1_5; rfl) | (subst c1_6; rfl) | (subst c1_7; rfl) | (subst c1_8; rfl) | (subst c1_9; rfl) | (rw [if_neg c1_0, if_neg c1_1, if_neg c1_2, if_neg c1_3, if_neg c1_4, if_neg c1_5, if_neg c1_6, if_neg c1_7, if_neg c1_8, if_neg c1_9]; done)), ht⟩) (fun _ h9 => absurd h9 List.not_mem_nil) dX11_firstOf_67
  by_cases c1_4 : x = 4
  · refine lv_tableIn (off := 67) (tgt := 68) hx hb dX11_firstOf_1 (by rw [c1_4]; decide) (by rw [c1_4]; decide) (by rw [c1_4]; decide) (by decide) ?_
    refine lv_iconst (v := 4) hx hb dX11_firstOf_68 (by decide) ?_
    exact W.iret (v := 4) hx hb hr (fun t ht hW => ⟨4, rfl, (by show (4 : Int32) = ftFirst x; unfold ftFirst; first | (subst c1_0; rfl) | (subst c1_1; rfl) | (subst c1_2; rfl) | (subst c1_3; rfl) | (subst c1_4; rfl) | (subst c1_5; rfl) | (subst c1_6; rfl) | (subst c1_7; rfl) | (subst c1_8; rfl) | (subst c1_9; rfl) | (rw [if_neg c1_0, if_neg c1_1, if_neg c1_2, if_neg c1_3, if_neg c1_4, if_neg c1_5, if_neg c1_6, if_neg c1_7, if_neg c1_8, if_neg c1_9]; done)), ht⟩) (fun _ h9 => absurd h9 List.not_mem_nil) dX11_firstOf_69
  by_cases c1_5 : x = 5
  · refine lv_tableIn (off := 69) (tgt := 70) hx hb dX11_firstOf_1 (by rw [c1_5]; decide) (by rw [c1_5]; decide) (by rw [c1_5]; decide) (by decide) ?_
    refine lv_iconst (v := 1) hx hb dX11_firstOf_70 (by decide) ?_
    exact W.iret (v := 1) hx hb hr (fun t ht hW => ⟨1, rfl, (by show (1 : Int32) = ftFirst x; unfold ftFirst; first | (subst c1_0; rfl) | (subst c1_1; rfl) | (subst c1_2; rfl) | (subst c1_3; rfl) | (subst c1_4; rfl) | (subst c1_5; rfl) | (subst c1_6; rfl) | (subst c1_7; rfl) | (subst c1_8; rfl) | (subst c1_9; rfl) | (rw [if_neg c1_0, if_neg c1_1, if_neg c1_2, if_neg c1_3, if_neg c1_4, if_neg c1_5, if_neg c1_6, if_neg c1_7, if_neg c1_8, if_neg c1_9]; done)), ht⟩) (fun _ h9 => absurd h9 List.not_mem_nil) dX11_firstOf_71
  by_cases c1_6 : x = 6
  · refine lv_tableIn (off := 71) (tgt := 72) hx hb dX11_firstOf_1 (by rw [c1_6]; decide) (by rw [c1_6]; decide) (by rw [c1_6]; decide) (by decide) ?_
    refine lv_sipush (v := 600) hx hb dX11_firstOf_72 (by decide) ?_
    exact W.iret (v := 600) hx hb hr (fun t ht hW => ⟨600, rfl, (by show (600 : Int32) = ftFirst x; unfold ftFirst; first | (subst c1_0; rfl) | (subst c1_1; rfl) | (subst c1_2; rfl) | (subst c1_3; rfl) | (subst c1_4; rfl) | (subst c1_5; rfl) | (subst c1_6; rfl) | (subst c1_7; rfl) | (subst c1_8; rfl) | (subst c1_9; rfl) | (rw [if_neg c1_0, if_neg c1_1, if_neg c1_2, if_neg c1_3, if_neg c1_4, if_neg c1_5, if_neg c1_6, if_neg c1_7, if_neg c1_8, if_neg c1_9]; done)), ht⟩) (fun _ h9 => absurd h9 List.not_mem_nil) dX11_firstOf_75
  by_cases c1_7 : x = 7
  · refine lv_tableIn (off := 75) (tgt := 76) hx hb dX11_firstOf_1 (by rw [c1_7]; decide) (by rw [c1_7]; decide) (by rw [c1_7]; decide) (by decide) ?_
    refine lv_bipush (v := 60) hx hb dX11_firstOf_76 (by decide) ?_
    exact W.iret (v := 60) hx hb hr (fun t ht hW => ⟨60, rfl, (by show (60 : Int32) = ftFirst x; unfold ftFirst; first | (subst c1_0; rfl) | (subst c1_1; rfl) | (subst c1_2; rfl) | (subst c1_3; rfl) | (subst c1_4; rfl) | (subst c1_5; rfl) | (subst c1_6; rfl) | (subst c1_7; rfl) | (subst c1_8; rfl) | (subst c1_9; rfl) | (rw [if_neg c1_0, if_neg c1_1, if_neg c1_2, if_neg c1_3, if_neg c1_4, if_neg c1_5, if_neg c1_6, if_neg c1_7, if_neg c1_8, if_neg c1_9]; done)), ht⟩) (fun _ h9 => absurd h9 List.not_mem_nil) dX11_firstOf_78
  by_cases c1_8 : x = 8
  · refine lv_tableIn (off := 78) (tgt := 79) hx hb dX11_firstOf_1 (by rw [c1_8]; decide) (by rw [c1_8]; decide) (by rw [c1_8]; decide) (by decide) ?_
    refine lv_sipush (v := 8000) hx hb dX11_firstOf_79 (by decide) ?_
    exact W.iret (v := 8000) hx hb hr (fun t ht hW => ⟨8000, rfl, (by show (8000 : Int32) = ftFirst x; unfold ftFirst; first | (subst c1_0; rfl) | (subst c1_1; rfl) | (subst c1_2; rfl) | (subst c1_3; rfl) | (subst c1_4; rfl) | (subst c1_5; rfl) | (subst c1_6; rfl) | (subst c1_7; rfl) | (subst c1_8; rfl) | (subst c1_9; rfl) | (rw [if_neg c1_0, if_neg c1_1, if_neg c1_2, if_neg c1_3, if_neg c1_4, if_neg c1_5, if_neg c1_6, if_neg c1_7, if_neg c1_8, if_neg c1_9]; done)), ht⟩) (fun _ h9 => absurd h9 List.not_mem_nil) dX11_firstOf_82
  by_cases c1_9 : x = 9
  · refine lv_tableIn (off := 82) (tgt := 83) hx hb dX11_firstOf_1 (by rw [c1_9]; decide) (by rw [c1_9]; decide) (by rw [c1_9]; decide) (by decide) ?_
    refine lv_iconst (v := 3) hx hb dX11_firstOf_83 (by decide) ?_
    exact W.iret (v := 3) hx hb hr (fun t ht hW => ⟨3, rfl, (by show (3 : Int32) = ftFirst x; unfold ftFirst; first | (subst c1_0; rfl) | (subst c1_1; rfl) | (subst c1_2; rfl) | (subst c1_3; rfl) | (subst c1_4; rfl) | (subst c1_5; rfl) | (subst c1_6; rfl) | (subst c1_7; rfl) | (subst c1_8; rfl) | (subst c1_9; rfl) | (rw [if_neg c1_0, if_neg c1_1, if_neg c1_2, if_neg c1_3, if_neg c1_4, if_neg c1_5, if_neg c1_6, if_neg c1_7, if_neg c1_8, if_neg c1_9]; done)), ht⟩) (fun _ h9 => absurd h9 List.not_mem_nil) dX11_firstOf_84
  have c1_0i := lv_neT (a := 0) c1_0 (by decide)
  have c1_1i := lv_neT (a := 1) c1_1 (by decide)
  have c1_2i := lv_neT (a := 2) c1_2 (by decide)
  have c1_3i := lv_neT (a := 3) c1_3 (by decide)
  have c1_4i := lv_neT (a := 4) c1_4 (by decide)
  have c1_5i := lv_neT (a := 5) c1_5 (by decide)
  have c1_6i := lv_neT (a := 6) c1_6 (by decide)
  have c1_7i := lv_neT (a := 7) c1_7 (by decide)
  have c1_8i := lv_neT (a := 8) c1_8 (by decide)
  have c1_9i := lv_neT (a := 9) c1_9 (by decide)
  refine lv_tableOut (tgt := 85) hx hb dX11_firstOf_1 (by omega) (by decide) ?_
  refine lv_sipush (v := 150) hx hb dX11_firstOf_85 (by decide) ?_
  exact W.iret (v := 150) hx hb hr (fun t ht hW => ⟨150, rfl, (by show (150 : Int32) = ftFirst x; unfold ftFirst; first | (subst c1_0; rfl) | (subst c1_1; rfl) | (subst c1_2; rfl) | (subst c1_3; rfl) | (subst c1_4; rfl) | (subst c1_5; rfl) | (subst c1_6; rfl) | (subst c1_7; rfl) | (subst c1_8; rfl) | (subst c1_9; rfl) | (rw [if_neg c1_0, if_neg c1_1, if_neg c1_2, if_neg c1_3, if_neg c1_4, if_neg c1_5, if_neg c1_6, if_neg c1_7, if_neg c1_8, if_neg c1_9]; done)), ht⟩) (fun _ h9 => absurd h9 List.not_mem_nil) dX11_firstOf_88
set_option maxHeartbeats 4000000 in
set_option maxRecDepth 100000 in
theorem c_X11_leastOf (l : Launch) (D : va_G) (cI cS : ClassId) (x : Int32)  : Met l yX11_leastOf wsX11_leastOf ({ frames := 0, cells := 0, slots := 0, locals := 0 }) (ftRO D cI cS [.int x] []) (vp_Si (fun o9 => o9 = ftLeast x)) 0 0 (fun _ => False) := by
  refine Met.ofW (cc := cX11_leastOf) (maxL := 1) (ret := (some .int)) (by decide) rfl ?_
  intro p e s m args below meth c s₁ B hml hv
  obtain ⟨rfl, hP, hKK⟩ := hv
  have hK := hKK.1
  have hx := B.exec
  have hb := B.bytes
  have hr := B.returns
  have hts := atoms_spec (ws := wsX11_leastOf) B.pre
  have hown : s.vm.findClass RX11 = some m.cls := findClass_of_methodNamed B.named
  have hlocks := B.notSynchronized
  have hP : va_P D vwCl [] s.heap := hP
  have hl := lv_entry ([.int x]) (n := 1) (Nat.le_of_ble_eq_true rfl)
  rw [lg_entry_eq]
  generalize (lg_sl ([.int x]) ++ List.replicate (1 - (lg_sl ([.int x])).length) Slot.unset).toArray = ls at hl ⊢
  have hl : lv_has ls 1 [(0, .int x)] := hl
  refine lv_iload_n hx hb dX11_leastOf_0 rfl (lv_at hl 0 rfl) ?_
  refine lv_if_eq (tgt := 9) hx hb dX11_leastOf_1 (by decide) (fun c1 => ?_) (fun c1 => ?_)
  · refine lv_iconst (v := 1) hx hb dX11_leastOf_9 (by decide) ?_
    refine lv_goto (tgt := 45) hx hb dX11_leastOf_10 (by decide) ?_
    exact W.iret (v := 1) hx hb hr (fun t ht hW => ⟨1, rfl, (by show (1 : Int32) = ftLeast x; unfold ftLeast; first | (rw [if_pos (Or.inl c1)]; done) | (rw [if_pos (Or.inr c6)]; done) | (rw [if_neg (not_or.mpr ⟨c1, c6⟩), if_pos c15]; done) | (rw [if_neg (not_or.mpr ⟨c1, c6⟩), if_neg c15, if_pos c26]; done) | (rw [if_neg (not_or.mpr ⟨c1, c6⟩), if_neg c15, if_neg c26, if_pos c37]; done) | (rw [if_neg (not_or.mpr ⟨c1, c6⟩), if_neg c15, if_neg c26, if_neg c37]; done)), ht⟩) (fun _ h9 => absurd h9 List.not_mem_nil) dX11_leastOf_45
  · refine lv_iload_n hx hb dX11_leastOf_4 rfl (lv_at hl 0 rfl) ?_
    refine lv_iconst (v := 4) hx hb dX11_leastOf_5 (by decide) ?_
    refine lv_icmp_ne (tgt := 13) hx hb dX11_leastOf_6 (by decide) (fun c6 => ?_) (fun c6 => ?_)
    · refine lv_iload_n hx hb dX11_leastOf_13 rfl (lv_at hl 0 rfl) ?_
      refine lv_iconst (v := 1) hx hb dX11_leastOf_14 (by decide) ?_
      refine lv_icmp_ne (tgt := 23) hx hb dX11_leastOf_15 (by decide) (fun c15 => ?_) (fun c15 => ?_)
      · refine lv_iload_n hx hb dX11_leastOf_23 rfl (lv_at hl 0 rfl) ?_
        refine lv_bipush (v := 6) hx hb dX11_leastOf_24 (by decide) ?_
        refine lv_icmp_ne (tgt := 34) hx hb dX11_leastOf_26 (by decide) (fun c26 => ?_) (fun c26 => ?_)
        · refine lv_iload_n hx hb dX11_leastOf_34 rfl (lv_at hl 0 rfl) ?_
          refine lv_bipush (v := 7) hx hb dX11_leastOf_35 (by decide) ?_
          refine lv_icmp_ne (tgt := 44) hx hb dX11_leastOf_37 (by decide) (fun c37 => ?_) (fun c37 => ?_)
          · refine lv_iconst (v := 0) hx hb dX11_leastOf_44 (by decide) ?_
            exact W.iret (v := 0) hx hb hr (fun t ht hW => ⟨0, rfl, (by show (0 : Int32) = ftLeast x; unfold ftLeast; first | (rw [if_pos (Or.inl c1)]; done) | (rw [if_pos (Or.inr c6)]; done) | (rw [if_neg (not_or.mpr ⟨c1, c6⟩), if_pos c15]; done) | (rw [if_neg (not_or.mpr ⟨c1, c6⟩), if_neg c15, if_pos c26]; done) | (rw [if_neg (not_or.mpr ⟨c1, c6⟩), if_neg c15, if_neg c26, if_pos c37]; done) | (rw [if_neg (not_or.mpr ⟨c1, c6⟩), if_neg c15, if_neg c26, if_neg c37]; done)), ht⟩) (fun _ h9 => absurd h9 List.not_mem_nil) dX11_leastOf_45
          · refine lv_iconst (v := 5) hx hb dX11_leastOf_40 (by decide) ?_
            refine lv_goto (tgt := 45) hx hb dX11_leastOf_41 (by decide) ?_
            exact W.iret (v := 5) hx hb hr (fun t ht hW => ⟨5, rfl, (by show (5 : Int32) = ftLeast x; unfold ftLeast; first | (rw [if_pos (Or.inl c1)]; done) | (rw [if_pos (Or.inr c6)]; done) | (rw [if_neg (not_or.mpr ⟨c1, c6⟩), if_pos c15]; done) | (rw [if_neg (not_or.mpr ⟨c1, c6⟩), if_neg c15, if_pos c26]; done) | (rw [if_neg (not_or.mpr ⟨c1, c6⟩), if_neg c15, if_neg c26, if_pos c37]; done) | (rw [if_neg (not_or.mpr ⟨c1, c6⟩), if_neg c15, if_neg c26, if_neg c37]; done)), ht⟩) (fun _ h9 => absurd h9 List.not_mem_nil) dX11_leastOf_45
        · refine lv_bipush (v := 10) hx hb dX11_leastOf_29 (by decide) ?_
          refine lv_goto (tgt := 45) hx hb dX11_leastOf_31 (by decide) ?_
          exact W.iret (v := 10) hx hb hr (fun t ht hW => ⟨10, rfl, (by show (10 : Int32) = ftLeast x; unfold ftLeast; first | (rw [if_pos (Or.inl c1)]; done) | (rw [if_pos (Or.inr c6)]; done) | (rw [if_neg (not_or.mpr ⟨c1, c6⟩), if_pos c15]; done) | (rw [if_neg (not_or.mpr ⟨c1, c6⟩), if_neg c15, if_pos c26]; done) | (rw [if_neg (not_or.mpr ⟨c1, c6⟩), if_neg c15, if_neg c26, if_pos c37]; done) | (rw [if_neg (not_or.mpr ⟨c1, c6⟩), if_neg c15, if_neg c26, if_neg c37]; done)), ht⟩) (fun _ h9 => absurd h9 List.not_mem_nil) dX11_leastOf_45
      · refine lv_bipush (v := 100) hx hb dX11_leastOf_18 (by decide) ?_
        refine lv_goto (tgt := 45) hx hb dX11_leastOf_20 (by decide) ?_
        exact W.iret (v := 100) hx hb hr (fun t ht hW => ⟨100, rfl, (by show (100 : Int32) = ftLeast x; unfold ftLeast; first | (rw [if_pos (Or.inl c1)]; done) | (rw [if_pos (Or.inr c6)]; done) | (rw [if_neg (not_or.mpr ⟨c1, c6⟩), if_pos c15]; done) | (rw [if_neg (not_or.mpr ⟨c1, c6⟩), if_neg c15, if_pos c26]; done) | (rw [if_neg (not_or.mpr ⟨c1, c6⟩), if_neg c15, if_neg c26, if_pos c37]; done) | (rw [if_neg (not_or.mpr ⟨c1, c6⟩), if_neg c15, if_neg c26, if_neg c37]; done)), ht⟩) (fun _ h9 => absurd h9 List.not_mem_nil) dX11_leastOf_45
    · refine lv_iconst (v := 1) hx hb dX11_leastOf_9 (by decide) ?_
      refine lv_goto (tgt := 45) hx hb dX11_leastOf_10 (by decide) ?_
      exact W.iret (v := 1) hx hb hr (fun t ht hW => ⟨1, rfl, (by show (1 : Int32) = ftLeast x; unfold ftLeast; first | (rw [if_pos (Or.inl c1)]; done) | (rw [if_pos (Or.inr c6)]; done) | (rw [if_neg (not_or.mpr ⟨c1, c6⟩), if_pos c15]; done) | (rw [if_neg (not_or.mpr ⟨c1, c6⟩), if_neg c15, if_pos c26]; done) | (rw [if_neg (not_or.mpr ⟨c1, c6⟩), if_neg c15, if_neg c26, if_pos c37]; done) | (rw [if_neg (not_or.mpr ⟨c1, c6⟩), if_neg c15, if_neg c26, if_neg c37]; done)), ht⟩) (fun _ h9 => absurd h9 List.not_mem_nil) dX11_leastOf_45
set_option maxHeartbeats 4000000 in
set_option maxRecDepth 100000 in
theorem c_X11_mostOf (l : Launch) (D : va_G) (cI cS : ClassId) (x : Int32)  : Met l yX11_mostOf wsX11_mostOf ({ frames := 0, cells := 0, slots := 0, locals := 0 }) (ftRO D cI cS [.int x] []) (vp_Si (fun o9 => o9 = ftMost x)) 0 0 (fun _ => False) := by
  refine Met.ofW (cc := cX11_mostOf) (maxL := 1) (ret := (some .int)) (by decide) rfl ?_
  intro p e s m args below meth c s₁ B hml hv
  obtain ⟨rfl, hP, hKK⟩ := hv
  have hK := hKK.1
  have hx := B.exec
  have hb := B.bytes
  have hr := B.returns
  have hts := atoms_spec (ws := wsX11_mostOf) B.pre
  have hown : s.vm.findClass RX11 = some m.cls := findClass_of_methodNamed B.named
  have hlocks := B.notSynchronized
  have hP : va_P D vwCl [] s.heap := hP
  have hl := lv_entry ([.int x]) (n := 1) (Nat.le_of_ble_eq_true rfl)
  rw [lg_entry_eq]
  generalize (lg_sl ([.int x]) ++ List.replicate (1 - (lg_sl ([.int x])).length) Slot.unset).toArray = ls at hl ⊢
  have hl : lv_has ls 1 [(0, .int x)] := hl
  refine lv_iload_n hx hb dX11_mostOf_0 rfl (lv_at hl 0 rfl) ?_
  by_cases c1_0 : x = 0
  · refine lv_tableIn (off := 55) (tgt := 56) hx hb dX11_mostOf_1 (by rw [c1_0]; decide) (by rw [c1_0]; decide) (by rw [c1_0]; decide) (by decide) ?_
    refine lv_bipush (v := 20) hx hb dX11_mostOf_56 (by decide) ?_
    exact W.iret (v := 20) hx hb hr (fun t ht hW => ⟨20, rfl, (by show (20 : Int32) = ftMost x; unfold ftMost; first | (subst c1_0; rfl) | (subst c1_1; rfl) | (subst c1_2; rfl) | (subst c1_3; rfl) | (subst c1_4; rfl) | (subst c1_5; rfl) | (subst c1_6; rfl) | (subst c1_7; rfl) | (subst c1_8; rfl) | (subst c1_9; rfl) | (rw [if_neg c1_0, if_neg c1_1, if_neg c1_2, if_neg c1_3, if_neg c1_4, if_neg c1_5, if_neg c1_6, if_neg c1_7, if_neg c1_8, if_neg c1_9]; done)), ht⟩) (fun _ h9 => absurd h9 List.not_mem_nil) dX11_mostOf_58
  by_cases c1_1 : x = 1
  · refine lv_tableIn (off := 58) (tgt := 59) hx hb dX11_mostOf_1 (by rw [c1_1]; decide) (by rw [c1_1]; decide) (by rw [c1_1]; decide) (by decide) ?_
    refine lv_sipush (v := 5000) hx hb dX11_mostOf_59 (by decide) ?_
    exact W.iret (v := 5000) hx hb hr (fun t ht hW => ⟨5000, rfl, (by show (5000 : Int32) = ftMost x; unfold ftMost; first | (subst c1_0; rfl) | (subst c1_1; rfl) | (subst c1_2; rfl) | (subst c1_3; rfl) | (subst c1_4; rfl) | (subst c1_5; rfl) | (subst c1_6; rfl) | (subst c1_7; rfl) | (subst c1_8; rfl) | (subst c1_9; rfl) | (rw [if_neg c1_0, if_neg c1_1, if_neg c1_2, if_neg c1_3, if_neg c1_4, if_neg c1_5, if_neg c1_6, if_neg c1_7, if_neg c1_8, if_neg c1_9]; done)), ht⟩) (fun _ h9 => absurd h9 List.not_mem_nil) dX11_mostOf_62
  by_cases c1_2 : x = 2
  · refine lv_tableIn (off := 62) (tgt := 63) hx hb dX11_mostOf_1 (by rw [c1_2]; decide) (by rw [c1_2]; decide) (by rw [c1_2]; decide) (by decide) ?_
    refine lv_ldc (v := 40000) hx hb hown (hts (.constant RX11 80 40000) (by decide +kernel)) dX11_mostOf_63 ?_
    exact W.iret (v := 40000) hx hb hr (fun t ht hW => ⟨40000, rfl, (by show (40000 : Int32) = ftMost x; unfold ftMost; first | (subst c1_0; rfl) | (subst c1_1; rfl) | (subst c1_2; rfl) | (subst c1_3; rfl) | (subst c1_4; rfl) | (subst c1_5; rfl) | (subst c1_6; rfl) | (subst c1_7; rfl) | (subst c1_8; rfl) | (subst c1_9; rfl) | (rw [if_neg c1_0, if_neg c1_1, if_neg c1_2, if_neg c1_3, if_neg c1_4, if_neg c1_5, if_neg c1_6, if_neg c1_7, if_neg c1_8, if_neg c1_9]; done)), ht⟩) (fun _ h9 => absurd h9 List.not_mem_nil) dX11_mostOf_65
  by_cases c1_3 : x = 3
  · refine lv_tableIn (off := 65) (tgt := 66) hx hb dX11_mostOf_1 (by rw [c1_3]; decide) (by rw [c1_3]; decide) (by rw [c1_3]; decide) (by decide) ?_
    refine lv_sipush (v := 400) hx hb dX11_mostOf_66 (by decide) ?_
    exact W.iret (v := 400) hx hb hr (fun t ht hW => ⟨400, rfl, (by show (400 : Int32) = ftMost x; unfold ftMost; first | (subst c1_0; rfl) | (subst c1_1; rfl) | (subst c1_2; rfl) | (subst c1_3; rfl) | (subst c1_4; rfl) | (subst c1_5; rfl) | (subst c1_6; rfl) | (subst c1_7; rfl) | (subst c1_8; rfl) | (subst c1_9; rfl) | (rw [if_neg c1_0, if_neg c1_1, if_neg c1_2, if_neg c1_3, if_neg c1_4, if_neg c1_5, if_neg c1_6, if_neg c1_7, if_neg c1_8, if_neg c1_9]; done)), ht⟩) (fun _ h9 => absurd h9 List.not_mem_nil) dX11_mostOf_69
  by_cases c1_4 : x = 4
  · refine lv_tableIn (off := 69) (tgt := 70) hx hb dX11_mostOf_1 (by rw [c1_4]; decide) (by rw [c1_4]; decide) (by rw [c1_4]; decide) (by decide) ?_
    refine lv_bipush (v := 32) hx hb dX11_mostOf_70 (by decide) ?_
    exact W.iret (v := 32) hx hb hr (fun t ht hW => ⟨32, rfl, (by show (32 : Int32) = ftMost x; unfold ftMost; first | (subst c1_0; rfl) | (subst c1_1; rfl) | (subst c1_2; rfl) | (subst c1_3; rfl) | (subst c1_4; rfl) | (subst c1_5; rfl) | (subst c1_6; rfl) | (subst c1_7; rfl) | (subst c1_8; rfl) | (subst c1_9; rfl) | (rw [if_neg c1_0, if_neg c1_1, if_neg c1_2, if_neg c1_3, if_neg c1_4, if_neg c1_5, if_neg c1_6, if_neg c1_7, if_neg c1_8, if_neg c1_9]; done)), ht⟩) (fun _ h9 => absurd h9 List.not_mem_nil) dX11_mostOf_72
  by_cases c1_5 : x = 5
  · refine lv_tableIn (off := 72) (tgt := 73) hx hb dX11_mostOf_1 (by rw [c1_5]; decide) (by rw [c1_5]; decide) (by rw [c1_5]; decide) (by decide) ?_
    refine lv_ldc (v := 65535) hx hb hown (hts (.constant RX11 81 65535) (by decide +kernel)) dX11_mostOf_73 ?_
    exact W.iret (v := 65535) hx hb hr (fun t ht hW => ⟨65535, rfl, (by show (65535 : Int32) = ftMost x; unfold ftMost; first | (subst c1_0; rfl) | (subst c1_1; rfl) | (subst c1_2; rfl) | (subst c1_3; rfl) | (subst c1_4; rfl) | (subst c1_5; rfl) | (subst c1_6; rfl) | (subst c1_7; rfl) | (subst c1_8; rfl) | (subst c1_9; rfl) | (rw [if_neg c1_0, if_neg c1_1, if_neg c1_2, if_neg c1_3, if_neg c1_4, if_neg c1_5, if_neg c1_6, if_neg c1_7, if_neg c1_8, if_neg c1_9]; done)), ht⟩) (fun _ h9 => absurd h9 List.not_mem_nil) dX11_mostOf_75
  by_cases c1_6 : x = 6
  · refine lv_tableIn (off := 58) (tgt := 59) hx hb dX11_mostOf_1 (by rw [c1_6]; decide) (by rw [c1_6]; decide) (by rw [c1_6]; decide) (by decide) ?_
    refine lv_sipush (v := 5000) hx hb dX11_mostOf_59 (by decide) ?_
    exact W.iret (v := 5000) hx hb hr (fun t ht hW => ⟨5000, rfl, (by show (5000 : Int32) = ftMost x; unfold ftMost; first | (subst c1_0; rfl) | (subst c1_1; rfl) | (subst c1_2; rfl) | (subst c1_3; rfl) | (subst c1_4; rfl) | (subst c1_5; rfl) | (subst c1_6; rfl) | (subst c1_7; rfl) | (subst c1_8; rfl) | (subst c1_9; rfl) | (rw [if_neg c1_0, if_neg c1_1, if_neg c1_2, if_neg c1_3, if_neg c1_4, if_neg c1_5, if_neg c1_6, if_neg c1_7, if_neg c1_8, if_neg c1_9]; done)), ht⟩) (fun _ h9 => absurd h9 List.not_mem_nil) dX11_mostOf_62
  by_cases c1_7 : x = 7
  · refine lv_tableIn (off := 75) (tgt := 76) hx hb dX11_mostOf_1 (by rw [c1_7]; decide) (by rw [c1_7]; decide) (by rw [c1_7]; decide) (by decide) ?_
    refine lv_sipush (v := 2000) hx hb dX11_mostOf_76 (by decide) ?_
    exact W.iret (v := 2000) hx hb hr (fun t ht hW => ⟨2000, rfl, (by show (2000 : Int32) = ftMost x; unfold ftMost; first | (subst c1_0; rfl) | (subst c1_1; rfl) | (subst c1_2; rfl) | (subst c1_3; rfl) | (subst c1_4; rfl) | (subst c1_5; rfl) | (subst c1_6; rfl) | (subst c1_7; rfl) | (subst c1_8; rfl) | (subst c1_9; rfl) | (rw [if_neg c1_0, if_neg c1_1, if_neg c1_2, if_neg c1_3, if_neg c1_4, if_neg c1_5, if_neg c1_6, if_neg c1_7, if_neg c1_8, if_neg c1_9]; done)), ht⟩) (fun _ h9 => absurd h9 List.not_mem_nil) dX11_mostOf_79
  by_cases c1_8 : x = 8
  · refine lv_tableIn (off := 62) (tgt := 63) hx hb dX11_mostOf_1 (by rw [c1_8]; decide) (by rw [c1_8]; decide) (by rw [c1_8]; decide) (by decide) ?_
    refine lv_ldc (v := 40000) hx hb hown (hts (.constant RX11 80 40000) (by decide +kernel)) dX11_mostOf_63 ?_
    exact W.iret (v := 40000) hx hb hr (fun t ht hW => ⟨40000, rfl, (by show (40000 : Int32) = ftMost x; unfold ftMost; first | (subst c1_0; rfl) | (subst c1_1; rfl) | (subst c1_2; rfl) | (subst c1_3; rfl) | (subst c1_4; rfl) | (subst c1_5; rfl) | (subst c1_6; rfl) | (subst c1_7; rfl) | (subst c1_8; rfl) | (subst c1_9; rfl) | (rw [if_neg c1_0, if_neg c1_1, if_neg c1_2, if_neg c1_3, if_neg c1_4, if_neg c1_5, if_neg c1_6, if_neg c1_7, if_neg c1_8, if_neg c1_9]; done)), ht⟩) (fun _ h9 => absurd h9 List.not_mem_nil) dX11_mostOf_65
  by_cases c1_9 : x = 9
  · refine lv_tableIn (off := 55) (tgt := 56) hx hb dX11_mostOf_1 (by rw [c1_9]; decide) (by rw [c1_9]; decide) (by rw [c1_9]; decide) (by decide) ?_
    refine lv_bipush (v := 20) hx hb dX11_mostOf_56 (by decide) ?_
    exact W.iret (v := 20) hx hb hr (fun t ht hW => ⟨20, rfl, (by show (20 : Int32) = ftMost x; unfold ftMost; first | (subst c1_0; rfl) | (subst c1_1; rfl) | (subst c1_2; rfl) | (subst c1_3; rfl) | (subst c1_4; rfl) | (subst c1_5; rfl) | (subst c1_6; rfl) | (subst c1_7; rfl) | (subst c1_8; rfl) | (subst c1_9; rfl) | (rw [if_neg c1_0, if_neg c1_1, if_neg c1_2, if_neg c1_3, if_neg c1_4, if_neg c1_5, if_neg c1_6, if_neg c1_7, if_neg c1_8, if_neg c1_9]; done)), ht⟩) (fun _ h9 => absurd h9 List.not_mem_nil) dX11_mostOf_58
  have c1_0i := lv_neT (a := 0) c1_0 (by decide)
  have c1_1i := lv_neT (a := 1) c1_1 (by decide)
  have c1_2i := lv_neT (a := 2) c1_2 (by decide)
  have c1_3i := lv_neT (a := 3) c1_3 (by decide)
  have c1_4i := lv_neT (a := 4) c1_4 (by decide)
  have c1_5i := lv_neT (a := 5) c1_5 (by decide)
  have c1_6i := lv_neT (a := 6) c1_6 (by decide)
  have c1_7i := lv_neT (a := 7) c1_7 (by decide)
  have c1_8i := lv_neT (a := 8) c1_8 (by decide)
  have c1_9i := lv_neT (a := 9) c1_9 (by decide)
  refine lv_tableOut (tgt := 76) hx hb dX11_mostOf_1 (by omega) (by decide) ?_
  refine lv_sipush (v := 2000) hx hb dX11_mostOf_76 (by decide) ?_
  exact W.iret (v := 2000) hx hb hr (fun t ht hW => ⟨2000, rfl, (by show (2000 : Int32) = ftMost x; unfold ftMost; first | (subst c1_0; rfl) | (subst c1_1; rfl) | (subst c1_2; rfl) | (subst c1_3; rfl) | (subst c1_4; rfl) | (subst c1_5; rfl) | (subst c1_6; rfl) | (subst c1_7; rfl) | (subst c1_8; rfl) | (subst c1_9; rfl) | (rw [if_neg c1_0, if_neg c1_1, if_neg c1_2, if_neg c1_3, if_neg c1_4, if_neg c1_5, if_neg c1_6, if_neg c1_7, if_neg c1_8, if_neg c1_9]; done)), ht⟩) (fun _ h9 => absurd h9 List.not_mem_nil) dX11_mostOf_79
set_option maxHeartbeats 4000000 in
set_option maxRecDepth 100000 in
theorem c_X11_in (l : Launch) (D : va_G) (cI cS : ClassId) (v lo hi : Int64)  : Met l yX11_in wsX11_in ({ frames := 0, cells := 0, slots := 0, locals := 0 }) (ftRO D cI cS [.long v, .long lo, .long hi] []) (vp_Si (fun o9 => o9 = ftB (lo ≤ v ∧ v ≤ hi))) 0 0 (fun _ => False) := by
  refine Met.ofW (cc := cX11_in) (maxL := 6) (ret := (some .boolean)) (by decide) rfl ?_
  intro p e s m args below meth c s₁ B hml hv
  obtain ⟨rfl, hP, hKK⟩ := hv
  have hK := hKK.1
  have hx := B.exec
  have hb := B.bytes
  have hr := B.returns
  have hts := atoms_spec (ws := wsX11_in) B.pre
  have hown : s.vm.findClass RX11 = some m.cls := findClass_of_methodNamed B.named
  have hlocks := B.notSynchronized
  have hP : va_P D vwCl [] s.heap := hP
  have hl := lv_entry ([.long v, .long lo, .long hi]) (n := 6) (Nat.le_of_ble_eq_true rfl)
  rw [lg_entry_eq]
  generalize (lg_sl ([.long v, .long lo, .long hi]) ++ List.replicate (6 - (lg_sl ([.long v, .long lo, .long hi])).length) Slot.unset).toArray = ls at hl ⊢
  have hl : lv_has ls 6 [(0, .long v), (2, .long lo), (4, .long hi)] := hl
  refine lv_lload_n hx hb dX11_in_0 rfl (lv_at hl 0 rfl) ?_
  refine lv_lload_n hx hb dX11_in_1 rfl (lv_at hl 1 rfl) ?_
  refine W.lcmp hx hb dX11_in_2 ?_
  refine lv_if_lt (tgt := 17) hx hb dX11_in_3 (by decide) (fun c3 => ?_) (fun c3 => ?_)
  · refine lv_iconst (v := 0) hx hb dX11_in_17 (by decide) ?_
    exact W.zret (v := 0) hx hb hr (by rfl) (fun t ht hW => ⟨0, rfl, (by show (0 : Int32) = ftB (lo ≤ v ∧ v ≤ hi); first | exact (ftB_t ⟨Int64.not_lt.mp (fun q => c3 ((lg_cmp_lt _ _).mpr q)), Int64.not_lt.mp (fun q => c10 ((lg_cmp_gt _ _).mpr q))⟩).symm | exact (ftB_f (fun q => absurd ((lg_cmp_gt _ _).mp c10) (Int64.not_lt.mpr q.2))).symm | exact (ftB_f (fun q => absurd ((lg_cmp_lt _ _).mp c3) (Int64.not_lt.mpr q.1))).symm), ht⟩) (fun _ h9 => absurd h9 List.not_mem_nil) dX11_in_18
  · refine lv_lload_n hx hb dX11_in_6 rfl (lv_at hl 0 rfl) ?_
    refine lv_lload hx hb dX11_in_7 (lv_at hl 2 rfl) ?_
    refine W.lcmp hx hb dX11_in_9 ?_
    refine lv_if_gt (tgt := 17) hx hb dX11_in_10 (by decide) (fun c10 => ?_) (fun c10 => ?_)
    · refine lv_iconst (v := 0) hx hb dX11_in_17 (by decide) ?_
      exact W.zret (v := 0) hx hb hr (by rfl) (fun t ht hW => ⟨0, rfl, (by show (0 : Int32) = ftB (lo ≤ v ∧ v ≤ hi); first | exact (ftB_t ⟨Int64.not_lt.mp (fun q => c3 ((lg_cmp_lt _ _).mpr q)), Int64.not_lt.mp (fun q => c10 ((lg_cmp_gt _ _).mpr q))⟩).symm | exact (ftB_f (fun q => absurd ((lg_cmp_gt _ _).mp c10) (Int64.not_lt.mpr q.2))).symm | exact (ftB_f (fun q => absurd ((lg_cmp_lt _ _).mp c3) (Int64.not_lt.mpr q.1))).symm), ht⟩) (fun _ h9 => absurd h9 List.not_mem_nil) dX11_in_18
    · refine lv_iconst (v := 1) hx hb dX11_in_13 (by decide) ?_
      refine lv_goto (tgt := 18) hx hb dX11_in_14 (by decide) ?_
      exact W.zret (v := 1) hx hb hr (by rfl) (fun t ht hW => ⟨1, rfl, (by show (1 : Int32) = ftB (lo ≤ v ∧ v ≤ hi); first | exact (ftB_t ⟨Int64.not_lt.mp (fun q => c3 ((lg_cmp_lt _ _).mpr q)), Int64.not_lt.mp (fun q => c10 ((lg_cmp_gt _ _).mpr q))⟩).symm | exact (ftB_f (fun q => absurd ((lg_cmp_gt _ _).mp c10) (Int64.not_lt.mpr q.2))).symm | exact (ftB_f (fun q => absurd ((lg_cmp_lt _ _).mp c3) (Int64.not_lt.mpr q.1))).symm), ht⟩) (fun _ h9 => absurd h9 List.not_mem_nil) dX11_in_18
set_option maxHeartbeats 4000000 in
set_option maxRecDepth 100000 in
theorem c_X11_sizeOf (l : Launch) (D : va_G) (cI cS : ClassId) (x : Int32)  : Met l yX11_sizeOf wsX11_sizeOf ({ frames := 0, cells := 0, slots := 0, locals := 0 }) (ftRO D cI cS [.int x] []) (vp_Si (fun o9 => o9 = ftSz x)) 0 0 (fun _ => False) := by
  refine Met.ofW (cc := cX11_sizeOf) (maxL := 1) (ret := (some .int)) (by decide) rfl ?_
  intro p e s m args below meth c s₁ B hml hv
  obtain ⟨rfl, hP, hKK⟩ := hv
  have hK := hKK.1
  have hx := B.exec
  have hb := B.bytes
  have hr := B.returns
  have hts := atoms_spec (ws := wsX11_sizeOf) B.pre
  have hown : s.vm.findClass RX11 = some m.cls := findClass_of_methodNamed B.named
  have hlocks := B.notSynchronized
  have hP : va_P D vwCl [] s.heap := hP
  have hl := lv_entry ([.int x]) (n := 1) (Nat.le_of_ble_eq_true rfl)
  rw [lg_entry_eq]
  generalize (lg_sl ([.int x]) ++ List.replicate (1 - (lg_sl ([.int x])).length) Slot.unset).toArray = ls at hl ⊢
  have hl : lv_has ls 1 [(0, .int x)] := hl
  refine lv_iload_n hx hb dX11_sizeOf_0 rfl (lv_at hl 0 rfl) ?_
  refine lv_if_ge (tgt := 9) hx hb dX11_sizeOf_1 (by decide) (fun c1 => ?_) (fun c1 => ?_)
  · refine lv_iload_n hx hb dX11_sizeOf_9 rfl (lv_at hl 0 rfl) ?_
    exact W.iret (v := x) hx hb hr (fun t ht hW => ⟨x, rfl, (by show (x : Int32) = ftSz x; unfold ftSz; first | (rw [if_neg (Int32.not_lt.mpr c1)]; done) | (rw [if_pos (Int32.not_le.mp c1)]; done)), ht⟩) (fun _ h9 => absurd h9 List.not_mem_nil) dX11_sizeOf_10
  · refine lv_iload_n hx hb dX11_sizeOf_4 rfl (lv_at hl 0 rfl) ?_
    refine lv_ineg hx hb dX11_sizeOf_5 ?_
    refine lv_goto (tgt := 10) hx hb dX11_sizeOf_6 (by decide) ?_
    exact W.iret (v := -x) hx hb hr (fun t ht hW => ⟨-x, rfl, (by show (-x : Int32) = ftSz x; unfold ftSz; first | (rw [if_neg (Int32.not_lt.mpr c1)]; done) | (rw [if_pos (Int32.not_le.mp c1)]; done)), ht⟩) (fun _ h9 => absurd h9 List.not_mem_nil) dX11_sizeOf_10
set_option maxHeartbeats 4000000 in
set_option maxRecDepth 100000 in
theorem c_X11_setting (l : Launch) (D : va_G) (cI cS : ClassId) (m0 p0 p1 p3 p5 p10 p12 p13 p14 p16 p17 p19 p20 p21 p22 p25 p26 p27 p28 p29 p30 p31 p32 : Nat) (i2 i4 i6 i7 i8 i9 i11 i15 i18 i23 i24 : Int32) (w : Nat → Int32) (j : Nat) (hj : j < 1000) : Met l yX11_setting wsX11_setting ({ frames := 0, cells := 0, slots := 0, locals := 0 }) (ftRO D cI cS [.ref m0, .int (nI j)] [(m0, .inr (11, [.ref p0, .ref p1, .int i2, .ref p3, .int i4, .ref p5, .int i6, .int i7, .int i8, .int i9, .ref p10, .int i11, .ref p12, .ref p13, .ref p14, .int i15, .ref p16, .ref p17, .int i18, .ref p19, .ref p20, .ref p21, .ref p22, .int i23, .int i24, .ref p25, .ref p26, .ref p27, .ref p28, .ref p29, .ref p30, .ref p31, .ref p32])), (p0, .inl (cI, 1439, .inl w))]) (vp_Si (fun o9 => o9 = w (44 + j))) 0 0 (fun _ => False) := by
  refine Met.ofW (cc := cX11_setting) (maxL := 2) (ret := (some .int)) (by decide) rfl ?_
  intro p e s m args below meth c s₁ B hml hv
  obtain ⟨rfl, hP, hKK⟩ := hv
  have hK := hKK.1
  have hx := B.exec
  have hb := B.bytes
  have hr := B.returns
  have hts := atoms_spec (ws := wsX11_setting) B.pre
  have hown : s.vm.findClass RX11 = some m.cls := findClass_of_methodNamed B.named
  have hlocks := B.notSynchronized
  have hP : va_P D vwCl [(m0, .inr (11, [.ref p0, .ref p1, .int i2, .ref p3, .int i4, .ref p5, .int i6, .int i7, .int i8, .int i9, .ref p10, .int i11, .ref p12, .ref p13, .ref p14, .int i15, .ref p16, .ref p17, .int i18, .ref p19, .ref p20, .ref p21, .ref p22, .int i23, .int i24, .ref p25, .ref p26, .ref p27, .ref p28, .ref p29, .ref p30, .ref p31, .ref p32])), (p0, .inl (cI, 1439, .inl w))] s.heap := hP
  have hl := lv_entry ([.ref m0, .int (nI j)]) (n := 2) (Nat.le_of_ble_eq_true rfl)
  rw [lg_entry_eq]
  generalize (lg_sl ([.ref m0, .int (nI j)]) ++ List.replicate (2 - (lg_sl ([.ref m0, .int (nI j)])).length) Slot.unset).toArray = ls at hl ⊢
  have hl : lv_has ls 2 [(0, .ref m0), (1, .int (nI j))] := hl
  refine lv_aload_n hx hb dX11_setting_0 rfl (lv_at hl 0 rfl) ?_
  refine va_get (D := D) (ci := 11) (v := .ref p0) (C := RX11) (T := TX11) (N := 33) hx hb hts (by decide +kernel) hown hK hP 0 rfl rfl 0 (by decide) (hts (.fieldLink RX11 7 "FiberTraceModel" "now" "[I") (by decide +kernel)) (fun _ h9 => h9) rfl dX11_setting_1 ?_
  refine lv_bipush (v := 44) hx hb dX11_setting_4 (by decide) ?_
  refine lv_iload_n hx hb dX11_setting_6 rfl (lv_at hl 1 rfl) ?_
  refine lv_iadd hx hb dX11_setting_7 ?_
  refine ft_top (y := nI (44 + j)) (ft_addN 44 j) ?_
  refine va_iald hx hb hK hP 1 0 rfl rfl (vp_in_nI (by omega) (by omega)) dX11_setting_8 ?_
  refine ft_top (y := w (44 + j)) (ft_clampN (by omega)) ?_
  exact W.iret (v := w (44 + j)) hx hb hr (fun t ht hW => ⟨w (44 + j), rfl, rfl, ht⟩) (fun _ h9 => absurd h9 List.not_mem_nil) dX11_setting_9
set_option maxHeartbeats 4000000 in
set_option maxRecDepth 100000 in
theorem c_X11_at (l : Launch) (D : va_G) (cI cS : ClassId) (m0 p0 p1 p3 p5 p10 p12 p13 p14 p16 p17 p19 p20 p21 p22 p25 p26 p27 p28 p29 p30 p31 p32 : Nat) (i2 i4 i6 i7 i8 i9 i11 i15 i18 i23 i24 : Int32) (w : Nat → Int32) (k j : Nat) (hk : k < 10) (hj : j < 4) : Met l yX11_at wsX11_at ({ frames := 0, cells := 0, slots := 0, locals := 0 }) (ftRO D cI cS [.ref m0, .int (nI k), .int (nI j)] [(m0, .inr (11, [.ref p0, .ref p1, .int i2, .ref p3, .int i4, .ref p5, .int i6, .int i7, .int i8, .int i9, .ref p10, .int i11, .ref p12, .ref p13, .ref p14, .int i15, .ref p16, .ref p17, .int i18, .ref p19, .ref p20, .ref p21, .ref p22, .int i23, .int i24, .ref p25, .ref p26, .ref p27, .ref p28, .ref p29, .ref p30, .ref p31, .ref p32])), (p0, .inl (cI, 1439, .inl w))]) (vp_Si (fun o9 => o9 = w (4 + 4 * k + j))) 0 0 (fun _ => False) := by
  refine Met.ofW (cc := cX11_at) (maxL := 3) (ret := (some .int)) (by decide) rfl ?_
  intro p e s m args below meth c s₁ B hml hv
  obtain ⟨rfl, hP, hKK⟩ := hv
  have hK := hKK.1
  have hx := B.exec
  have hb := B.bytes
  have hr := B.returns
  have hts := atoms_spec (ws := wsX11_at) B.pre
  have hown : s.vm.findClass RX11 = some m.cls := findClass_of_methodNamed B.named
  have hlocks := B.notSynchronized
  have hP : va_P D vwCl [(m0, .inr (11, [.ref p0, .ref p1, .int i2, .ref p3, .int i4, .ref p5, .int i6, .int i7, .int i8, .int i9, .ref p10, .int i11, .ref p12, .ref p13, .ref p14, .int i15, .ref p16, .ref p17, .int i18, .ref p19, .ref p20, .ref p21, .ref p22, .int i23, .int i24, .ref p25, .ref p26, .ref p27, .ref p28, .ref p29, .ref p30, .ref p31, .ref p32])), (p0, .inl (cI, 1439, .inl w))] s.heap := hP
  have hl := lv_entry ([.ref m0, .int (nI k), .int (nI j)]) (n := 3) (Nat.le_of_ble_eq_true rfl)
  rw [lg_entry_eq]
  generalize (lg_sl ([.ref m0, .int (nI k), .int (nI j)]) ++ List.replicate (3 - (lg_sl ([.ref m0, .int (nI k), .int (nI j)])).length) Slot.unset).toArray = ls at hl ⊢
  have hl : lv_has ls 3 [(0, .ref m0), (1, .int (nI k)), (2, .int (nI j))] := hl
  refine lv_aload_n hx hb dX11_at_0 rfl (lv_at hl 0 rfl) ?_
  refine va_get (D := D) (ci := 11) (v := .ref p0) (C := RX11) (T := TX11) (N := 33) hx hb hts (by decide +kernel) hown hK hP 0 rfl rfl 0 (by decide) (hts (.fieldLink RX11 7 "FiberTraceModel" "now" "[I") (by decide +kernel)) (fun _ h9 => h9) rfl dX11_at_1 ?_
  refine lv_iconst (v := 4) hx hb dX11_at_4 (by decide) ?_
  refine lv_iconst (v := 4) hx hb dX11_at_5 (by decide) ?_
  refine lv_iload_n hx hb dX11_at_6 rfl (lv_at hl 1 rfl) ?_
  refine lv_imul hx hb dX11_at_7 ?_
  refine ft_top (y := nI (4 * k)) (ft_mulN 4 k) ?_
  refine lv_iadd hx hb dX11_at_8 ?_
  refine ft_top (y := nI (4 + (4 * k))) (ft_addN 4 (4 * k)) ?_
  refine lv_iload_n hx hb dX11_at_9 rfl (lv_at hl 2 rfl) ?_
  refine lv_iadd hx hb dX11_at_10 ?_
  refine ft_top (y := nI ((4 + (4 * k)) + j)) (ft_addN (4 + (4 * k)) j) ?_
  refine va_iald hx hb hK hP 1 0 rfl rfl (vp_in_nI (by omega) (by omega)) dX11_at_11 ?_
  refine ft_top (y := w ((4 + (4 * k)) + j)) (ft_clampN (by omega)) ?_
  exact W.iret (v := w ((4 + (4 * k)) + j)) hx hb hr (fun t ht hW => ⟨w ((4 + (4 * k)) + j), rfl, rfl, ht⟩) (fun _ h9 => absurd h9 List.not_mem_nil) dX11_at_12
set_option maxHeartbeats 4000000 in
set_option maxRecDepth 100000 in
theorem c_X11_samples (l : Launch) (D : va_G) (cI cS : ClassId) (m0 p0 p1 p3 p5 p10 p12 p13 p14 p16 p17 p19 p20 p21 p22 p25 p26 p27 p28 p29 p30 p31 p32 : Nat) (i2 i4 i6 i7 i8 i9 i11 i15 i18 i23 i24 : Int32) (w : Nat → Int32) (ln : Nat) (hw0 : w 0 = nI ln) : Met l yX11_samples wsX11_samples ({ frames := 0, cells := 0, slots := 0, locals := 0 }) (ftRO D cI cS [.ref m0] [(m0, .inr (11, [.ref p0, .ref p1, .int i2, .ref p3, .int i4, .ref p5, .int i6, .int i7, .int i8, .int i9, .ref p10, .int i11, .ref p12, .ref p13, .ref p14, .int i15, .ref p16, .ref p17, .int i18, .ref p19, .ref p20, .ref p21, .ref p22, .int i23, .int i24, .ref p25, .ref p26, .ref p27, .ref p28, .ref p29, .ref p30, .ref p31, .ref p32])), (p0, .inl (cI, 1439, .inl w))]) (vp_Si (fun o9 => o9 = nI (ln + 60))) 0 0 (fun _ => False) := by
  refine Met.ofW (cc := cX11_samples) (maxL := 1) (ret := (some .int)) (by decide) rfl ?_
  intro p e s m args below meth c s₁ B hml hv
  obtain ⟨rfl, hP, hKK⟩ := hv
  have hK := hKK.1
  have hx := B.exec
  have hb := B.bytes
  have hr := B.returns
  have hts := atoms_spec (ws := wsX11_samples) B.pre
  have hown : s.vm.findClass RX11 = some m.cls := findClass_of_methodNamed B.named
  have hlocks := B.notSynchronized
  have hP : va_P D vwCl [(m0, .inr (11, [.ref p0, .ref p1, .int i2, .ref p3, .int i4, .ref p5, .int i6, .int i7, .int i8, .int i9, .ref p10, .int i11, .ref p12, .ref p13, .ref p14, .int i15, .ref p16, .ref p17, .int i18, .ref p19, .ref p20, .ref p21, .ref p22, .int i23, .int i24, .ref p25, .ref p26, .ref p27, .ref p28, .ref p29, .ref p30, .ref p31, .ref p32])), (p0, .inl (cI, 1439, .inl w))] s.heap := hP
  have hl := lv_entry ([.ref m0]) (n := 1) (Nat.le_of_ble_eq_true rfl)
  rw [lg_entry_eq]
  generalize (lg_sl ([.ref m0]) ++ List.replicate (1 - (lg_sl ([.ref m0])).length) Slot.unset).toArray = ls at hl ⊢
  have hl : lv_has ls 1 [(0, .ref m0)] := hl
  refine lv_aload_n hx hb dX11_samples_0 rfl (lv_at hl 0 rfl) ?_
  refine va_get (D := D) (ci := 11) (v := .ref p0) (C := RX11) (T := TX11) (N := 33) hx hb hts (by decide +kernel) hown hK hP 0 rfl rfl 0 (by decide) (hts (.fieldLink RX11 7 "FiberTraceModel" "now" "[I") (by decide +kernel)) (fun _ h9 => h9) rfl dX11_samples_1 ?_
  refine lv_iconst (v := 0) hx hb dX11_samples_4 (by decide) ?_
  refine va_iald hx hb hK hP 1 0 rfl rfl (vp_in_nI (n := 0) (by omega) (by omega)) dX11_samples_5 ?_
  refine ft_top (y := w 0) rfl ?_
  refine ft_top (y := nI ln) hw0 ?_
  refine lv_bipush (v := 60) hx hb dX11_samples_6 (by decide) ?_
  refine lv_iadd hx hb dX11_samples_8 ?_
  refine ft_top (y := nI (ln + 60)) (ft_addN ln 60) ?_
  exact W.iret (v := nI (ln + 60)) hx hb hr (fun t ht hW => ⟨nI (ln + 60), rfl, rfl, ht⟩) (fun _ h9 => absurd h9 List.not_mem_nil) dX11_samples_9
set_option maxHeartbeats 4000000 in
set_option maxRecDepth 100000 in
theorem c_X11_v (l : Launch) (D : va_G) (cI cS : ClassId) (m0 p0 p1 p3 p5 p10 p12 p13 p14 p16 p17 p19 p20 p21 p22 p25 p26 p27 p28 p29 p30 p31 p32 : Nat) (i2 i4 i6 i7 i8 i9 i11 i15 i18 i23 i24 : Int32) (fb fp fn : Nat → Int32) (x : Nat) (hx4 : x < 460) : Met l yX11_v wsX11_v ({ frames := 0, cells := 0, slots := 0, locals := 0 }) (ftRO D cI cS [.ref m0, .int (nI x)] [(m0, .inr (11, [.ref p0, .ref p1, .int i2, .ref p3, .int i4, .ref p5, .int i6, .int i7, .int i8, .int i9, .ref p10, .int i11, .ref p12, .ref p13, .ref p14, .int i15, .ref p16, .ref p17, .int i18, .ref p19, .ref p20, .ref p21, .ref p22, .int i23, .int i24, .ref p25, .ref p26, .ref p27, .ref p28, .ref p29, .ref p30, .ref p31, .ref p32])), (p12, .inl (cI, 460, .inl fb)), (p13, .inl (cI, 460, .inl fp)), (p14, .inl (cI, 460, .inl fn))]) (vp_Si (fun o9 => o9 = fb x + fp x + fn x)) 0 0 (fun _ => False) := by
  refine Met.ofW (cc := cX11_v) (maxL := 2) (ret := (some .int)) (by decide) rfl ?_
  intro p e s m args below meth c s₁ B hml hv
  obtain ⟨rfl, hP, hKK⟩ := hv
  have hK := hKK.1
  have hx := B.exec
  have hb := B.bytes
  have hr := B.returns
  have hts := atoms_spec (ws := wsX11_v) B.pre
  have hown : s.vm.findClass RX11 = some m.cls := findClass_of_methodNamed B.named
  have hlocks := B.notSynchronized
  have hP : va_P D vwCl [(m0, .inr (11, [.ref p0, .ref p1, .int i2, .ref p3, .int i4, .ref p5, .int i6, .int i7, .int i8, .int i9, .ref p10, .int i11, .ref p12, .ref p13, .ref p14, .int i15, .ref p16, .ref p17, .int i18, .ref p19, .ref p20, .ref p21, .ref p22, .int i23, .int i24, .ref p25, .ref p26, .ref p27, .ref p28, .ref p29, .ref p30, .ref p31, .ref p32])), (p12, .inl (cI, 460, .inl fb)), (p13, .inl (cI, 460, .inl fp)), (p14, .inl (cI, 460, .inl fn))] s.heap := hP
  have hl := lv_entry ([.ref m0, .int (nI x)]) (n := 2) (Nat.le_of_ble_eq_true rfl)
  rw [lg_entry_eq]
  generalize (lg_sl ([.ref m0, .int (nI x)]) ++ List.replicate (2 - (lg_sl ([.ref m0, .int (nI x)])).length) Slot.unset).toArray = ls at hl ⊢
  have hl : lv_has ls 2 [(0, .ref m0), (1, .int (nI x))] := hl
  refine lv_aload_n hx hb dX11_v_0 rfl (lv_at hl 0 rfl) ?_
  refine va_get (D := D) (ci := 11) (v := .ref p12) (C := RX11) (T := TX11) (N := 33) hx hb hts (by decide +kernel) hown hK hP 0 rfl rfl 12 (by decide) (hts (.fieldLink RX11 25 "FiberTraceModel" "base" "[I") (by decide +kernel)) (fun _ h9 => h9) rfl dX11_v_1 ?_
  refine lv_iload_n hx hb dX11_v_4 rfl (lv_at hl 1 rfl) ?_
  refine va_iald hx hb hK hP 1 0 rfl rfl (vp_in_nI (by omega) (by omega)) dX11_v_5 ?_
  refine ft_top (y := fb x) (ft_clampN (by omega)) ?_
  refine lv_aload_n hx hb dX11_v_6 rfl (lv_at hl 0 rfl) ?_
  refine va_get (D := D) (ci := 11) (v := .ref p13) (C := RX11) (T := TX11) (N := 33) hx hb hts (by decide +kernel) hown hK hP 0 rfl rfl 13 (by decide) (hts (.fieldLink RX11 28 "FiberTraceModel" "peak" "[I") (by decide +kernel)) (fun _ h9 => h9) rfl dX11_v_7 ?_
  refine lv_iload_n hx hb dX11_v_10 rfl (lv_at hl 1 rfl) ?_
  refine va_iald hx hb hK hP 2 0 rfl rfl (vp_in_nI (by omega) (by omega)) dX11_v_11 ?_
  refine ft_top (y := fp x) (ft_clampN (by omega)) ?_
  refine lv_iadd hx hb dX11_v_12 ?_
  refine lv_aload_n hx hb dX11_v_13 rfl (lv_at hl 0 rfl) ?_
  refine va_get (D := D) (ci := 11) (v := .ref p14) (C := RX11) (T := TX11) (N := 33) hx hb hts (by decide +kernel) hown hK hP 0 rfl rfl 14 (by decide) (hts (.fieldLink RX11 31 "FiberTraceModel" "noise" "[I") (by decide +kernel)) (fun _ h9 => h9) rfl dX11_v_14 ?_
  refine lv_iload_n hx hb dX11_v_17 rfl (lv_at hl 1 rfl) ?_
  refine va_iald hx hb hK hP 3 0 rfl rfl (vp_in_nI (by omega) (by omega)) dX11_v_18 ?_
  refine ft_top (y := fn x) (ft_clampN (by omega)) ?_
  refine lv_iadd hx hb dX11_v_19 ?_
  exact W.iret (v := ((fb x) + (fp x)) + (fn x)) hx hb hr (fun t ht hW => ⟨((fb x) + (fp x)) + (fn x), rfl, rfl, ht⟩) (fun _ h9 => absurd h9 List.not_mem_nil) dX11_v_20
set_option maxHeartbeats 4000000 in
set_option maxRecDepth 100000 in
theorem c_X11_isPart (l : Launch) (D : va_G) (cI cS : ClassId) (m0 p0 p1 p3 p5 p10 p12 p13 p14 p16 p17 p19 p20 p21 p22 p25 p26 p27 p28 p29 p30 p31 p32 : Nat) (i2 i4 i6 i7 i8 i9 i11 i15 i18 i23 i24 : Int32) (w : Nat → Int32) (x : Int32)  : Met l yX11_isPart wsX11_isPart ({ frames := 1, cells := 0, slots := 0, locals := 25 }) (ftRO D cI cS [.ref m0, .int x] [(m0, .inr (11, [.ref p0, .ref p1, .int i2, .ref p3, .int i4, .ref p5, .int i6, .int i7, .int i8, .int i9, .ref p10, .int i11, .ref p12, .ref p13, .ref p14, .int i15, .ref p16, .ref p17, .int i18, .ref p19, .ref p20, .ref p21, .ref p22, .int i23, .int i24, .ref p25, .ref p26, .ref p27, .ref p28, .ref p29, .ref p30, .ref p31, .ref p32])), (p0, .inl (cI, 1439, .inl w))]) (vp_Si (fun o9 => o9 = ftB (0 ≤ x ∧ x ≤ w 3 - 1))) 0 0 (fun _ => False) := by
  refine Met.ofW (cc := cX11_isPart) (maxL := 2) (ret := (some .boolean)) (by decide) rfl ?_
  intro p e s m args below meth c s₁ B hml hv
  obtain ⟨rfl, hP, hKK⟩ := hv
  have hK := hKK.1
  have hx := B.exec
  have hb := B.bytes
  have hr := B.returns
  have hts := atoms_spec (ws := wsX11_isPart) B.pre
  have hown : s.vm.findClass RX11 = some m.cls := findClass_of_methodNamed B.named
  have hlocks := B.notSynchronized
  have hP : va_P D vwCl [(m0, .inr (11, [.ref p0, .ref p1, .int i2, .ref p3, .int i4, .ref p5, .int i6, .int i7, .int i8, .int i9, .ref p10, .int i11, .ref p12, .ref p13, .ref p14, .int i15, .ref p16, .ref p17, .int i18, .ref p19, .ref p20, .ref p21, .ref p22, .int i23, .int i24, .ref p25, .ref p26, .ref p27, .ref p28, .ref p29, .ref p30, .ref p31, .ref p32])), (p0, .inl (cI, 1439, .inl w))] s.heap := hP
  have hl := lv_entry ([.ref m0, .int x]) (n := 2) (Nat.le_of_ble_eq_true rfl)
  rw [lg_entry_eq]
  generalize (lg_sl ([.ref m0, .int x]) ++ List.replicate (2 - (lg_sl ([.ref m0, .int x])).length) Slot.unset).toArray = ls at hl ⊢
  have hl : lv_has ls 2 [(0, .ref m0), (1, .int x)] := hl
  refine lv_iload_n hx hb dX11_isPart_0 rfl (lv_at hl 1 rfl) ?_
  refine lv_i2l (v := x.toInt64) hx hb dX11_isPart_1 rfl ?_
  refine lv_lconst (v := 0) hx hb dX11_isPart_2 (by decide) ?_
  refine lv_aload_n hx hb dX11_isPart_3 rfl (lv_at hl 0 rfl) ?_
  refine va_get (D := D) (ci := 11) (v := .ref p0) (C := RX11) (T := TX11) (N := 33) hx hb hts (by decide +kernel) hown hK hP 0 rfl rfl 0 (by decide) (hts (.fieldLink RX11 7 "FiberTraceModel" "now" "[I") (by decide +kernel)) (fun _ h9 => h9) rfl dX11_isPart_4 ?_
  refine lv_iconst (v := 3) hx hb dX11_isPart_7 (by decide) ?_
  refine va_iald hx hb hK hP 1 0 rfl rfl (vp_in_nI (n := 3) (by omega) (by omega)) dX11_isPart_8 ?_
  refine ft_top (y := w 3) rfl ?_
  refine lv_iconst (v := 1) hx hb dX11_isPart_9 (by decide) ?_
  refine lv_isub hx hb dX11_isPart_10 ?_
  refine lv_i2l (v := ((w 3) - 1).toInt64) hx hb dX11_isPart_11 rfl ?_
  refine ft_csi (r := ftB (0 ≤ x.toInt64 ∧ x.toInt64 ≤ (((w 3) - 1).toInt64))) (va_runS (As := [.long x.toInt64, .long 0, .long (((w 3) - 1).toInt64)]) (rest := []) ⟨hx, hb, hml, hown, hts⟩ (c_X11_in l D cI cS x.toInt64 0 (((w 3) - 1).toInt64)) (va_cwS 3 hts gX11_isPart_X11_in rfl rfl rfl (by decide +kernel) ⟨Nat.le_of_ble_eq_true rfl, Nat.le_of_ble_eq_true rfl⟩) (ft_preRO hP hKK [] rfl) rfl rfl hl.1 rfl (lv_room (Nat.le_of_ble_eq_true rfl)) dX11_isPart_12 ⟨Nat.le_of_ble_eq_true rfl, Nat.le_of_ble_eq_true rfl⟩) ?_
  refine ft_top (y := ftB (0 ≤ x ∧ x ≤ ((w 3) - 1))) (ft_in64 (by decide) (Int32.toInt_toInt64 _)) ?_
  exact W.zret (v := ftB (0 ≤ x ∧ x ≤ ((w 3) - 1))) hx hb hr (by first | rfl | exact ftB_nar) (fun t ht hW => ⟨ftB (0 ≤ x ∧ x ≤ ((w 3) - 1)), rfl, rfl, ht⟩) (fun _ h9 => absurd h9 List.not_mem_nil) dX11_isPart_15
set_option maxHeartbeats 4000000 in
set_option maxRecDepth 100000 in
theorem c_X11_partAt (l : Launch) (D : va_G) (cI cS : ClassId) (m0 p0 p1 p3 p5 p10 p12 p13 p14 p16 p17 p19 p20 p21 p22 p25 p26 p27 p28 p29 p30 p31 p32 : Nat) (i2 i4 i6 i7 i8 i9 i11 i15 i18 i23 i24 : Int32) (w : Nat → Int32) (x : Int32) (n : Nat) (hw3 : w 3 = nI n) (hn : n ≤ 10) : Met l yX11_partAt wsX11_partAt ({ frames := 1, cells := 0, slots := 0, locals := 22 }) (ftRO D cI cS [.ref m0, .int x] [(m0, .inr (11, [.ref p0, .ref p1, .int i2, .ref p3, .int i4, .ref p5, .int i6, .int i7, .int i8, .int i9, .ref p10, .int i11, .ref p12, .ref p13, .ref p14, .int i15, .ref p16, .ref p17, .int i18, .ref p19, .ref p20, .ref p21, .ref p22, .int i23, .int i24, .ref p25, .ref p26, .ref p27, .ref p28, .ref p29, .ref p30, .ref p31, .ref p32])), (p0, .inl (cI, 1439, .inl w))]) (vp_Si (fun o9 => o9 = ftPa w x n)) 0 0 (fun _ => False) := by
  refine Met.ofW (cc := cX11_partAt) (maxL := 4) (ret := (some .int)) (by decide) rfl ?_
  intro p e s m args below meth c s₁ B hml hv
  obtain ⟨rfl, hP, hKK⟩ := hv
  have hK := hKK.1
  have hx := B.exec
  have hb := B.bytes
  have hr := B.returns
  have hts := atoms_spec (ws := wsX11_partAt) B.pre
  have hown : s.vm.findClass RX11 = some m.cls := findClass_of_methodNamed B.named
  have hlocks := B.notSynchronized
  have hP : va_P D vwCl [(m0, .inr (11, [.ref p0, .ref p1, .int i2, .ref p3, .int i4, .ref p5, .int i6, .int i7, .int i8, .int i9, .ref p10, .int i11, .ref p12, .ref p13, .ref p14, .int i15, .ref p16, .ref p17, .int i18, .ref p19, .ref p20, .ref p21, .ref p22, .int i23, .int i24, .ref p25, .ref p26, .ref p27, .ref p28, .ref p29, .ref p30, .ref p31, .ref p32])), (p0, .inl (cI, 1439, .inl w))] s.heap := hP
  have hl := lv_entry ([.ref m0, .int x]) (n := 4) (Nat.le_of_ble_eq_true rfl)
  rw [lg_entry_eq]
  generalize (lg_sl ([.ref m0, .int x]) ++ List.replicate (4 - (lg_sl ([.ref m0, .int x])).length) Slot.unset).toArray = ls at hl ⊢
  have hl : lv_has ls 4 [(0, .ref m0), (1, .int x)] := hl
  refine lv_iconst (v := (-1)) hx hb dX11_partAt_0 (by decide) ?_
  refine lv_istore_n (lv' := [(2, .int (-1)), (0, .ref m0), (1, .int x)]) hx hb dX11_partAt_1 rfl hl (by decide) rfl (fun ls hl => ?_)
  refine lv_iconst (v := 0) hx hb dX11_partAt_2 (by decide) ?_
  refine lv_istore_n (lv' := [(3, .int 0), (2, .int (-1)), (0, .ref m0), (1, .int x)]) hx hb dX11_partAt_3 rfl hl (by decide) rfl (fun ls hl => ?_)
  have lp4 : ∀ (n4 : Nat) (k : Nat) (x4_2 : Int32) (x4_3 : Int32), n - k < n4 → (k ≤ n) → x4_2 = ftPa w x k → x4_3 = nI k → ∀ ls : Array Slot, lv_has ls 4 [(0, .ref m0), (1, .int x), (2, .int x4_2), (3, .int x4_3)] → W p l e (headSpec wsX11_partAt { frames := 1, cells := 0, slots := 0, locals := 22 }).room s m ([.ref m0, .int x] : List Value).toArray below meth c s.heap [] 0 0 (MQ below (vp_Si (fun o9 => o9 = ftPa w x n)) ([.ref m0, .int x] : List Value).toArray s 0 0 (fun _ => False)) (F0 m 4 ls []) := by
    intro n4
    induction n4 with
    | zero =>
      intro k x4_2 x4_3  hm4
      exact absurd hm4 (Nat.not_lt_zero _)
    | succ n4 ih4 =>
      intro k x4_2 x4_3  hm4 hkn ex4_2 ex4_3  ls hl
      subst ex4_3
      refine lv_iload_n hx hb dX11_partAt_4 rfl (lv_at hl 3 rfl) ?_
      refine lv_aload_n hx hb dX11_partAt_5 rfl (lv_at hl 0 rfl) ?_
      refine va_get (D := D) (ci := 11) (v := .ref p0) (C := RX11) (T := TX11) (N := 33) hx hb hts (by decide +kernel) hown hK hP 0 rfl rfl 0 (by decide) (hts (.fieldLink RX11 7 "FiberTraceModel" "now" "[I") (by decide +kernel)) (fun _ h9 => h9) rfl dX11_partAt_6 ?_
      refine lv_iconst (v := 3) hx hb dX11_partAt_9 (by decide) ?_
      refine va_iald hx hb hK hP 1 0 rfl rfl (vp_in_nI (n := 3) (by omega) (by omega)) dX11_partAt_10 ?_
      refine ft_top (y := w 3) rfl ?_
      refine ft_top (y := nI n) hw3 ?_
      refine lv_icmp_ge (tgt := 36) hx hb dX11_partAt_11 (by decide) (fun c11 => ?_) (fun c11 => ?_)
      · have c11n : n ≤ k := ft_leN (by omega) (by omega) c11
        refine lv_iload_n hx hb dX11_partAt_36 rfl (lv_at hl 2 rfl) ?_
        exact W.iret (v := x4_2) hx hb hr (fun t ht hW => ⟨x4_2, rfl, (by show (x4_2 : Int32) = ftPa w x n; (obtain rfl : k = n := by omega); exact ex4_2), ht⟩) (fun _ h9 => absurd h9 List.not_mem_nil) dX11_partAt_37
      · have c11n : k < n := ft_nleN (by omega) (by omega) c11
        refine lv_aload_n hx hb dX11_partAt_14 rfl (lv_at hl 0 rfl) ?_
        refine lv_iload_n hx hb dX11_partAt_15 rfl (lv_at hl 3 rfl) ?_
        refine lv_iconst (v := 1) hx hb dX11_partAt_16 (by decide) ?_
        refine ft_csi (r := w (4 + 4 * k + 1)) (va_runV (C := RX11) (As := [.int (nI k), .int 1]) (rest := []) ⟨hx, hb, hml, hown, hts⟩ (c_X11_at l D cI cS m0 p0 p1 p3 p5 p10 p12 p13 p14 p16 p17 p19 p20 p21 p22 p25 p26 p27 p28 p29 p30 p31 p32 i2 i4 i6 i7 i8 i9 i11 i15 i18 i23 i24 w k 1 (by first | assumption | omega) (by first | assumption | omega)) (cwV 2 hts gX11_partAt_X11_at rfl rfl rfl (by decide +kernel) ⟨Nat.le_of_ble_eq_true rfl, Nat.le_of_ble_eq_true rfl⟩) (ft_preROV (ci := 11) (q0 := 0) hP hKK [0, 1] rfl rfl rfl) rfl rfl hl.1 rfl (lv_room (Nat.le_of_ble_eq_true rfl)) dX11_partAt_17 ⟨Nat.le_of_ble_eq_true rfl, Nat.le_of_ble_eq_true rfl⟩) ?_
        refine lv_iload_n hx hb dX11_partAt_20 rfl (lv_at hl 1 rfl) ?_
        refine lv_icmp_ne (tgt := 28) hx hb dX11_partAt_21 (by decide) (fun c21 => ?_) (fun c21 => ?_)
        · refine lv_iload_n hx hb dX11_partAt_28 rfl (lv_at hl 2 rfl) ?_
          refine lv_istore_n (lv' := [(2, .int x4_2), (0, .ref m0), (1, .int x), (3, .int (nI k))]) hx hb dX11_partAt_29 rfl hl (by decide) rfl (fun ls hl => ?_)
          refine lv_iinc (v := nI (k + 1)) (lv' := [(3, .int (nI (k + 1))), (2, .int x4_2), (0, .ref m0), (1, .int x)]) hx hb dX11_partAt_30 hl (k := 3) rfl (ft_inc k) (by decide) rfl (fun ls hl => ?_)
          refine lv_goto (tgt := 4) hx hb dX11_partAt_33 (by decide) ?_
          exact ih4 (k + 1) x4_2 (nI (k + 1))  (by omega) (by omega) (by rw [ftPa]; first | exact (if_pos c21).symm | (rw [if_neg c21]; exact ex4_2)) (by first | rfl | assumption)  ls (lv_sub hl [2, 3, 1, 0] rfl)
        · refine lv_iload_n hx hb dX11_partAt_24 rfl (lv_at hl 3 rfl) ?_
          refine lv_goto (tgt := 29) hx hb dX11_partAt_25 (by decide) ?_
          refine lv_istore_n (lv' := [(2, .int (nI k)), (0, .ref m0), (1, .int x), (3, .int (nI k))]) hx hb dX11_partAt_29 rfl hl (by decide) rfl (fun ls hl => ?_)
          refine lv_iinc (v := nI (k + 1)) (lv' := [(3, .int (nI (k + 1))), (2, .int (nI k)), (0, .ref m0), (1, .int x)]) hx hb dX11_partAt_30 hl (k := 3) rfl (ft_inc k) (by decide) rfl (fun ls hl => ?_)
          refine lv_goto (tgt := 4) hx hb dX11_partAt_33 (by decide) ?_
          exact ih4 (k + 1) (nI k) (nI (k + 1))  (by omega) (by omega) (by rw [ftPa]; first | exact (if_pos c21).symm | (rw [if_neg c21]; exact ex4_2)) (by first | rfl | assumption)  ls (lv_sub hl [2, 3, 1, 0] rfl)
  exact lp4 _ 0 (-1) 0  (Nat.lt_succ_self _) (by omega) (by rfl) (by rfl) ls (lv_sub hl [2, 3, 1, 0] rfl)
set_option maxHeartbeats 4000000 in
set_option maxRecDepth 100000 in
theorem c_X11_fadeAt (l : Launch) (D : va_G) (cI cS : ClassId) (m0 p0 p1 p3 p5 p10 p12 p13 p14 p16 p17 p19 p20 p21 p22 p25 p26 p27 p28 p29 p30 p31 p32 : Nat) (i2 i4 i6 i7 i8 i9 i11 i15 i18 i23 i24 : Int32) (w : Nat → Int32) (x : Int32) (n : Nat) (hw3 : w 3 = nI n) (hn : n ≤ 10) : Met l yX11_fadeAt wsX11_fadeAt ({ frames := 1, cells := 0, slots := 0, locals := 22 }) (ftRO D cI cS [.ref m0, .int x] [(m0, .inr (11, [.ref p0, .ref p1, .int i2, .ref p3, .int i4, .ref p5, .int i6, .int i7, .int i8, .int i9, .ref p10, .int i11, .ref p12, .ref p13, .ref p14, .int i15, .ref p16, .ref p17, .int i18, .ref p19, .ref p20, .ref p21, .ref p22, .int i23, .int i24, .ref p25, .ref p26, .ref p27, .ref p28, .ref p29, .ref p30, .ref p31, .ref p32])), (p0, .inl (cI, 1439, .inl w))]) (vp_Si (fun o9 => o9 = ftFw w x n)) 0 0 (fun _ => False) := by
  refine Met.ofW (cc := cX11_fadeAt) (maxL := 4) (ret := (some .int)) (by decide) rfl ?_
  intro p e s m args below meth c s₁ B hml hv
  obtain ⟨rfl, hP, hKK⟩ := hv
  have hK := hKK.1
  have hx := B.exec
  have hb := B.bytes
  have hr := B.returns
  have hts := atoms_spec (ws := wsX11_fadeAt) B.pre
  have hown : s.vm.findClass RX11 = some m.cls := findClass_of_methodNamed B.named
  have hlocks := B.notSynchronized
  have hP : va_P D vwCl [(m0, .inr (11, [.ref p0, .ref p1, .int i2, .ref p3, .int i4, .ref p5, .int i6, .int i7, .int i8, .int i9, .ref p10, .int i11, .ref p12, .ref p13, .ref p14, .int i15, .ref p16, .ref p17, .int i18, .ref p19, .ref p20, .ref p21, .ref p22, .int i23, .int i24, .ref p25, .ref p26, .ref p27, .ref p28, .ref p29, .ref p30, .ref p31, .ref p32])), (p0, .inl (cI, 1439, .inl w))] s.heap := hP
  have hl := lv_entry ([.ref m0, .int x]) (n := 4) (Nat.le_of_ble_eq_true rfl)
  rw [lg_entry_eq]
  generalize (lg_sl ([.ref m0, .int x]) ++ List.replicate (4 - (lg_sl ([.ref m0, .int x])).length) Slot.unset).toArray = ls at hl ⊢
  have hl : lv_has ls 4 [(0, .ref m0), (1, .int x)] := hl
  refine lv_aload_n hx hb dX11_fadeAt_0 rfl (lv_at hl 0 rfl) ?_
  refine va_get (D := D) (ci := 11) (v := .ref p0) (C := RX11) (T := TX11) (N := 33) hx hb hts (by decide +kernel) hown hK hP 0 rfl rfl 0 (by decide) (hts (.fieldLink RX11 7 "FiberTraceModel" "now" "[I") (by decide +kernel)) (fun _ h9 => h9) rfl dX11_fadeAt_1 ?_
  refine lv_iconst (v := 1) hx hb dX11_fadeAt_4 (by decide) ?_
  refine va_iald hx hb hK hP 1 0 rfl rfl (vp_in_nI (n := 1) (by omega) (by omega)) dX11_fadeAt_5 ?_
  refine ft_top (y := w 1) rfl ?_
  refine lv_istore_n (lv' := [(2, .int (w 1)), (0, .ref m0), (1, .int x)]) hx hb dX11_fadeAt_6 rfl hl (by decide) rfl (fun ls hl => ?_)
  refine lv_iconst (v := 0) hx hb dX11_fadeAt_7 (by decide) ?_
  refine lv_istore_n (lv' := [(3, .int 0), (2, .int (w 1)), (0, .ref m0), (1, .int x)]) hx hb dX11_fadeAt_8 rfl hl (by decide) rfl (fun ls hl => ?_)
  have lp9 : ∀ (n9 : Nat) (k : Nat) (x9_2 : Int32) (x9_3 : Int32), n - k < n9 → (k ≤ n) → x9_2 = ftFw w x k → x9_3 = nI k → ∀ ls : Array Slot, lv_has ls 4 [(0, .ref m0), (1, .int x), (2, .int x9_2), (3, .int x9_3)] → W p l e (headSpec wsX11_fadeAt { frames := 1, cells := 0, slots := 0, locals := 22 }).room s m ([.ref m0, .int x] : List Value).toArray below meth c s.heap [] 0 0 (MQ below (vp_Si (fun o9 => o9 = ftFw w x n)) ([.ref m0, .int x] : List Value).toArray s 0 0 (fun _ => False)) (F0 m 9 ls []) := by
    intro n9
    induction n9 with
    | zero =>
      intro k x9_2 x9_3  hm9
      exact absurd hm9 (Nat.not_lt_zero _)
    | succ n9 ih9 =>
      intro k x9_2 x9_3  hm9 hkn ex9_2 ex9_3  ls hl
      subst ex9_3
      refine lv_iload_n hx hb dX11_fadeAt_9 rfl (lv_at hl 3 rfl) ?_
      refine lv_aload_n hx hb dX11_fadeAt_10 rfl (lv_at hl 0 rfl) ?_
      refine va_get (D := D) (ci := 11) (v := .ref p0) (C := RX11) (T := TX11) (N := 33) hx hb hts (by decide +kernel) hown hK hP 0 rfl rfl 0 (by decide) (hts (.fieldLink RX11 7 "FiberTraceModel" "now" "[I") (by decide +kernel)) (fun _ h9 => h9) rfl dX11_fadeAt_11 ?_
      refine lv_iconst (v := 3) hx hb dX11_fadeAt_14 (by decide) ?_
      refine va_iald hx hb hK hP 1 0 rfl rfl (vp_in_nI (n := 3) (by omega) (by omega)) dX11_fadeAt_15 ?_
      refine ft_top (y := w 3) rfl ?_
      refine ft_top (y := nI n) hw3 ?_
      refine lv_icmp_ge (tgt := 56) hx hb dX11_fadeAt_16 (by decide) (fun c16 => ?_) (fun c16 => ?_)
      · have c16n : n ≤ k := ft_leN (by omega) (by omega) c16
        refine lv_iload_n hx hb dX11_fadeAt_56 rfl (lv_at hl 2 rfl) ?_
        exact W.iret (v := x9_2) hx hb hr (fun t ht hW => ⟨x9_2, rfl, (by show (x9_2 : Int32) = ftFw w x n; (obtain rfl : k = n := by omega); exact ex9_2), ht⟩) (fun _ h9 => absurd h9 List.not_mem_nil) dX11_fadeAt_57
      · have c16n : k < n := ft_nleN (by omega) (by omega) c16
        refine lv_aload_n hx hb dX11_fadeAt_19 rfl (lv_at hl 0 rfl) ?_
        refine lv_iload_n hx hb dX11_fadeAt_20 rfl (lv_at hl 3 rfl) ?_
        refine lv_iconst (v := 0) hx hb dX11_fadeAt_21 (by decide) ?_
        refine ft_csi (r := w (4 + 4 * k + 0)) (va_runV (C := RX11) (As := [.int (nI k), .int 0]) (rest := []) ⟨hx, hb, hml, hown, hts⟩ (c_X11_at l D cI cS m0 p0 p1 p3 p5 p10 p12 p13 p14 p16 p17 p19 p20 p21 p22 p25 p26 p27 p28 p29 p30 p31 p32 i2 i4 i6 i7 i8 i9 i11 i15 i18 i23 i24 w k 0 (by first | assumption | omega) (by first | assumption | omega)) (cwV 2 hts gX11_fadeAt_X11_at rfl rfl rfl (by decide +kernel) ⟨Nat.le_of_ble_eq_true rfl, Nat.le_of_ble_eq_true rfl⟩) (ft_preROV (ci := 11) (q0 := 0) hP hKK [0, 1] rfl rfl rfl) rfl rfl hl.1 rfl (lv_room (Nat.le_of_ble_eq_true rfl)) dX11_fadeAt_22 ⟨Nat.le_of_ble_eq_true rfl, Nat.le_of_ble_eq_true rfl⟩) ?_
        refine lv_iconst (v := 2) hx hb dX11_fadeAt_25 (by decide) ?_
        refine lv_icmp_ne (tgt := 48) hx hb dX11_fadeAt_26 (by decide) (fun c26 => ?_) (fun c26 => ?_)
        · refine lv_iload_n hx hb dX11_fadeAt_48 rfl (lv_at hl 2 rfl) ?_
          refine lv_istore_n (lv' := [(2, .int x9_2), (0, .ref m0), (1, .int x), (3, .int (nI k))]) hx hb dX11_fadeAt_49 rfl hl (by decide) rfl (fun ls hl => ?_)
          refine lv_iinc (v := nI (k + 1)) (lv' := [(3, .int (nI (k + 1))), (2, .int x9_2), (0, .ref m0), (1, .int x)]) hx hb dX11_fadeAt_50 hl (k := 3) rfl (ft_inc k) (by decide) rfl (fun ls hl => ?_)
          refine lv_goto (tgt := 9) hx hb dX11_fadeAt_53 (by decide) ?_
          exact ih9 (k + 1) x9_2 (nI (k + 1))  (by omega) (by omega) (by first | exact ftFw_t c26 (Int32.not_lt.mp c36) | exact ftFw_2 ex9_2 c36 | exact ftFw_1 ex9_2 c26) (by first | rfl | assumption)  ls (lv_sub hl [2, 3, 1, 0] rfl)
        · refine lv_aload_n hx hb dX11_fadeAt_29 rfl (lv_at hl 0 rfl) ?_
          refine lv_iload_n hx hb dX11_fadeAt_30 rfl (lv_at hl 3 rfl) ?_
          refine lv_iconst (v := 1) hx hb dX11_fadeAt_31 (by decide) ?_
          refine ft_csi (r := w (4 + 4 * k + 1)) (va_runV (C := RX11) (As := [.int (nI k), .int 1]) (rest := []) ⟨hx, hb, hml, hown, hts⟩ (c_X11_at l D cI cS m0 p0 p1 p3 p5 p10 p12 p13 p14 p16 p17 p19 p20 p21 p22 p25 p26 p27 p28 p29 p30 p31 p32 i2 i4 i6 i7 i8 i9 i11 i15 i18 i23 i24 w k 1 (by first | assumption | omega) (by first | assumption | omega)) (cwV 2 hts gX11_fadeAt_X11_at rfl rfl rfl (by decide +kernel) ⟨Nat.le_of_ble_eq_true rfl, Nat.le_of_ble_eq_true rfl⟩) (ft_preROV (ci := 11) (q0 := 0) hP hKK [0, 1] rfl rfl rfl) rfl rfl hl.1 rfl (lv_room (Nat.le_of_ble_eq_true rfl)) dX11_fadeAt_32 ⟨Nat.le_of_ble_eq_true rfl, Nat.le_of_ble_eq_true rfl⟩) ?_
          refine lv_iload_n hx hb dX11_fadeAt_35 rfl (lv_at hl 1 rfl) ?_
          refine lv_icmp_gt (tgt := 48) hx hb dX11_fadeAt_36 (by decide) (fun c36 => ?_) (fun c36 => ?_)
          · refine lv_iload_n hx hb dX11_fadeAt_48 rfl (lv_at hl 2 rfl) ?_
            refine lv_istore_n (lv' := [(2, .int x9_2), (0, .ref m0), (1, .int x), (3, .int (nI k))]) hx hb dX11_fadeAt_49 rfl hl (by decide) rfl (fun ls hl => ?_)
            refine lv_iinc (v := nI (k + 1)) (lv' := [(3, .int (nI (k + 1))), (2, .int x9_2), (0, .ref m0), (1, .int x)]) hx hb dX11_fadeAt_50 hl (k := 3) rfl (ft_inc k) (by decide) rfl (fun ls hl => ?_)
            refine lv_goto (tgt := 9) hx hb dX11_fadeAt_53 (by decide) ?_
            exact ih9 (k + 1) x9_2 (nI (k + 1))  (by omega) (by omega) (by first | exact ftFw_t c26 (Int32.not_lt.mp c36) | exact ftFw_2 ex9_2 c36 | exact ftFw_1 ex9_2 c26) (by first | rfl | assumption)  ls (lv_sub hl [2, 3, 1, 0] rfl)
          · refine lv_aload_n hx hb dX11_fadeAt_39 rfl (lv_at hl 0 rfl) ?_
            refine lv_iload_n hx hb dX11_fadeAt_40 rfl (lv_at hl 3 rfl) ?_
            refine lv_iconst (v := 2) hx hb dX11_fadeAt_41 (by decide) ?_
            refine ft_csi (r := w (4 + 4 * k + 2)) (va_runV (C := RX11) (As := [.int (nI k), .int 2]) (rest := []) ⟨hx, hb, hml, hown, hts⟩ (c_X11_at l D cI cS m0 p0 p1 p3 p5 p10 p12 p13 p14 p16 p17 p19 p20 p21 p22 p25 p26 p27 p28 p29 p30 p31 p32 i2 i4 i6 i7 i8 i9 i11 i15 i18 i23 i24 w k 2 (by first | assumption | omega) (by first | assumption | omega)) (cwV 2 hts gX11_fadeAt_X11_at rfl rfl rfl (by decide +kernel) ⟨Nat.le_of_ble_eq_true rfl, Nat.le_of_ble_eq_true rfl⟩) (ft_preROV (ci := 11) (q0 := 0) hP hKK [0, 1] rfl rfl rfl) rfl rfl hl.1 rfl (lv_room (Nat.le_of_ble_eq_true rfl)) dX11_fadeAt_42 ⟨Nat.le_of_ble_eq_true rfl, Nat.le_of_ble_eq_true rfl⟩) ?_
            refine lv_goto (tgt := 49) hx hb dX11_fadeAt_45 (by decide) ?_
            refine lv_istore_n (lv' := [(2, .int (w (4 + 4 * k + 2))), (0, .ref m0), (1, .int x), (3, .int (nI k))]) hx hb dX11_fadeAt_49 rfl hl (by decide) rfl (fun ls hl => ?_)
            refine lv_iinc (v := nI (k + 1)) (lv' := [(3, .int (nI (k + 1))), (2, .int (w (4 + 4 * k + 2))), (0, .ref m0), (1, .int x)]) hx hb dX11_fadeAt_50 hl (k := 3) rfl (ft_inc k) (by decide) rfl (fun ls hl => ?_)
            refine lv_goto (tgt := 9) hx hb dX11_fadeAt_53 (by decide) ?_
            exact ih9 (k + 1) (w (4 + 4 * k + 2)) (nI (k + 1))  (by omega) (by omega) (by first | exact ftFw_t c26 (Int32.not_lt.mp c36) | exact ftFw_2 ex9_2 c36 | exact ftFw_1 ex9_2 c26) (by first | rfl | assumption)  ls (lv_sub hl [2, 3, 1, 0] rfl)
  exact lp9 _ 0 (w 1) 0  (Nat.lt_succ_self _) (by omega) (by rfl) (by rfl) ls (lv_sub hl [2, 3, 1, 0] rfl)
set_option maxHeartbeats 4000000 in
set_option maxRecDepth 100000 in
theorem c_X11_clearText (l : Launch) (D : va_G) (cI cS : ClassId) (sz : Nat) (m0 p0 p1 p3 p5 p10 p12 p13 p14 p16 p17 p19 p20 p21 p22 p25 p26 p27 p28 p29 p30 p31 p32 : Nat) (i2 i4 i6 i7 i8 i9 i11 i15 i18 i23 i24 : Int32)  : Met l yX11_clearText wsX11_clearText ({ frames := 0, cells := 0, slots := 0, locals := 0 }) (ftRW D cI cS [.ref m0] [(m0, .inr (11, [.ref p0, .ref p1, .int i2, .ref p3, .int i4, .ref p5, .int i6, .int i7, .int i8, .int i9, .ref p10, .int i11, .ref p12, .ref p13, .ref p14, .int i15, .ref p16, .ref p17, .int i18, .ref p19, .ref p20, .ref p21, .ref p22, .int i23, .int i24, .ref p25, .ref p26, .ref p27, .ref p28, .ref p29, .ref p30, .ref p31, .ref p32]))] sz) (ftQi D i4 [(m0, .inr (11, [.ref p0, .ref p1, .int i2, .ref p3, .int i4, .ref p5, .int i6, .int i7, .int i8, .int i9, .ref p10, .int i11, .ref p12, .ref p13, .ref p14, .int i15, .ref p16, .ref p17, .int i18, .ref p19, .ref p20, .ref p21, .ref p22, .int i23, .int i24, .ref p25, .ref p26, .ref p27, .ref p28, .ref p29, .ref p30, .ref p31, .ref p32]))] [(m0, .inr (11, [.ref p0, .ref p1, .int i2, .ref p3, .int 0, .ref p5, .int i6, .int i7, .int i8, .int i9, .ref p10, .int i11, .ref p12, .ref p13, .ref p14, .int i15, .ref p16, .ref p17, .int i18, .ref p19, .ref p20, .ref p21, .ref p22, .int i23, .int i24, .ref p25, .ref p26, .ref p27, .ref p28, .ref p29, .ref p30, .ref p31, .ref p32]))] sz) 0 0 (va_A [(m0, .inr (11, [.ref p0, .ref p1, .int i2, .ref p3, .int i4, .ref p5, .int i6, .int i7, .int i8, .int i9, .ref p10, .int i11, .ref p12, .ref p13, .ref p14, .int i15, .ref p16, .ref p17, .int i18, .ref p19, .ref p20, .ref p21, .ref p22, .int i23, .int i24, .ref p25, .ref p26, .ref p27, .ref p28, .ref p29, .ref p30, .ref p31, .ref p32]))] sz) := by
  refine Met.ofW (cc := cX11_clearText) (maxL := 2) (ret := (some .int)) (by decide) rfl ?_
  intro p e s m args below meth c s₁ B hml hv
  obtain ⟨rfl, hsz, hP, hKK, hD0⟩ := hv
  have hK := hKK.1
  have hx := B.exec
  have hb := B.bytes
  have hr := B.returns
  have hts := atoms_spec (ws := wsX11_clearText) B.pre
  have hown : s.vm.findClass RX11 = some m.cls := findClass_of_methodNamed B.named
  have hlocks := B.notSynchronized
  subst hsz
  have hD := hD0.self (sz := s.heap.size)
  generalize hAe : va_A [(m0, .inr (11, [.ref p0, .ref p1, .int i2, .ref p3, .int i4, .ref p5, .int i6, .int i7, .int i8, .int i9, .ref p10, .int i11, .ref p12, .ref p13, .ref p14, .int i15, .ref p16, .ref p17, .int i18, .ref p19, .ref p20, .ref p21, .ref p22, .int i23, .int i24, .ref p25, .ref p26, .ref p27, .ref p28, .ref p29, .ref p30, .ref p31, .ref p32]))] s.heap.size = A at hD ⊢
  have hA : ∀ q : Nat, s.heap.size ≤ q → A q := fun q h => by rw [← hAe]; exact Or.inr h
  have hS : va_S A s.heap s.heap [] := va_S.rf
  have hD : va_D A [(m0, .inr (11, [.ref p0, .ref p1, .int i2, .ref p3, .int i4, .ref p5, .int i6, .int i7, .int i8, .int i9, .ref p10, .int i11, .ref p12, .ref p13, .ref p14, .int i15, .ref p16, .ref p17, .int i18, .ref p19, .ref p20, .ref p21, .ref p22, .int i23, .int i24, .ref p25, .ref p26, .ref p27, .ref p28, .ref p29, .ref p30, .ref p31, .ref p32]))] := hD
  have hP : va_P D vwCl [(m0, .inr (11, [.ref p0, .ref p1, .int i2, .ref p3, .int i4, .ref p5, .int i6, .int i7, .int i8, .int i9, .ref p10, .int i11, .ref p12, .ref p13, .ref p14, .int i15, .ref p16, .ref p17, .int i18, .ref p19, .ref p20, .ref p21, .ref p22, .int i23, .int i24, .ref p25, .ref p26, .ref p27, .ref p28, .ref p29, .ref p30, .ref p31, .ref p32]))] s.heap := hP
  have hl := lv_entry ([.ref m0]) (n := 2) (Nat.le_of_ble_eq_true rfl)
  rw [lg_entry_eq]
  generalize (lg_sl ([.ref m0]) ++ List.replicate (2 - (lg_sl ([.ref m0])).length) Slot.unset).toArray = ls at hl ⊢
  have hl : lv_has ls 2 [(0, .ref m0)] := hl
  refine lv_aload_n hx hb dX11_clearText_0 rfl (lv_at hl 0 rfl) ?_
  refine va_get (D := D) (ci := 11) (v := .int i4) (C := RX11) (T := TX11) (N := 33) hx hb hts (by decide +kernel) hown hK hP 0 rfl rfl 4 (by decide) (hts (.fieldLink RX11 96 "FiberTraceModel" "length" "I") (by decide +kernel)) (fun _ h9 => h9) rfl dX11_clearText_1 ?_
  refine lv_istore_n (lv' := [(1, .int i4), (0, .ref m0)]) hx hb dX11_clearText_4 rfl hl (by decide) rfl (fun ls hl => ?_)
  refine lv_aload_n hx hb dX11_clearText_5 rfl (lv_at hl 1 rfl) ?_
  refine lv_iconst (v := 0) hx hb dX11_clearText_6 (by decide) ?_
  refine va_put (D := D) (ci := 11) (v := .int 0) (ty := .int) (C := RX11) (T := TX11) (N := 33) hx hb hts (by decide +kernel) tyX11 tyX11_ok nmX11 hown hK hP hD hS 0 rfl rfl 4 (by decide) (hts (.fieldLink RX11 96 "FiberTraceModel" "length" "I") (by decide +kernel)) (fun _ h9 => h9) rfl (by decide +kernel) rfl rfl (Nat.le_of_ble_eq_true rfl) dX11_clearText_7 (fun H locs hP hD hS => ?_)
  have hP : va_P D vwCl [(m0, .inr (11, [.ref p0, .ref p1, .int i2, .ref p3, .int 0, .ref p5, .int i6, .int i7, .int i8, .int i9, .ref p10, .int i11, .ref p12, .ref p13, .ref p14, .int i15, .ref p16, .ref p17, .int i18, .ref p19, .ref p20, .ref p21, .ref p22, .int i23, .int i24, .ref p25, .ref p26, .ref p27, .ref p28, .ref p29, .ref p30, .ref p31, .ref p32]))] H := hP
  have hD : va_D A [(m0, .inr (11, [.ref p0, .ref p1, .int i2, .ref p3, .int 0, .ref p5, .int i6, .int i7, .int i8, .int i9, .ref p10, .int i11, .ref p12, .ref p13, .ref p14, .int i15, .ref p16, .ref p17, .int i18, .ref p19, .ref p20, .ref p21, .ref p22, .int i23, .int i24, .ref p25, .ref p26, .ref p27, .ref p28, .ref p29, .ref p30, .ref p31, .ref p32]))] := hD
  refine lv_iload_n hx hb dX11_clearText_10 rfl (lv_at hl 0 rfl) ?_
  have hw9 : ([(m0, .inr (11, [.ref p0, .ref p1, .int i2, .ref p3, .int 0, .ref p5, .int i6, .int i7, .int i8, .int i9, .ref p10, .int i11, .ref p12, .ref p13, .ref p14, .int i15, .ref p16, .ref p17, .int i18, .ref p19, .ref p20, .ref p21, .ref p22, .int i23, .int i24, .ref p25, .ref p26, .ref p27, .ref p28, .ref p29, .ref p30, .ref p31, .ref p32]))] : va_W) = [(m0, .inr (11, [.ref p0, .ref p1, .int i2, .ref p3, .int 0, .ref p5, .int i6, .int i7, .int i8, .int i9, .ref p10, .int i11, .ref p12, .ref p13, .ref p14, .int i15, .ref p16, .ref p17, .int i18, .ref p19, .ref p20, .ref p21, .ref p22, .int i23, .int i24, .ref p25, .ref p26, .ref p27, .ref p28, .ref p29, .ref p30, .ref p31, .ref p32]))] := rfl
  rw [hw9] at hP hD
  exact W.iret (v := i4) hx hb hr (fun t ht hW => ⟨⟨i4, (), rfl, rfl, by rw [ht]; exact hP, by rw [hAe]; exact hD⟩, by rw [hAe]; exact hS.F ht⟩) hS.2.2 dX11_clearText_11
end
section
/-! the reference: a change -/
theorem ftPush_n {w z : Nat → Int32} {hm : Nat} (h : hm ≠ 5) : ftPush w z hm = ftSeg w z (hm * 1439) 1439 := if_neg h
theorem ftPush_5 {w z : Nat → Int32} {hm : Nat} (h : hm = 5) : ftPush w z hm = ftSeg w (ftShift z 5756) ((hm - 1) * 1439) 1439 := by
  have e : (hm - 1) * 1439 = 5756 := by omega
  rw [e]; exact if_pos h
set_option maxHeartbeats 4000000 in
set_option maxRecDepth 100000 in
theorem c_X11_change (l : Launch) (D : va_G) (cI cS : ClassId) (sz : Nat) (m0 p0 p1 p3 p5 p10 p12 p13 p14 p16 p17 p19 p20 p21 p22 p25 p26 p27 p28 p29 p30 p31 p32 : Nat) (i4 i6 i7 i8 i9 i11 i15 i18 i23 i24 : Int32) (w z : Nat → Int32) (hm : Nat) (hhm : hm ≤ 5) : Met l yX11_change wsX11_change ({ frames := 0, cells := 0, slots := 0, locals := 0 }) (ftRW D cI cS [.ref m0] [(m0, .inr (11, [.ref p0, .ref p1, .int (nI hm), .ref p3, .int i4, .ref p5, .int i6, .int i7, .int i8, .int i9, .ref p10, .int i11, .ref p12, .ref p13, .ref p14, .int i15, .ref p16, .ref p17, .int i18, .ref p19, .ref p20, .ref p21, .ref p22, .int i23, .int i24, .ref p25, .ref p26, .ref p27, .ref p28, .ref p29, .ref p30, .ref p31, .ref p32])), (p0, .inl (cI, 1439, .inl w)), (p1, .inl (cI, 7195, .inl z))] sz) (ftQv D [(m0, .inr (11, [.ref p0, .ref p1, .int (nI hm), .ref p3, .int i4, .ref p5, .int i6, .int i7, .int i8, .int i9, .ref p10, .int i11, .ref p12, .ref p13, .ref p14, .int i15, .ref p16, .ref p17, .int i18, .ref p19, .ref p20, .ref p21, .ref p22, .int i23, .int i24, .ref p25, .ref p26, .ref p27, .ref p28, .ref p29, .ref p30, .ref p31, .ref p32])), (p0, .inl (cI, 1439, .inl w)), (p1, .inl (cI, 7195, .inl z))] [(m0, .inr (11, [.ref p0, .ref p1, .int (nI (min (hm + 1) 5)), .ref p3, .int i4, .ref p5, .int i6, .int i7, .int i8, .int i9, .ref p10, .int i11, .ref p12, .ref p13, .ref p14, .int i15, .ref p16, .ref p17, .int i18, .ref p19, .ref p20, .ref p21, .ref p22, .int i23, .int i24, .ref p25, .ref p26, .ref p27, .ref p28, .ref p29, .ref p30, .ref p31, .ref p32])), (p0, .inl (cI, 1439, .inl w)), (p1, .inl (cI, 7195, .inl (ftPush w z hm)))] sz) 0 0 (va_A [(m0, .inr (11, [.ref p0, .ref p1, .int (nI hm), .ref p3, .int i4, .ref p5, .int i6, .int i7, .int i8, .int i9, .ref p10, .int i11, .ref p12, .ref p13, .ref p14, .int i15, .ref p16, .ref p17, .int i18, .ref p19, .ref p20, .ref p21, .ref p22, .int i23, .int i24, .ref p25, .ref p26, .ref p27, .ref p28, .ref p29, .ref p30, .ref p31, .ref p32])), (p0, .inl (cI, 1439, .inl w)), (p1, .inl (cI, 7195, .inl z))] sz) := by
  refine Met.ofW (cc := cX11_change) (maxL := 2) (ret := none) (by decide) rfl ?_
  intro p e s m args below meth c s₁ B hml hv
  obtain ⟨rfl, hsz, hP, hKK, hD0⟩ := hv
  have hK := hKK.1
  have hx := B.exec
  have hb := B.bytes
  have hr := B.returns
  have hts := atoms_spec (ws := wsX11_change) B.pre
  have hown : s.vm.findClass RX11 = some m.cls := findClass_of_methodNamed B.named
  have hlocks := B.notSynchronized
  subst hsz
  have hD := hD0.self (sz := s.heap.size)
  generalize hAe : va_A [(m0, .inr (11, [.ref p0, .ref p1, .int (nI hm), .ref p3, .int i4, .ref p5, .int i6, .int i7, .int i8, .int i9, .ref p10, .int i11, .ref p12, .ref p13, .ref p14, .int i15, .ref p16, .ref p17, .int i18, .ref p19, .ref p20, .ref p21, .ref p22, .int i23, .int i24, .ref p25, .ref p26, .ref p27, .ref p28, .ref p29, .ref p30, .ref p31, .ref p32])), (p0, .inl (cI, 1439, .inl w)), (p1, .inl (cI, 7195, .inl z))] s.heap.size = A at hD ⊢
  have hA : ∀ q : Nat, s.heap.size ≤ q → A q := fun q h => by rw [← hAe]; exact Or.inr h
  have hS : va_S A s.heap s.heap [] := va_S.rf
  have hD : va_D A [(m0, .inr (11, [.ref p0, .ref p1, .int (nI hm), .ref p3, .int i4, .ref p5, .int i6, .int i7, .int i8, .int i9, .ref p10, .int i11, .ref p12, .ref p13, .ref p14, .int i15, .ref p16, .ref p17, .int i18, .ref p19, .ref p20, .ref p21, .ref p22, .int i23, .int i24, .ref p25, .ref p26, .ref p27, .ref p28, .ref p29, .ref p30, .ref p31, .ref p32])), (p0, .inl (cI, 1439, .inl w)), (p1, .inl (cI, 7195, .inl z))] := hD
  have hP : va_P D vwCl [(m0, .inr (11, [.ref p0, .ref p1, .int (nI hm), .ref p3, .int i4, .ref p5, .int i6, .int i7, .int i8, .int i9, .ref p10, .int i11, .ref p12, .ref p13, .ref p14, .int i15, .ref p16, .ref p17, .int i18, .ref p19, .ref p20, .ref p21, .ref p22, .int i23, .int i24, .ref p25, .ref p26, .ref p27, .ref p28, .ref p29, .ref p30, .ref p31, .ref p32])), (p0, .inl (cI, 1439, .inl w)), (p1, .inl (cI, 7195, .inl z))] s.heap := hP
  have hl := lv_entry ([.ref m0]) (n := 2) (Nat.le_of_ble_eq_true rfl)
  rw [lg_entry_eq]
  generalize (lg_sl ([.ref m0]) ++ List.replicate (2 - (lg_sl ([.ref m0])).length) Slot.unset).toArray = ls at hl ⊢
  have hl : lv_has ls 2 [(0, .ref m0)] := hl
  refine lv_aload_n hx hb dX11_change_0 rfl (lv_at hl 0 rfl) ?_
  refine va_get (D := D) (ci := 11) (v := .int (nI hm)) (C := RX11) (T := TX11) (N := 33) hx hb hts (by decide +kernel) hown hK hP 0 rfl rfl 2 (by decide) (hts (.fieldLink RX11 82 "FiberTraceModel" "stateMany" "I") (by decide +kernel)) (fun _ h9 => h9) rfl dX11_change_1 ?_
  refine lv_iconst (v := 5) hx hb dX11_change_4 (by decide) ?_
  refine lv_icmp_ne (tgt := 49) hx hb dX11_change_5 (by decide) (fun c5 => ?_) (fun c5 => ?_)
  · have c5n : hm ≠ 5 := ft_neN (by omega) (by omega) c5
    obtain ⟨zz, hzz⟩ : ∃ zz, zz = z := ⟨_, rfl⟩
    obtain ⟨hh, hhh⟩ : ∃ hh, hh = hm := ⟨_, rfl⟩
    refine lv_iconst (v := 0) hx hb dX11_change_49 (by decide) ?_
    refine lv_istore_n (lv' := [(1, .int 0), (0, .ref m0)]) hx hb dX11_change_50 rfl hl (by decide) rfl (fun ls hl => ?_)
    have lp51 : ∀ (n51 : Nat) (r : Nat) (x51_1 : Int32) (g51_p1 : Nat → Int32), 1439 - r < n51 → (r ≤ 1439) → x51_1 = nI r → g51_p1 = ftSeg w zz (hh * 1439) r → ∀ (H : Heap) (locs : List Loc), va_P D vwCl [(m0, .inr (11, [.ref p0, .ref p1, .int (nI hm), .ref p3, .int i4, .ref p5, .int i6, .int i7, .int i8, .int i9, .ref p10, .int i11, .ref p12, .ref p13, .ref p14, .int i15, .ref p16, .ref p17, .int i18, .ref p19, .ref p20, .ref p21, .ref p22, .int i23, .int i24, .ref p25, .ref p26, .ref p27, .ref p28, .ref p29, .ref p30, .ref p31, .ref p32])), (p0, .inl (cI, 1439, .inl w)), (p1, .inl (cI, 7195, .inl g51_p1))] H → va_D A [(m0, .inr (11, [.ref p0, .ref p1, .int (nI hm), .ref p3, .int i4, .ref p5, .int i6, .int i7, .int i8, .int i9, .ref p10, .int i11, .ref p12, .ref p13, .ref p14, .int i15, .ref p16, .ref p17, .int i18, .ref p19, .ref p20, .ref p21, .ref p22, .int i23, .int i24, .ref p25, .ref p26, .ref p27, .ref p28, .ref p29, .ref p30, .ref p31, .ref p32])), (p0, .inl (cI, 1439, .inl w)), (p1, .inl (cI, 7195, .inl g51_p1))] → va_S A s.heap H locs → ∀ ls : Array Slot, lv_has ls 2 [(0, .ref m0), (1, .int x51_1)] → W p l e (headSpec wsX11_change { frames := 0, cells := 0, slots := 0, locals := 0 }).room s m ([.ref m0] : List Value).toArray below meth c H locs 0 0 (MQ below (ftQv D [(m0, .inr (11, [.ref p0, .ref p1, .int (nI hm), .ref p3, .int i4, .ref p5, .int i6, .int i7, .int i8, .int i9, .ref p10, .int i11, .ref p12, .ref p13, .ref p14, .int i15, .ref p16, .ref p17, .int i18, .ref p19, .ref p20, .ref p21, .ref p22, .int i23, .int i24, .ref p25, .ref p26, .ref p27, .ref p28, .ref p29, .ref p30, .ref p31, .ref p32])), (p0, .inl (cI, 1439, .inl w)), (p1, .inl (cI, 7195, .inl z))] [(m0, .inr (11, [.ref p0, .ref p1, .int (nI (min (hm + 1) 5)), .ref p3, .int i4, .ref p5, .int i6, .int i7, .int i8, .int i9, .ref p10, .int i11, .ref p12, .ref p13, .ref p14, .int i15, .ref p16, .ref p17, .int i18, .ref p19, .ref p20, .ref p21, .ref p22, .int i23, .int i24, .ref p25, .ref p26, .ref p27, .ref p28, .ref p29, .ref p30, .ref p31, .ref p32])), (p0, .inl (cI, 1439, .inl w)), (p1, .inl (cI, 7195, .inl (ftPush w z hm)))] s.heap.size) ([.ref m0] : List Value).toArray s 0 0 A) (F0 m 51 ls []) := by
      intro n51
      induction n51 with
      | zero =>
        intro r x51_1 g51_p1 hm51
        exact absurd hm51 (Nat.not_lt_zero _)
      | succ n51 ih51 =>
        intro r x51_1 g51_p1 hm51 hr0 ex51_1 eg51_p1 H locs hP hD hS ls hl
        subst ex51_1
        refine lv_iload_n hx hb dX11_change_51 rfl (lv_at hl 1 rfl) ?_
        refine lv_sipush (v := 1439) hx hb dX11_change_52 (by decide) ?_
        refine lv_icmp_ge (tgt := 85) hx hb dX11_change_55 (by decide) (fun c55 => ?_) (fun c55 => ?_)
        · have c55n : 1439 ≤ r := ft_leN (by omega) (by omega) c55
          refine lv_aload_n hx hb dX11_change_85 rfl (lv_at hl 0 rfl) ?_
          refine lv_dup hx hb dX11_change_86 rfl ?_
          refine va_get (D := D) (ci := 11) (v := .int (nI hm)) (C := RX11) (T := TX11) (N := 33) hx hb hts (by decide +kernel) hown hK hP 0 rfl rfl 2 (by decide) (hts (.fieldLink RX11 82 "FiberTraceModel" "stateMany" "I") (by decide +kernel)) (fun _ h9 => h9) rfl dX11_change_87 ?_
          refine lv_iconst (v := 1) hx hb dX11_change_90 (by decide) ?_
          refine lv_iadd hx hb dX11_change_91 ?_
          refine ft_top (y := nI (hm + 1)) (ft_addN hm 1) ?_
          refine va_put (D := D) (ci := 11) (v := .int (nI (hm + 1))) (ty := .int) (C := RX11) (T := TX11) (N := 33) hx hb hts (by decide +kernel) tyX11 tyX11_ok nmX11 hown hK hP hD hS 0 rfl rfl 2 (by decide) (hts (.fieldLink RX11 82 "FiberTraceModel" "stateMany" "I") (by decide +kernel)) (fun _ h9 => h9) rfl (by decide +kernel) rfl rfl (Nat.le_of_ble_eq_true rfl) dX11_change_92 (fun H locs hP hD hS => ?_)
          have hP : va_P D vwCl [(m0, .inr (11, [.ref p0, .ref p1, .int (nI (hm + 1)), .ref p3, .int i4, .ref p5, .int i6, .int i7, .int i8, .int i9, .ref p10, .int i11, .ref p12, .ref p13, .ref p14, .int i15, .ref p16, .ref p17, .int i18, .ref p19, .ref p20, .ref p21, .ref p22, .int i23, .int i24, .ref p25, .ref p26, .ref p27, .ref p28, .ref p29, .ref p30, .ref p31, .ref p32])), (p0, .inl (cI, 1439, .inl w)), (p1, .inl (cI, 7195, .inl g51_p1))] H := hP
          have hD : va_D A [(m0, .inr (11, [.ref p0, .ref p1, .int (nI (hm + 1)), .ref p3, .int i4, .ref p5, .int i6, .int i7, .int i8, .int i9, .ref p10, .int i11, .ref p12, .ref p13, .ref p14, .int i15, .ref p16, .ref p17, .int i18, .ref p19, .ref p20, .ref p21, .ref p22, .int i23, .int i24, .ref p25, .ref p26, .ref p27, .ref p28, .ref p29, .ref p30, .ref p31, .ref p32])), (p0, .inl (cI, 1439, .inl w)), (p1, .inl (cI, 7195, .inl g51_p1))] := hD
          have hw9 : ([(m0, .inr (11, [.ref p0, .ref p1, .int (nI (hm + 1)), .ref p3, .int i4, .ref p5, .int i6, .int i7, .int i8, .int i9, .ref p10, .int i11, .ref p12, .ref p13, .ref p14, .int i15, .ref p16, .ref p17, .int i18, .ref p19, .ref p20, .ref p21, .ref p22, .int i23, .int i24, .ref p25, .ref p26, .ref p27, .ref p28, .ref p29, .ref p30, .ref p31, .ref p32])), (p0, .inl (cI, 1439, .inl w)), (p1, .inl (cI, 7195, .inl g51_p1))] : va_W) = [(m0, .inr (11, [.ref p0, .ref p1, .int (nI (min (hm + 1) 5)), .ref p3, .int i4, .ref p5, .int i6, .int i7, .int i8, .int i9, .ref p10, .int i11, .ref p12, .ref p13, .ref p14, .int i15, .ref p16, .ref p17, .int i18, .ref p19, .ref p20, .ref p21, .ref p22, .int i23, .int i24, .ref p25, .ref p26, .ref p27, .ref p28, .ref p29, .ref p30, .ref p31, .ref p32])), (p0, .inl (cI, 1439, .inl w)), (p1, .inl (cI, 7195, .inl (ftPush w z hm)))] := by (have ht9 : r = 1439 := by omega); rw [eg51_p1, hzz, hhh, ht9]; first | (rw [ftPush_n c5n, Nat.min_eq_left (by omega)]; done) | (rw [eg10_p1, show t = 5756 by omega, ftPush_5 c5n, show min (hm + 1) 5 = hm - 1 + 1 by omega]; done)
          rw [hw9] at hP hD
          exact W.vret hx hb hr (fun t ht hW => ⟨⟨(), rfl, trivial, by rw [ht]; exact hP, by rw [hAe]; exact hD⟩, by rw [hAe]; exact hS.F ht⟩) hS.2.2 dX11_change_95
        · have c55n : r < 1439 := ft_nleN (by omega) (by omega) c55
          refine lv_aload_n hx hb dX11_change_58 rfl (lv_at hl 0 rfl) ?_
          refine va_get (D := D) (ci := 11) (v := .ref p1) (C := RX11) (T := TX11) (N := 33) hx hb hts (by decide +kernel) hown hK hP 0 rfl rfl 1 (by decide) (hts (.fieldLink RX11 13 "FiberTraceModel" "states" "[I") (by decide +kernel)) (fun _ h9 => h9) rfl dX11_change_59 ?_
          refine lv_aload_n hx hb dX11_change_62 rfl (lv_at hl 0 rfl) ?_
          refine va_get (D := D) (ci := 11) (v := .int (nI hm)) (C := RX11) (T := TX11) (N := 33) hx hb hts (by decide +kernel) hown hK hP 0 rfl rfl 2 (by decide) (hts (.fieldLink RX11 82 "FiberTraceModel" "stateMany" "I") (by decide +kernel)) (fun _ h9 => h9) rfl dX11_change_63 ?_
          refine lv_sipush (v := 1439) hx hb dX11_change_66 (by decide) ?_
          refine lv_imul hx hb dX11_change_69 ?_
          refine ft_top (y := nI (hm * 1439)) (ft_mulN hm 1439) ?_
          refine lv_iload_n hx hb dX11_change_70 rfl (lv_at hl 1 rfl) ?_
          refine lv_iadd hx hb dX11_change_71 ?_
          refine ft_top (y := nI ((hm * 1439) + r)) (ft_addN (hm * 1439) r) ?_
          refine lv_aload_n hx hb dX11_change_72 rfl (lv_at hl 0 rfl) ?_
          refine va_get (D := D) (ci := 11) (v := .ref p0) (C := RX11) (T := TX11) (N := 33) hx hb hts (by decide +kernel) hown hK hP 0 rfl rfl 0 (by decide) (hts (.fieldLink RX11 7 "FiberTraceModel" "now" "[I") (by decide +kernel)) (fun _ h9 => h9) rfl dX11_change_73 ?_
          refine lv_iload_n hx hb dX11_change_76 rfl (lv_at hl 1 rfl) ?_
          refine va_iald hx hb hK hP 1 0 rfl rfl (vp_in_nI (by omega) (by omega)) dX11_change_77 ?_
          refine ft_top (y := w r) (ft_clampN (by omega)) ?_
          refine va_iast hx hb hK hP hD hS 2 0 rfl rfl (vp_in_nI (by omega) (by omega)) dX11_change_78 (fun H locs hP hD hS => ?_)
          rw [nI_clamp (show (hm * 1439) + r < 2 ^ 31 by omega)] at hP hD
          have hP : va_P D vwCl [(m0, .inr (11, [.ref p0, .ref p1, .int (nI hm), .ref p3, .int i4, .ref p5, .int i6, .int i7, .int i8, .int i9, .ref p10, .int i11, .ref p12, .ref p13, .ref p14, .int i15, .ref p16, .ref p17, .int i18, .ref p19, .ref p20, .ref p21, .ref p22, .int i23, .int i24, .ref p25, .ref p26, .ref p27, .ref p28, .ref p29, .ref p30, .ref p31, .ref p32])), (p0, .inl (cI, 1439, .inl w)), (p1, .inl (cI, 7195, .inl (upd g51_p1 ((hm * 1439) + r) (w r))))] H := hP
          have hD : va_D A [(m0, .inr (11, [.ref p0, .ref p1, .int (nI hm), .ref p3, .int i4, .ref p5, .int i6, .int i7, .int i8, .int i9, .ref p10, .int i11, .ref p12, .ref p13, .ref p14, .int i15, .ref p16, .ref p17, .int i18, .ref p19, .ref p20, .ref p21, .ref p22, .int i23, .int i24, .ref p25, .ref p26, .ref p27, .ref p28, .ref p29, .ref p30, .ref p31, .ref p32])), (p0, .inl (cI, 1439, .inl w)), (p1, .inl (cI, 7195, .inl (upd g51_p1 ((hm * 1439) + r) (w r))))] := hD
          refine lv_iinc (v := nI (r + 1)) (lv' := [(1, .int (nI (r + 1))), (0, .ref m0)]) hx hb dX11_change_79 hl (k := 1) rfl (ft_inc r) (by decide) rfl (fun ls hl => ?_)
          refine lv_goto (tgt := 51) hx hb dX11_change_82 (by decide) ?_
          exact ih51 (r + 1) (nI (r + 1)) (upd g51_p1 ((hm * 1439) + r) (w r)) (by omega) (by omega) (by first | rfl | assumption) (by rw [eg51_p1, hhh]; exact ftSeg_s) _ _ hP hD hS ls (lv_sub hl [1, 0] rfl)
    exact lp51 _ 0 0 z (Nat.lt_succ_self _) (by omega) (by rfl) (by rw [hzz]; exact ftSeg_0 _ _ _) _ _ hP hD hS ls (lv_sub hl [1, 0] rfl)
  · have c5n : hm = 5 := ft_eqN (by omega) (by omega) c5
    refine lv_iconst (v := 0) hx hb dX11_change_8 (by decide) ?_
    refine lv_istore_n (lv' := [(1, .int 0), (0, .ref m0)]) hx hb dX11_change_9 rfl hl (by decide) rfl (fun ls hl => ?_)
    have lp10 : ∀ (n10 : Nat) (t : Nat) (x10_1 : Int32) (g10_p1 : Nat → Int32), 5756 - t < n10 → (t ≤ 5756) → x10_1 = nI t → g10_p1 = ftShift z t → ∀ (H : Heap) (locs : List Loc), va_P D vwCl [(m0, .inr (11, [.ref p0, .ref p1, .int (nI hm), .ref p3, .int i4, .ref p5, .int i6, .int i7, .int i8, .int i9, .ref p10, .int i11, .ref p12, .ref p13, .ref p14, .int i15, .ref p16, .ref p17, .int i18, .ref p19, .ref p20, .ref p21, .ref p22, .int i23, .int i24, .ref p25, .ref p26, .ref p27, .ref p28, .ref p29, .ref p30, .ref p31, .ref p32])), (p0, .inl (cI, 1439, .inl w)), (p1, .inl (cI, 7195, .inl g10_p1))] H → va_D A [(m0, .inr (11, [.ref p0, .ref p1, .int (nI hm), .ref p3, .int i4, .ref p5, .int i6, .int i7, .int i8, .int i9, .ref p10, .int i11, .ref p12, .ref p13, .ref p14, .int i15, .ref p16, .ref p17, .int i18, .ref p19, .ref p20, .ref p21, .ref p22, .int i23, .int i24, .ref p25, .ref p26, .ref p27, .ref p28, .ref p29, .ref p30, .ref p31, .ref p32])), (p0, .inl (cI, 1439, .inl w)), (p1, .inl (cI, 7195, .inl g10_p1))] → va_S A s.heap H locs → ∀ ls : Array Slot, lv_has ls 2 [(0, .ref m0), (1, .int x10_1)] → W p l e (headSpec wsX11_change { frames := 0, cells := 0, slots := 0, locals := 0 }).room s m ([.ref m0] : List Value).toArray below meth c H locs 0 0 (MQ below (ftQv D [(m0, .inr (11, [.ref p0, .ref p1, .int (nI hm), .ref p3, .int i4, .ref p5, .int i6, .int i7, .int i8, .int i9, .ref p10, .int i11, .ref p12, .ref p13, .ref p14, .int i15, .ref p16, .ref p17, .int i18, .ref p19, .ref p20, .ref p21, .ref p22, .int i23, .int i24, .ref p25, .ref p26, .ref p27, .ref p28, .ref p29, .ref p30, .ref p31, .ref p32])), (p0, .inl (cI, 1439, .inl w)), (p1, .inl (cI, 7195, .inl z))] [(m0, .inr (11, [.ref p0, .ref p1, .int (nI (min (hm + 1) 5)), .ref p3, .int i4, .ref p5, .int i6, .int i7, .int i8, .int i9, .ref p10, .int i11, .ref p12, .ref p13, .ref p14, .int i15, .ref p16, .ref p17, .int i18, .ref p19, .ref p20, .ref p21, .ref p22, .int i23, .int i24, .ref p25, .ref p26, .ref p27, .ref p28, .ref p29, .ref p30, .ref p31, .ref p32])), (p0, .inl (cI, 1439, .inl w)), (p1, .inl (cI, 7195, .inl (ftPush w z hm)))] s.heap.size) ([.ref m0] : List Value).toArray s 0 0 A) (F0 m 10 ls []) := by
      intro n10
      induction n10 with
      | zero =>
        intro t x10_1 g10_p1 hm10
        exact absurd hm10 (Nat.not_lt_zero _)
      | succ n10 ih10 =>
        intro t x10_1 g10_p1 hm10 ht0 ex10_1 eg10_p1 H locs hP hD hS ls hl
        subst ex10_1
        refine lv_iload_n hx hb dX11_change_10 rfl (lv_at hl 1 rfl) ?_
        refine lv_sipush (v := 5756) hx hb dX11_change_11 (by decide) ?_
        refine lv_icmp_ge (tgt := 39) hx hb dX11_change_14 (by decide) (fun c14 => ?_) (fun c14 => ?_)
        · have c14n : 5756 ≤ t := ft_leN (by omega) (by omega) c14
          refine lv_aload_n hx hb dX11_change_39 rfl (lv_at hl 0 rfl) ?_
          refine lv_dup hx hb dX11_change_40 rfl ?_
          refine va_get (D := D) (ci := 11) (v := .int (nI hm)) (C := RX11) (T := TX11) (N := 33) hx hb hts (by decide +kernel) hown hK hP 0 rfl rfl 2 (by decide) (hts (.fieldLink RX11 82 "FiberTraceModel" "stateMany" "I") (by decide +kernel)) (fun _ h9 => h9) rfl dX11_change_41 ?_
          refine lv_iconst (v := 1) hx hb dX11_change_44 (by decide) ?_
          refine lv_isub hx hb dX11_change_45 ?_
          refine ft_top (y := nI (hm - 1)) (ft_subN (a := hm) (b := 1) (by omega)) ?_
          refine va_put (D := D) (ci := 11) (v := .int (nI (hm - 1))) (ty := .int) (C := RX11) (T := TX11) (N := 33) hx hb hts (by decide +kernel) tyX11 tyX11_ok nmX11 hown hK hP hD hS 0 rfl rfl 2 (by decide) (hts (.fieldLink RX11 82 "FiberTraceModel" "stateMany" "I") (by decide +kernel)) (fun _ h9 => h9) rfl (by decide +kernel) rfl rfl (Nat.le_of_ble_eq_true rfl) dX11_change_46 (fun H locs hP hD hS => ?_)
          have hP : va_P D vwCl [(m0, .inr (11, [.ref p0, .ref p1, .int (nI (hm - 1)), .ref p3, .int i4, .ref p5, .int i6, .int i7, .int i8, .int i9, .ref p10, .int i11, .ref p12, .ref p13, .ref p14, .int i15, .ref p16, .ref p17, .int i18, .ref p19, .ref p20, .ref p21, .ref p22, .int i23, .int i24, .ref p25, .ref p26, .ref p27, .ref p28, .ref p29, .ref p30, .ref p31, .ref p32])), (p0, .inl (cI, 1439, .inl w)), (p1, .inl (cI, 7195, .inl g10_p1))] H := hP
          have hD : va_D A [(m0, .inr (11, [.ref p0, .ref p1, .int (nI (hm - 1)), .ref p3, .int i4, .ref p5, .int i6, .int i7, .int i8, .int i9, .ref p10, .int i11, .ref p12, .ref p13, .ref p14, .int i15, .ref p16, .ref p17, .int i18, .ref p19, .ref p20, .ref p21, .ref p22, .int i23, .int i24, .ref p25, .ref p26, .ref p27, .ref p28, .ref p29, .ref p30, .ref p31, .ref p32])), (p0, .inl (cI, 1439, .inl w)), (p1, .inl (cI, 7195, .inl g10_p1))] := hD
          obtain ⟨zz, hzz⟩ : ∃ zz, zz = g10_p1 := ⟨_, rfl⟩
          obtain ⟨hh, hhh⟩ : ∃ hh, hh = hm - 1 := ⟨_, rfl⟩
          refine lv_iconst (v := 0) hx hb dX11_change_49 (by decide) ?_
          refine lv_istore_n (lv' := [(1, .int 0), (0, .ref m0)]) hx hb dX11_change_50 rfl hl (by decide) rfl (fun ls hl => ?_)
          have lp51 : ∀ (n51 : Nat) (r : Nat) (x51_1 : Int32) (g51_p1 : Nat → Int32), 1439 - r < n51 → (r ≤ 1439) → x51_1 = nI r → g51_p1 = ftSeg w zz (hh * 1439) r → ∀ (H : Heap) (locs : List Loc), va_P D vwCl [(m0, .inr (11, [.ref p0, .ref p1, .int (nI (hm - 1)), .ref p3, .int i4, .ref p5, .int i6, .int i7, .int i8, .int i9, .ref p10, .int i11, .ref p12, .ref p13, .ref p14, .int i15, .ref p16, .ref p17, .int i18, .ref p19, .ref p20, .ref p21, .ref p22, .int i23, .int i24, .ref p25, .ref p26, .ref p27, .ref p28, .ref p29, .ref p30, .ref p31, .ref p32])), (p0, .inl (cI, 1439, .inl w)), (p1, .inl (cI, 7195, .inl g51_p1))] H → va_D A [(m0, .inr (11, [.ref p0, .ref p1, .int (nI (hm - 1)), .ref p3, .int i4, .ref p5, .int i6, .int i7, .int i8, .int i9, .ref p10, .int i11, .ref p12, .ref p13, .ref p14, .int i15, .ref p16, .ref p17, .int i18, .ref p19, .ref p20, .ref p21, .ref p22, .int i23, .int i24, .ref p25, .ref p26, .ref p27, .ref p28, .ref p29, .ref p30, .ref p31, .ref p32])), (p0, .inl (cI, 1439, .inl w)), (p1, .inl (cI, 7195, .inl g51_p1))] → va_S A s.heap H locs → ∀ ls : Array Slot, lv_has ls 2 [(0, .ref m0), (1, .int x51_1)] → W p l e (headSpec wsX11_change { frames := 0, cells := 0, slots := 0, locals := 0 }).room s m ([.ref m0] : List Value).toArray below meth c H locs 0 0 (MQ below (ftQv D [(m0, .inr (11, [.ref p0, .ref p1, .int (nI hm), .ref p3, .int i4, .ref p5, .int i6, .int i7, .int i8, .int i9, .ref p10, .int i11, .ref p12, .ref p13, .ref p14, .int i15, .ref p16, .ref p17, .int i18, .ref p19, .ref p20, .ref p21, .ref p22, .int i23, .int i24, .ref p25, .ref p26, .ref p27, .ref p28, .ref p29, .ref p30, .ref p31, .ref p32])), (p0, .inl (cI, 1439, .inl w)), (p1, .inl (cI, 7195, .inl z))] [(m0, .inr (11, [.ref p0, .ref p1, .int (nI (min (hm + 1) 5)), .ref p3, .int i4, .ref p5, .int i6, .int i7, .int i8, .int i9, .ref p10, .int i11, .ref p12, .ref p13, .ref p14, .int i15, .ref p16, .ref p17, .int i18, .ref p19, .ref p20, .ref p21, .ref p22, .int i23, .int i24, .ref p25, .ref p26, .ref p27, .ref p28, .ref p29, .ref p30, .ref p31, .ref p32])), (p0, .inl (cI, 1439, .inl w)), (p1, .inl (cI, 7195, .inl (ftPush w z hm)))] s.heap.size) ([.ref m0] : List Value).toArray s 0 0 A) (F0 m 51 ls []) := by
            intro n51
            induction n51 with
            | zero =>
              intro r x51_1 g51_p1 hm51
              exact absurd hm51 (Nat.not_lt_zero _)
            | succ n51 ih51 =>
              intro r x51_1 g51_p1 hm51 hr0 ex51_1 eg51_p1 H locs hP hD hS ls hl
              subst ex51_1
              refine lv_iload_n hx hb dX11_change_51 rfl (lv_at hl 1 rfl) ?_
              refine lv_sipush (v := 1439) hx hb dX11_change_52 (by decide) ?_
              refine lv_icmp_ge (tgt := 85) hx hb dX11_change_55 (by decide) (fun c55 => ?_) (fun c55 => ?_)
              · have c55n : 1439 ≤ r := ft_leN (by omega) (by omega) c55
                refine lv_aload_n hx hb dX11_change_85 rfl (lv_at hl 0 rfl) ?_
                refine lv_dup hx hb dX11_change_86 rfl ?_
                refine va_get (D := D) (ci := 11) (v := .int (nI (hm - 1))) (C := RX11) (T := TX11) (N := 33) hx hb hts (by decide +kernel) hown hK hP 0 rfl rfl 2 (by decide) (hts (.fieldLink RX11 82 "FiberTraceModel" "stateMany" "I") (by decide +kernel)) (fun _ h9 => h9) rfl dX11_change_87 ?_
                refine lv_iconst (v := 1) hx hb dX11_change_90 (by decide) ?_
                refine lv_iadd hx hb dX11_change_91 ?_
                refine ft_top (y := nI ((hm - 1) + 1)) (ft_addN (hm - 1) 1) ?_
                refine va_put (D := D) (ci := 11) (v := .int (nI ((hm - 1) + 1))) (ty := .int) (C := RX11) (T := TX11) (N := 33) hx hb hts (by decide +kernel) tyX11 tyX11_ok nmX11 hown hK hP hD hS 0 rfl rfl 2 (by decide) (hts (.fieldLink RX11 82 "FiberTraceModel" "stateMany" "I") (by decide +kernel)) (fun _ h9 => h9) rfl (by decide +kernel) rfl rfl (Nat.le_of_ble_eq_true rfl) dX11_change_92 (fun H locs hP hD hS => ?_)
                have hP : va_P D vwCl [(m0, .inr (11, [.ref p0, .ref p1, .int (nI ((hm - 1) + 1)), .ref p3, .int i4, .ref p5, .int i6, .int i7, .int i8, .int i9, .ref p10, .int i11, .ref p12, .ref p13, .ref p14, .int i15, .ref p16, .ref p17, .int i18, .ref p19, .ref p20, .ref p21, .ref p22, .int i23, .int i24, .ref p25, .ref p26, .ref p27, .ref p28, .ref p29, .ref p30, .ref p31, .ref p32])), (p0, .inl (cI, 1439, .inl w)), (p1, .inl (cI, 7195, .inl g51_p1))] H := hP
                have hD : va_D A [(m0, .inr (11, [.ref p0, .ref p1, .int (nI ((hm - 1) + 1)), .ref p3, .int i4, .ref p5, .int i6, .int i7, .int i8, .int i9, .ref p10, .int i11, .ref p12, .ref p13, .ref p14, .int i15, .ref p16, .ref p17, .int i18, .ref p19, .ref p20, .ref p21, .ref p22, .int i23, .int i24, .ref p25, .ref p26, .ref p27, .ref p28, .ref p29, .ref p30, .ref p31, .ref p32])), (p0, .inl (cI, 1439, .inl w)), (p1, .inl (cI, 7195, .inl g51_p1))] := hD
                have hw9 : ([(m0, .inr (11, [.ref p0, .ref p1, .int (nI ((hm - 1) + 1)), .ref p3, .int i4, .ref p5, .int i6, .int i7, .int i8, .int i9, .ref p10, .int i11, .ref p12, .ref p13, .ref p14, .int i15, .ref p16, .ref p17, .int i18, .ref p19, .ref p20, .ref p21, .ref p22, .int i23, .int i24, .ref p25, .ref p26, .ref p27, .ref p28, .ref p29, .ref p30, .ref p31, .ref p32])), (p0, .inl (cI, 1439, .inl w)), (p1, .inl (cI, 7195, .inl g51_p1))] : va_W) = [(m0, .inr (11, [.ref p0, .ref p1, .int (nI (min (hm + 1) 5)), .ref p3, .int i4, .ref p5, .int i6, .int i7, .int i8, .int i9, .ref p10, .int i11, .ref p12, .ref p13, .ref p14, .int i15, .ref p16, .ref p17, .int i18, .ref p19, .ref p20, .ref p21, .ref p22, .int i23, .int i24, .ref p25, .ref p26, .ref p27, .ref p28, .ref p29, .ref p30, .ref p31, .ref p32])), (p0, .inl (cI, 1439, .inl w)), (p1, .inl (cI, 7195, .inl (ftPush w z hm)))] := by (have ht9 : r = 1439 := by omega); rw [eg51_p1, hzz, hhh, ht9]; first | (rw [ftPush_n c5n, Nat.min_eq_left (by omega)]; done) | (rw [eg10_p1, show t = 5756 by omega, ftPush_5 c5n, show min (hm + 1) 5 = hm - 1 + 1 by omega]; done)
                rw [hw9] at hP hD
                exact W.vret hx hb hr (fun t ht hW => ⟨⟨(), rfl, trivial, by rw [ht]; exact hP, by rw [hAe]; exact hD⟩, by rw [hAe]; exact hS.F ht⟩) hS.2.2 dX11_change_95
              · have c55n : r < 1439 := ft_nleN (by omega) (by omega) c55
                refine lv_aload_n hx hb dX11_change_58 rfl (lv_at hl 0 rfl) ?_
                refine va_get (D := D) (ci := 11) (v := .ref p1) (C := RX11) (T := TX11) (N := 33) hx hb hts (by decide +kernel) hown hK hP 0 rfl rfl 1 (by decide) (hts (.fieldLink RX11 13 "FiberTraceModel" "states" "[I") (by decide +kernel)) (fun _ h9 => h9) rfl dX11_change_59 ?_
                refine lv_aload_n hx hb dX11_change_62 rfl (lv_at hl 0 rfl) ?_
                refine va_get (D := D) (ci := 11) (v := .int (nI (hm - 1))) (C := RX11) (T := TX11) (N := 33) hx hb hts (by decide +kernel) hown hK hP 0 rfl rfl 2 (by decide) (hts (.fieldLink RX11 82 "FiberTraceModel" "stateMany" "I") (by decide +kernel)) (fun _ h9 => h9) rfl dX11_change_63 ?_
                refine lv_sipush (v := 1439) hx hb dX11_change_66 (by decide) ?_
                refine lv_imul hx hb dX11_change_69 ?_
                refine ft_top (y := nI ((hm - 1) * 1439)) (ft_mulN (hm - 1) 1439) ?_
                refine lv_iload_n hx hb dX11_change_70 rfl (lv_at hl 1 rfl) ?_
                refine lv_iadd hx hb dX11_change_71 ?_
                refine ft_top (y := nI (((hm - 1) * 1439) + r)) (ft_addN ((hm - 1) * 1439) r) ?_
                refine lv_aload_n hx hb dX11_change_72 rfl (lv_at hl 0 rfl) ?_
                refine va_get (D := D) (ci := 11) (v := .ref p0) (C := RX11) (T := TX11) (N := 33) hx hb hts (by decide +kernel) hown hK hP 0 rfl rfl 0 (by decide) (hts (.fieldLink RX11 7 "FiberTraceModel" "now" "[I") (by decide +kernel)) (fun _ h9 => h9) rfl dX11_change_73 ?_
                refine lv_iload_n hx hb dX11_change_76 rfl (lv_at hl 1 rfl) ?_
                refine va_iald hx hb hK hP 1 0 rfl rfl (vp_in_nI (by omega) (by omega)) dX11_change_77 ?_
                refine ft_top (y := w r) (ft_clampN (by omega)) ?_
                refine va_iast hx hb hK hP hD hS 2 0 rfl rfl (vp_in_nI (by omega) (by omega)) dX11_change_78 (fun H locs hP hD hS => ?_)
                rw [nI_clamp (show ((hm - 1) * 1439) + r < 2 ^ 31 by omega)] at hP hD
                have hP : va_P D vwCl [(m0, .inr (11, [.ref p0, .ref p1, .int (nI (hm - 1)), .ref p3, .int i4, .ref p5, .int i6, .int i7, .int i8, .int i9, .ref p10, .int i11, .ref p12, .ref p13, .ref p14, .int i15, .ref p16, .ref p17, .int i18, .ref p19, .ref p20, .ref p21, .ref p22, .int i23, .int i24, .ref p25, .ref p26, .ref p27, .ref p28, .ref p29, .ref p30, .ref p31, .ref p32])), (p0, .inl (cI, 1439, .inl w)), (p1, .inl (cI, 7195, .inl (upd g51_p1 (((hm - 1) * 1439) + r) (w r))))] H := hP
                have hD : va_D A [(m0, .inr (11, [.ref p0, .ref p1, .int (nI (hm - 1)), .ref p3, .int i4, .ref p5, .int i6, .int i7, .int i8, .int i9, .ref p10, .int i11, .ref p12, .ref p13, .ref p14, .int i15, .ref p16, .ref p17, .int i18, .ref p19, .ref p20, .ref p21, .ref p22, .int i23, .int i24, .ref p25, .ref p26, .ref p27, .ref p28, .ref p29, .ref p30, .ref p31, .ref p32])), (p0, .inl (cI, 1439, .inl w)), (p1, .inl (cI, 7195, .inl (upd g51_p1 (((hm - 1) * 1439) + r) (w r))))] := hD
                refine lv_iinc (v := nI (r + 1)) (lv' := [(1, .int (nI (r + 1))), (0, .ref m0)]) hx hb dX11_change_79 hl (k := 1) rfl (ft_inc r) (by decide) rfl (fun ls hl => ?_)
                refine lv_goto (tgt := 51) hx hb dX11_change_82 (by decide) ?_
                exact ih51 (r + 1) (nI (r + 1)) (upd g51_p1 (((hm - 1) * 1439) + r) (w r)) (by omega) (by omega) (by first | rfl | assumption) (by rw [eg51_p1, hhh]; exact ftSeg_s) _ _ hP hD hS ls (lv_sub hl [1, 0] rfl)
          exact lp51 _ 0 0 g10_p1 (Nat.lt_succ_self _) (by omega) (by rfl) (by rw [hzz]; exact ftSeg_0 _ _ _) _ _ hP hD hS ls (lv_sub hl [1, 0] rfl)
        · have c14n : t < 5756 := ft_nleN (by omega) (by omega) c14
          refine lv_aload_n hx hb dX11_change_17 rfl (lv_at hl 0 rfl) ?_
          refine va_get (D := D) (ci := 11) (v := .ref p1) (C := RX11) (T := TX11) (N := 33) hx hb hts (by decide +kernel) hown hK hP 0 rfl rfl 1 (by decide) (hts (.fieldLink RX11 13 "FiberTraceModel" "states" "[I") (by decide +kernel)) (fun _ h9 => h9) rfl dX11_change_18 ?_
          refine lv_iload_n hx hb dX11_change_21 rfl (lv_at hl 1 rfl) ?_
          refine lv_aload_n hx hb dX11_change_22 rfl (lv_at hl 0 rfl) ?_
          refine va_get (D := D) (ci := 11) (v := .ref p1) (C := RX11) (T := TX11) (N := 33) hx hb hts (by decide +kernel) hown hK hP 0 rfl rfl 1 (by decide) (hts (.fieldLink RX11 13 "FiberTraceModel" "states" "[I") (by decide +kernel)) (fun _ h9 => h9) rfl dX11_change_23 ?_
          refine lv_iload_n hx hb dX11_change_26 rfl (lv_at hl 1 rfl) ?_
          refine lv_sipush (v := 1439) hx hb dX11_change_27 (by decide) ?_
          refine lv_iadd hx hb dX11_change_30 ?_
          refine ft_top (y := nI (t + 1439)) (ft_addN t 1439) ?_
          refine va_iald hx hb hK hP 2 0 rfl rfl (vp_in_nI (by omega) (by omega)) dX11_change_31 ?_
          refine ft_top (y := g10_p1 (t + 1439)) (ft_clampN (by omega)) ?_
          refine va_iast hx hb hK hP hD hS 2 0 rfl rfl (vp_in_nI (by omega) (by omega)) dX11_change_32 (fun H locs hP hD hS => ?_)
          rw [nI_clamp (show t < 2 ^ 31 by omega)] at hP hD
          have hP : va_P D vwCl [(m0, .inr (11, [.ref p0, .ref p1, .int (nI hm), .ref p3, .int i4, .ref p5, .int i6, .int i7, .int i8, .int i9, .ref p10, .int i11, .ref p12, .ref p13, .ref p14, .int i15, .ref p16, .ref p17, .int i18, .ref p19, .ref p20, .ref p21, .ref p22, .int i23, .int i24, .ref p25, .ref p26, .ref p27, .ref p28, .ref p29, .ref p30, .ref p31, .ref p32])), (p0, .inl (cI, 1439, .inl w)), (p1, .inl (cI, 7195, .inl (upd g10_p1 t (g10_p1 (t + 1439)))))] H := hP
          have hD : va_D A [(m0, .inr (11, [.ref p0, .ref p1, .int (nI hm), .ref p3, .int i4, .ref p5, .int i6, .int i7, .int i8, .int i9, .ref p10, .int i11, .ref p12, .ref p13, .ref p14, .int i15, .ref p16, .ref p17, .int i18, .ref p19, .ref p20, .ref p21, .ref p22, .int i23, .int i24, .ref p25, .ref p26, .ref p27, .ref p28, .ref p29, .ref p30, .ref p31, .ref p32])), (p0, .inl (cI, 1439, .inl w)), (p1, .inl (cI, 7195, .inl (upd g10_p1 t (g10_p1 (t + 1439)))))] := hD
          refine lv_iinc (v := nI (t + 1)) (lv' := [(1, .int (nI (t + 1))), (0, .ref m0)]) hx hb dX11_change_33 hl (k := 1) rfl (ft_inc t) (by decide) rfl (fun ls hl => ?_)
          refine lv_goto (tgt := 10) hx hb dX11_change_36 (by decide) ?_
          exact ih10 (t + 1) (nI (t + 1)) (upd g10_p1 t (g10_p1 (t + 1439))) (by omega) (by omega) (by first | rfl | assumption) (by rw [eg10_p1]; exact ftShift_s) _ _ hP hD hS ls (lv_sub hl [1, 0] rfl)
    exact lp10 _ 0 0 z (Nat.lt_succ_self _) (by omega) (by rfl) (by exact ftShift_0 z) _ _ hP hD hS ls (lv_sub hl [1, 0] rfl)
end
