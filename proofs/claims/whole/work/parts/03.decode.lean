theorem dX0_init_0 : decode cX0_init 0 = .ok (.aload_n 0, 1) := by decide +kernel
theorem dX0_init_1 : decode cX0_init 1 = .ok (.invokespecial 3, 3) := by decide +kernel
theorem dX0_init_4 : decode cX0_init 4 = .ok (.aload_n 0, 1) := by decide +kernel
theorem dX0_init_5 : decode cX0_init 5 = .ok (.bipush 8, 2) := by decide +kernel
theorem dX0_init_7 : decode cX0_init 7 = .ok (.newarray .int, 2) := by decide +kernel
theorem dX0_init_9 : decode cX0_init 9 = .ok (.putfield 9, 3) := by decide +kernel
theorem dX0_init_12 : decode cX0_init 12 = .ok (.aload_n 0, 1) := by decide +kernel
theorem dX0_init_13 : decode cX0_init 13 = .ok (.bipush 8, 2) := by decide +kernel
theorem dX0_init_15 : decode cX0_init 15 = .ok (.newarray .int, 2) := by decide +kernel
theorem dX0_init_17 : decode cX0_init 17 = .ok (.putfield 15, 3) := by decide +kernel
theorem dX0_init_20 : decode cX0_init 20 = .ok (.return_, 1) := by decide +kernel
theorem dX0_copyFrom_0 : decode cX0_copyFrom 0 = .ok (.iconst 0, 1) := by decide +kernel
theorem dX0_copyFrom_1 : decode cX0_copyFrom 1 = .ok (.istore_n 2, 1) := by decide +kernel
theorem dX0_copyFrom_2 : decode cX0_copyFrom 2 = .ok (.iload_n 2, 1) := by decide +kernel
theorem dX0_copyFrom_3 : decode cX0_copyFrom 3 = .ok (.bipush 8, 2) := by decide +kernel
theorem dX0_copyFrom_5 : decode cX0_copyFrom 5 = .ok (.if_icmp .ge 33, 3) := by decide +kernel
theorem dX0_copyFrom_8 : decode cX0_copyFrom 8 = .ok (.aload_n 0, 1) := by decide +kernel
theorem dX0_copyFrom_9 : decode cX0_copyFrom 9 = .ok (.getfield 9, 3) := by decide +kernel
theorem dX0_copyFrom_12 : decode cX0_copyFrom 12 = .ok (.iload_n 2, 1) := by decide +kernel
theorem dX0_copyFrom_13 : decode cX0_copyFrom 13 = .ok (.aload_n 1, 1) := by decide +kernel
theorem dX0_copyFrom_14 : decode cX0_copyFrom 14 = .ok (.getfield 9, 3) := by decide +kernel
theorem dX0_copyFrom_17 : decode cX0_copyFrom 17 = .ok (.iload_n 2, 1) := by decide +kernel
theorem dX0_copyFrom_18 : decode cX0_copyFrom 18 = .ok (.iaload, 1) := by decide +kernel
theorem dX0_copyFrom_19 : decode cX0_copyFrom 19 = .ok (.iastore, 1) := by decide +kernel
theorem dX0_copyFrom_20 : decode cX0_copyFrom 20 = .ok (.aload_n 0, 1) := by decide +kernel
theorem dX0_copyFrom_21 : decode cX0_copyFrom 21 = .ok (.getfield 15, 3) := by decide +kernel
theorem dX0_copyFrom_24 : decode cX0_copyFrom 24 = .ok (.iload_n 2, 1) := by decide +kernel
theorem dX0_copyFrom_25 : decode cX0_copyFrom 25 = .ok (.aload_n 1, 1) := by decide +kernel
theorem dX0_copyFrom_26 : decode cX0_copyFrom 26 = .ok (.getfield 15, 3) := by decide +kernel
theorem dX0_copyFrom_29 : decode cX0_copyFrom 29 = .ok (.iload_n 2, 1) := by decide +kernel
theorem dX0_copyFrom_30 : decode cX0_copyFrom 30 = .ok (.iaload, 1) := by decide +kernel
theorem dX0_copyFrom_31 : decode cX0_copyFrom 31 = .ok (.iastore, 1) := by decide +kernel
theorem dX0_copyFrom_32 : decode cX0_copyFrom 32 = .ok (.iinc 2 1, 3) := by decide +kernel
theorem dX0_copyFrom_35 : decode cX0_copyFrom 35 = .ok (.goto (-33), 3) := by decide +kernel
theorem dX0_copyFrom_38 : decode cX0_copyFrom 38 = .ok (.return_, 1) := by decide +kernel
theorem dX0_sideOf_0 : decode cX0_sideOf 0 = .ok (.iload_n 1, 1) := by decide +kernel
theorem dX0_sideOf_1 : decode cX0_sideOf 1 = .ok (.invokestatic 18, 3) := by decide +kernel
theorem dX0_sideOf_4 : decode cX0_sideOf 4 = .ok (.ifCond .eq 12, 3) := by decide +kernel
theorem dX0_sideOf_7 : decode cX0_sideOf 7 = .ok (.aload_n 0, 1) := by decide +kernel
theorem dX0_sideOf_8 : decode cX0_sideOf 8 = .ok (.getfield 9, 3) := by decide +kernel
theorem dX0_sideOf_11 : decode cX0_sideOf 11 = .ok (.iload_n 1, 1) := by decide +kernel
theorem dX0_sideOf_12 : decode cX0_sideOf 12 = .ok (.iaload, 1) := by decide +kernel
theorem dX0_sideOf_13 : decode cX0_sideOf 13 = .ok (.goto 4, 3) := by decide +kernel
theorem dX0_sideOf_16 : decode cX0_sideOf 16 = .ok (.iconst 0, 1) := by decide +kernel
theorem dX0_sideOf_17 : decode cX0_sideOf 17 = .ok (.ireturn, 1) := by decide +kernel
theorem dX0_aheadOf_0 : decode cX0_aheadOf 0 = .ok (.iload_n 1, 1) := by decide +kernel
theorem dX0_aheadOf_1 : decode cX0_aheadOf 1 = .ok (.invokestatic 18, 3) := by decide +kernel
theorem dX0_aheadOf_4 : decode cX0_aheadOf 4 = .ok (.ifCond .eq 12, 3) := by decide +kernel
theorem dX0_aheadOf_7 : decode cX0_aheadOf 7 = .ok (.aload_n 0, 1) := by decide +kernel
theorem dX0_aheadOf_8 : decode cX0_aheadOf 8 = .ok (.getfield 15, 3) := by decide +kernel
theorem dX0_aheadOf_11 : decode cX0_aheadOf 11 = .ok (.iload_n 1, 1) := by decide +kernel
theorem dX0_aheadOf_12 : decode cX0_aheadOf 12 = .ok (.iaload, 1) := by decide +kernel
theorem dX0_aheadOf_13 : decode cX0_aheadOf 13 = .ok (.goto 4, 3) := by decide +kernel
theorem dX0_aheadOf_16 : decode cX0_aheadOf 16 = .ok (.iconst 0, 1) := by decide +kernel
theorem dX0_aheadOf_17 : decode cX0_aheadOf 17 = .ok (.ireturn, 1) := by decide +kernel
theorem dX0_blow_0 : decode cX0_blow 0 = .ok (.iload_n 1, 1) := by decide +kernel
theorem dX0_blow_1 : decode cX0_blow 1 = .ok (.invokestatic 18, 3) := by decide +kernel
theorem dX0_blow_4 : decode cX0_blow 4 = .ok (.ifCond .eq 17, 3) := by decide +kernel
theorem dX0_blow_7 : decode cX0_blow 7 = .ok (.aload_n 0, 1) := by decide +kernel
theorem dX0_blow_8 : decode cX0_blow 8 = .ok (.getfield 9, 3) := by decide +kernel
theorem dX0_blow_11 : decode cX0_blow 11 = .ok (.iload_n 1, 1) := by decide +kernel
theorem dX0_blow_12 : decode cX0_blow 12 = .ok (.iload_n 2, 1) := by decide +kernel
theorem dX0_blow_13 : decode cX0_blow 13 = .ok (.iastore, 1) := by decide +kernel
theorem dX0_blow_14 : decode cX0_blow 14 = .ok (.aload_n 0, 1) := by decide +kernel
theorem dX0_blow_15 : decode cX0_blow 15 = .ok (.getfield 15, 3) := by decide +kernel
theorem dX0_blow_18 : decode cX0_blow 18 = .ok (.iload_n 1, 1) := by decide +kernel
theorem dX0_blow_19 : decode cX0_blow 19 = .ok (.iload_n 3, 1) := by decide +kernel
theorem dX0_blow_20 : decode cX0_blow 20 = .ok (.iastore, 1) := by decide +kernel
theorem dX0_blow_21 : decode cX0_blow 21 = .ok (.return_, 1) := by decide +kernel
theorem dX0_turnAbout_0 : decode cX0_turnAbout 0 = .ok (.iconst 0, 1) := by decide +kernel
theorem dX0_turnAbout_1 : decode cX0_turnAbout 1 = .ok (.istore_n 1, 1) := by decide +kernel
theorem dX0_turnAbout_2 : decode cX0_turnAbout 2 = .ok (.iload_n 1, 1) := by decide +kernel
theorem dX0_turnAbout_3 : decode cX0_turnAbout 3 = .ok (.bipush 8, 2) := by decide +kernel
theorem dX0_turnAbout_5 : decode cX0_turnAbout 5 = .ok (.if_icmp .ge 22, 3) := by decide +kernel
theorem dX0_turnAbout_8 : decode cX0_turnAbout 8 = .ok (.aload_n 0, 1) := by decide +kernel
theorem dX0_turnAbout_9 : decode cX0_turnAbout 9 = .ok (.getfield 9, 3) := by decide +kernel
theorem dX0_turnAbout_12 : decode cX0_turnAbout 12 = .ok (.iload_n 1, 1) := by decide +kernel
theorem dX0_turnAbout_13 : decode cX0_turnAbout 13 = .ok (.aload_n 0, 1) := by decide +kernel
theorem dX0_turnAbout_14 : decode cX0_turnAbout 14 = .ok (.getfield 9, 3) := by decide +kernel
theorem dX0_turnAbout_17 : decode cX0_turnAbout 17 = .ok (.iload_n 1, 1) := by decide +kernel
theorem dX0_turnAbout_18 : decode cX0_turnAbout 18 = .ok (.iaload, 1) := by decide +kernel
theorem dX0_turnAbout_19 : decode cX0_turnAbout 19 = .ok (.ineg, 1) := by decide +kernel
theorem dX0_turnAbout_20 : decode cX0_turnAbout 20 = .ok (.iastore, 1) := by decide +kernel
theorem dX0_turnAbout_21 : decode cX0_turnAbout 21 = .ok (.iinc 1 1, 3) := by decide +kernel
theorem dX0_turnAbout_24 : decode cX0_turnAbout 24 = .ok (.goto (-22), 3) := by decide +kernel
theorem dX0_turnAbout_27 : decode cX0_turnAbout 27 = .ok (.return_, 1) := by decide +kernel
theorem dX0_dragOf_0 : decode cX0_dragOf 0 = .ok (.iconst 0, 1) := by decide +kernel
theorem dX0_dragOf_1 : decode cX0_dragOf 1 = .ok (.iconst 4, 1) := by decide +kernel
theorem dX0_dragOf_2 : decode cX0_dragOf 2 = .ok (.iload_n 1, 1) := by decide +kernel
theorem dX0_dragOf_3 : decode cX0_dragOf 3 = .ok (.imul, 1) := by decide +kernel
theorem dX0_dragOf_4 : decode cX0_dragOf 4 = .ok (.iconst 3, 1) := by decide +kernel
theorem dX0_dragOf_5 : decode cX0_dragOf 5 = .ok (.aload_n 0, 1) := by decide +kernel
theorem dX0_dragOf_6 : decode cX0_dragOf 6 = .ok (.getfield 9, 3) := by decide +kernel
theorem dX0_dragOf_9 : decode cX0_dragOf 9 = .ok (.iconst 0, 1) := by decide +kernel
theorem dX0_dragOf_10 : decode cX0_dragOf 10 = .ok (.iaload, 1) := by decide +kernel
theorem dX0_dragOf_11 : decode cX0_dragOf 11 = .ok (.invokestatic 22, 3) := by decide +kernel
theorem dX0_dragOf_14 : decode cX0_dragOf 14 = .ok (.aload_n 0, 1) := by decide +kernel
theorem dX0_dragOf_15 : decode cX0_dragOf 15 = .ok (.getfield 15, 3) := by decide +kernel
theorem dX0_dragOf_18 : decode cX0_dragOf 18 = .ok (.iconst 0, 1) := by decide +kernel
theorem dX0_dragOf_19 : decode cX0_dragOf 19 = .ok (.iaload, 1) := by decide +kernel
theorem dX0_dragOf_20 : decode cX0_dragOf 20 = .ok (.iadd, 1) := by decide +kernel
theorem dX0_dragOf_21 : decode cX0_dragOf 21 = .ok (.imul, 1) := by decide +kernel
theorem dX0_dragOf_22 : decode cX0_dragOf 22 = .ok (.iadd, 1) := by decide +kernel
theorem dX0_dragOf_23 : decode cX0_dragOf 23 = .ok (.iconst 2, 1) := by decide +kernel
theorem dX0_dragOf_24 : decode cX0_dragOf 24 = .ok (.iload_n 2, 1) := by decide +kernel
theorem dX0_dragOf_25 : decode cX0_dragOf 25 = .ok (.imul, 1) := by decide +kernel
theorem dX0_dragOf_26 : decode cX0_dragOf 26 = .ok (.isub, 1) := by decide +kernel
theorem dX0_dragOf_27 : decode cX0_dragOf 27 = .ok (.invokestatic 28, 3) := by decide +kernel
theorem dX0_dragOf_30 : decode cX0_dragOf 30 = .ok (.ireturn, 1) := by decide +kernel
theorem dX0_layerFarthest_0 : decode cX0_layerFarthest 0 = .ok (.iconst 0, 1) := by decide +kernel
theorem dX0_layerFarthest_1 : decode cX0_layerFarthest 1 = .ok (.istore_n 2, 1) := by decide +kernel
theorem dX0_layerFarthest_2 : decode cX0_layerFarthest 2 = .ok (.iconst 1, 1) := by decide +kernel
theorem dX0_layerFarthest_3 : decode cX0_layerFarthest 3 = .ok (.istore_n 3, 1) := by decide +kernel
theorem dX0_layerFarthest_4 : decode cX0_layerFarthest 4 = .ok (.iload_n 3, 1) := by decide +kernel
theorem dX0_layerFarthest_5 : decode cX0_layerFarthest 5 = .ok (.bipush 8, 2) := by decide +kernel
theorem dX0_layerFarthest_7 : decode cX0_layerFarthest 7 = .ok (.if_icmp .ge 30, 3) := by decide +kernel
theorem dX0_layerFarthest_10 : decode cX0_layerFarthest 10 = .ok (.aload_n 0, 1) := by decide +kernel
theorem dX0_layerFarthest_11 : decode cX0_layerFarthest 11 = .ok (.iload_n 1, 1) := by decide +kernel
theorem dX0_layerFarthest_12 : decode cX0_layerFarthest 12 = .ok (.iload_n 3, 1) := by decide +kernel
theorem dX0_layerFarthest_13 : decode cX0_layerFarthest 13 = .ok (.invokevirtual 32, 3) := by decide +kernel
theorem dX0_layerFarthest_16 : decode cX0_layerFarthest 16 = .ok (.aload_n 0, 1) := by decide +kernel
theorem dX0_layerFarthest_17 : decode cX0_layerFarthest 17 = .ok (.iload_n 1, 1) := by decide +kernel
theorem dX0_layerFarthest_18 : decode cX0_layerFarthest 18 = .ok (.iload_n 2, 1) := by decide +kernel
theorem dX0_layerFarthest_19 : decode cX0_layerFarthest 19 = .ok (.invokevirtual 32, 3) := by decide +kernel
theorem dX0_layerFarthest_22 : decode cX0_layerFarthest 22 = .ok (.if_icmp .le 7, 3) := by decide +kernel
theorem dX0_layerFarthest_25 : decode cX0_layerFarthest 25 = .ok (.iload_n 3, 1) := by decide +kernel
theorem dX0_layerFarthest_26 : decode cX0_layerFarthest 26 = .ok (.goto 4, 3) := by decide +kernel
theorem dX0_layerFarthest_29 : decode cX0_layerFarthest 29 = .ok (.iload_n 2, 1) := by decide +kernel
theorem dX0_layerFarthest_30 : decode cX0_layerFarthest 30 = .ok (.istore_n 2, 1) := by decide +kernel
theorem dX0_layerFarthest_31 : decode cX0_layerFarthest 31 = .ok (.iinc 3 1, 3) := by decide +kernel
theorem dX0_layerFarthest_34 : decode cX0_layerFarthest 34 = .ok (.goto (-30), 3) := by decide +kernel
theorem dX0_layerFarthest_37 : decode cX0_layerFarthest 37 = .ok (.iload_n 2, 1) := by decide +kernel
theorem dX0_layerFarthest_38 : decode cX0_layerFarthest 38 = .ok (.ireturn, 1) := by decide +kernel
theorem dX0_speedTo_0 : decode cX0_speedTo 0 = .ok (.iload_n 1, 1) := by decide +kernel
theorem dX0_speedTo_1 : decode cX0_speedTo 1 = .ok (.iconst 2, 1) := by decide +kernel
theorem dX0_speedTo_2 : decode cX0_speedTo 2 = .ok (.if_icmp .ne 9, 3) := by decide +kernel
theorem dX0_speedTo_5 : decode cX0_speedTo 5 = .ok (.aload_n 0, 1) := by decide +kernel
theorem dX0_speedTo_6 : decode cX0_speedTo 6 = .ok (.iload_n 2, 1) := by decide +kernel
theorem dX0_speedTo_7 : decode cX0_speedTo 7 = .ok (.invokevirtual 35, 3) := by decide +kernel
theorem dX0_speedTo_10 : decode cX0_speedTo 10 = .ok (.ireturn, 1) := by decide +kernel
theorem dX0_speedTo_11 : decode cX0_speedTo 11 = .ok (.iload_n 1, 1) := by decide +kernel
theorem dX0_speedTo_12 : decode cX0_speedTo 12 = .ok (.ifCond .ne 11, 3) := by decide +kernel
theorem dX0_speedTo_15 : decode cX0_speedTo 15 = .ok (.aload_n 0, 1) := by decide +kernel
theorem dX0_speedTo_16 : decode cX0_speedTo 16 = .ok (.iload_n 2, 1) := by decide +kernel
theorem dX0_speedTo_17 : decode cX0_speedTo 17 = .ok (.invokevirtual 38, 3) := by decide +kernel
theorem dX0_speedTo_20 : decode cX0_speedTo 20 = .ok (.goto 9, 3) := by decide +kernel
theorem dX0_speedTo_23 : decode cX0_speedTo 23 = .ok (.aload_n 0, 1) := by decide +kernel
theorem dX0_speedTo_24 : decode cX0_speedTo 24 = .ok (.iload_n 2, 1) := by decide +kernel
theorem dX0_speedTo_25 : decode cX0_speedTo 25 = .ok (.invokevirtual 38, 3) := by decide +kernel
theorem dX0_speedTo_28 : decode cX0_speedTo 28 = .ok (.ineg, 1) := by decide +kernel
theorem dX0_speedTo_29 : decode cX0_speedTo 29 = .ok (.ireturn, 1) := by decide +kernel
theorem dX0_fewestSteps_0 : decode cX0_fewestSteps 0 = .ok (.iconst 0, 1) := by decide +kernel
theorem dX0_fewestSteps_1 : decode cX0_fewestSteps 1 = .ok (.istore_n 3, 1) := by decide +kernel
theorem dX0_fewestSteps_2 : decode cX0_fewestSteps 2 = .ok (.iload_n 3, 1) := by decide +kernel
theorem dX0_fewestSteps_3 : decode cX0_fewestSteps 3 = .ok (.bipush 40, 2) := by decide +kernel
theorem dX0_fewestSteps_5 : decode cX0_fewestSteps 5 = .ok (.if_icmp .gt 23, 3) := by decide +kernel
theorem dX0_fewestSteps_8 : decode cX0_fewestSteps 8 = .ok (.aload_n 0, 1) := by decide +kernel
theorem dX0_fewestSteps_9 : decode cX0_fewestSteps 9 = .ok (.iload_n 3, 1) := by decide +kernel
theorem dX0_fewestSteps_10 : decode cX0_fewestSteps 10 = .ok (.iload_n 1, 1) := by decide +kernel
theorem dX0_fewestSteps_11 : decode cX0_fewestSteps 11 = .ok (.iload_n 2, 1) := by decide +kernel
theorem dX0_fewestSteps_12 : decode cX0_fewestSteps 12 = .ok (.invokevirtual 41, 3) := by decide +kernel
theorem dX0_fewestSteps_15 : decode cX0_fewestSteps 15 = .ok (.bipush (-9), 2) := by decide +kernel
theorem dX0_fewestSteps_17 : decode cX0_fewestSteps 17 = .ok (.if_icmp .eq 5, 3) := by decide +kernel
theorem dX0_fewestSteps_20 : decode cX0_fewestSteps 20 = .ok (.iload_n 3, 1) := by decide +kernel
theorem dX0_fewestSteps_21 : decode cX0_fewestSteps 21 = .ok (.ireturn, 1) := by decide +kernel
theorem dX0_fewestSteps_22 : decode cX0_fewestSteps 22 = .ok (.iinc 3 1, 3) := by decide +kernel
theorem dX0_fewestSteps_25 : decode cX0_fewestSteps 25 = .ok (.goto (-23), 3) := by decide +kernel
theorem dX0_fewestSteps_28 : decode cX0_fewestSteps 28 = .ok (.bipush (-9), 2) := by decide +kernel
theorem dX0_fewestSteps_30 : decode cX0_fewestSteps 30 = .ok (.ireturn, 1) := by decide +kernel
theorem dX0_layersFor_0 : decode cX0_layersFor 0 = .ok (.iconst 0, 1) := by decide +kernel
theorem dX0_layersFor_1 : decode cX0_layersFor 1 = .ok (.istore 4, 2) := by decide +kernel
theorem dX0_layersFor_3 : decode cX0_layersFor 3 = .ok (.iload 4, 2) := by decide +kernel
theorem dX0_layersFor_5 : decode cX0_layersFor 5 = .ok (.bipush 8, 2) := by decide +kernel
theorem dX0_layersFor_7 : decode cX0_layersFor 7 = .ok (.if_icmp .ge 113, 3) := by decide +kernel
theorem dX0_layersFor_10 : decode cX0_layersFor 10 = .ok (.iconst 0, 1) := by decide +kernel
theorem dX0_layersFor_11 : decode cX0_layersFor 11 = .ok (.istore 5, 2) := by decide +kernel
theorem dX0_layersFor_13 : decode cX0_layersFor 13 = .ok (.iload 5, 2) := by decide +kernel
theorem dX0_layersFor_15 : decode cX0_layersFor 15 = .ok (.bipush 8, 2) := by decide +kernel
theorem dX0_layersFor_17 : decode cX0_layersFor 17 = .ok (.if_icmp .ge 97, 3) := by decide +kernel
theorem dX0_layersFor_20 : decode cX0_layersFor 20 = .ok (.iconst 0, 1) := by decide +kernel
theorem dX0_layersFor_21 : decode cX0_layersFor 21 = .ok (.istore 6, 2) := by decide +kernel
theorem dX0_layersFor_23 : decode cX0_layersFor 23 = .ok (.iload 6, 2) := by decide +kernel
theorem dX0_layersFor_25 : decode cX0_layersFor 25 = .ok (.iload_n 1, 1) := by decide +kernel
theorem dX0_layersFor_26 : decode cX0_layersFor 26 = .ok (.if_icmp .gt 82, 3) := by decide +kernel
theorem dX0_layersFor_29 : decode cX0_layersFor 29 = .ok (.iload_n 1, 1) := by decide +kernel
theorem dX0_layersFor_30 : decode cX0_layersFor 30 = .ok (.iload 6, 2) := by decide +kernel
theorem dX0_layersFor_32 : decode cX0_layersFor 32 = .ok (.isub, 1) := by decide +kernel
theorem dX0_layersFor_33 : decode cX0_layersFor 33 = .ok (.istore 7, 2) := by decide +kernel
theorem dX0_layersFor_35 : decode cX0_layersFor 35 = .ok (.iload 6, 2) := by decide +kernel
theorem dX0_layersFor_37 : decode cX0_layersFor 37 = .ok (.aload_n 0, 1) := by decide +kernel
theorem dX0_layersFor_38 : decode cX0_layersFor 38 = .ok (.getfield 9, 3) := by decide +kernel
theorem dX0_layersFor_41 : decode cX0_layersFor 41 = .ok (.iload 4, 2) := by decide +kernel
theorem dX0_layersFor_43 : decode cX0_layersFor 43 = .ok (.iaload, 1) := by decide +kernel
theorem dX0_layersFor_44 : decode cX0_layersFor 44 = .ok (.imul, 1) := by decide +kernel
theorem dX0_layersFor_45 : decode cX0_layersFor 45 = .ok (.iload 7, 2) := by decide +kernel
theorem dX0_layersFor_47 : decode cX0_layersFor 47 = .ok (.aload_n 0, 1) := by decide +kernel
theorem dX0_layersFor_48 : decode cX0_layersFor 48 = .ok (.getfield 9, 3) := by decide +kernel
theorem dX0_layersFor_51 : decode cX0_layersFor 51 = .ok (.iload 5, 2) := by decide +kernel
theorem dX0_layersFor_53 : decode cX0_layersFor 53 = .ok (.iaload, 1) := by decide +kernel
theorem dX0_layersFor_54 : decode cX0_layersFor 54 = .ok (.imul, 1) := by decide +kernel
theorem dX0_layersFor_55 : decode cX0_layersFor 55 = .ok (.iadd, 1) := by decide +kernel
theorem dX0_layersFor_56 : decode cX0_layersFor 56 = .ok (.iload_n 2, 1) := by decide +kernel
theorem dX0_layersFor_57 : decode cX0_layersFor 57 = .ok (.if_icmp .ne 45, 3) := by decide +kernel
theorem dX0_layersFor_60 : decode cX0_layersFor 60 = .ok (.iload 6, 2) := by decide +kernel
theorem dX0_layersFor_62 : decode cX0_layersFor 62 = .ok (.aload_n 0, 1) := by decide +kernel
theorem dX0_layersFor_63 : decode cX0_layersFor 63 = .ok (.getfield 15, 3) := by decide +kernel
theorem dX0_layersFor_66 : decode cX0_layersFor 66 = .ok (.iload 4, 2) := by decide +kernel
theorem dX0_layersFor_68 : decode cX0_layersFor 68 = .ok (.iaload, 1) := by decide +kernel
theorem dX0_layersFor_69 : decode cX0_layersFor 69 = .ok (.imul, 1) := by decide +kernel
theorem dX0_layersFor_70 : decode cX0_layersFor 70 = .ok (.iload 7, 2) := by decide +kernel
theorem dX0_layersFor_72 : decode cX0_layersFor 72 = .ok (.aload_n 0, 1) := by decide +kernel
theorem dX0_layersFor_73 : decode cX0_layersFor 73 = .ok (.getfield 15, 3) := by decide +kernel
theorem dX0_layersFor_76 : decode cX0_layersFor 76 = .ok (.iload 5, 2) := by decide +kernel
theorem dX0_layersFor_78 : decode cX0_layersFor 78 = .ok (.iaload, 1) := by decide +kernel
theorem dX0_layersFor_79 : decode cX0_layersFor 79 = .ok (.imul, 1) := by decide +kernel
theorem dX0_layersFor_80 : decode cX0_layersFor 80 = .ok (.iadd, 1) := by decide +kernel
theorem dX0_layersFor_81 : decode cX0_layersFor 81 = .ok (.iload_n 3, 1) := by decide +kernel
theorem dX0_layersFor_82 : decode cX0_layersFor 82 = .ok (.if_icmp .ne 20, 3) := by decide +kernel
theorem dX0_layersFor_85 : decode cX0_layersFor 85 = .ok (.sipush 10000, 3) := by decide +kernel
theorem dX0_layersFor_88 : decode cX0_layersFor 88 = .ok (.iload 4, 2) := by decide +kernel
theorem dX0_layersFor_90 : decode cX0_layersFor 90 = .ok (.imul, 1) := by decide +kernel
theorem dX0_layersFor_91 : decode cX0_layersFor 91 = .ok (.sipush 1000, 3) := by decide +kernel
theorem dX0_layersFor_94 : decode cX0_layersFor 94 = .ok (.iload 5, 2) := by decide +kernel
theorem dX0_layersFor_96 : decode cX0_layersFor 96 = .ok (.imul, 1) := by decide +kernel
theorem dX0_layersFor_97 : decode cX0_layersFor 97 = .ok (.iadd, 1) := by decide +kernel
theorem dX0_layersFor_98 : decode cX0_layersFor 98 = .ok (.iload 6, 2) := by decide +kernel
theorem dX0_layersFor_100 : decode cX0_layersFor 100 = .ok (.iadd, 1) := by decide +kernel
theorem dX0_layersFor_101 : decode cX0_layersFor 101 = .ok (.ireturn, 1) := by decide +kernel
theorem dX0_layersFor_102 : decode cX0_layersFor 102 = .ok (.iinc 6 1, 3) := by decide +kernel
theorem dX0_layersFor_105 : decode cX0_layersFor 105 = .ok (.goto (-82), 3) := by decide +kernel
theorem dX0_layersFor_108 : decode cX0_layersFor 108 = .ok (.iinc 5 1, 3) := by decide +kernel
theorem dX0_layersFor_111 : decode cX0_layersFor 111 = .ok (.goto (-98), 3) := by decide +kernel
theorem dX0_layersFor_114 : decode cX0_layersFor 114 = .ok (.iinc 4 1, 3) := by decide +kernel
theorem dX0_layersFor_117 : decode cX0_layersFor 117 = .ok (.goto (-114), 3) := by decide +kernel
theorem dX0_layersFor_120 : decode cX0_layersFor 120 = .ok (.bipush (-9), 2) := by decide +kernel
theorem dX0_layersFor_122 : decode cX0_layersFor 122 = .ok (.ireturn, 1) := by decide +kernel
theorem dX0_layersThatFit_0 : decode cX0_layersThatFit 0 = .ok (.iconst 0, 1) := by decide +kernel
theorem dX0_layersThatFit_1 : decode cX0_layersThatFit 1 = .ok (.istore_n 2, 1) := by decide +kernel
theorem dX0_layersThatFit_2 : decode cX0_layersThatFit 2 = .ok (.iconst 0, 1) := by decide +kernel
theorem dX0_layersThatFit_3 : decode cX0_layersThatFit 3 = .ok (.istore_n 3, 1) := by decide +kernel
theorem dX0_layersThatFit_4 : decode cX0_layersThatFit 4 = .ok (.iload_n 3, 1) := by decide +kernel
theorem dX0_layersThatFit_5 : decode cX0_layersThatFit 5 = .ok (.iconst 1, 1) := by decide +kernel
theorem dX0_layersThatFit_6 : decode cX0_layersThatFit 6 = .ok (.iadd, 1) := by decide +kernel
theorem dX0_layersThatFit_7 : decode cX0_layersThatFit 7 = .ok (.aload_n 1, 1) := by decide +kernel
theorem dX0_layersThatFit_8 : decode cX0_layersThatFit 8 = .ok (.getfield 45, 3) := by decide +kernel
theorem dX0_layersThatFit_11 : decode cX0_layersThatFit 11 = .ok (.if_icmp .ge 18, 3) := by decide +kernel
theorem dX0_layersThatFit_14 : decode cX0_layersThatFit 14 = .ok (.iload_n 2, 1) := by decide +kernel
theorem dX0_layersThatFit_15 : decode cX0_layersThatFit 15 = .ok (.aload_n 0, 1) := by decide +kernel
theorem dX0_layersThatFit_16 : decode cX0_layersThatFit 16 = .ok (.aload_n 1, 1) := by decide +kernel
theorem dX0_layersThatFit_17 : decode cX0_layersThatFit 17 = .ok (.iload_n 3, 1) := by decide +kernel
theorem dX0_layersThatFit_18 : decode cX0_layersThatFit 18 = .ok (.invokevirtual 51, 3) := by decide +kernel
theorem dX0_layersThatFit_21 : decode cX0_layersThatFit 21 = .ok (.ior, 1) := by decide +kernel
theorem dX0_layersThatFit_22 : decode cX0_layersThatFit 22 = .ok (.istore_n 2, 1) := by decide +kernel
theorem dX0_layersThatFit_23 : decode cX0_layersThatFit 23 = .ok (.iinc 3 2, 3) := by decide +kernel
theorem dX0_layersThatFit_26 : decode cX0_layersThatFit 26 = .ok (.goto (-22), 3) := by decide +kernel
theorem dX0_layersThatFit_29 : decode cX0_layersThatFit 29 = .ok (.iload_n 2, 1) := by decide +kernel
theorem dX0_layersThatFit_30 : decode cX0_layersThatFit 30 = .ok (.ireturn, 1) := by decide +kernel
theorem dX0_firstPairWithoutLayer_0 : decode cX0_firstPairWithoutLayer 0 = .ok (.iconst 0, 1) := by decide +kernel
theorem dX0_firstPairWithoutLayer_1 : decode cX0_firstPairWithoutLayer 1 = .ok (.istore_n 2, 1) := by decide +kernel
theorem dX0_firstPairWithoutLayer_2 : decode cX0_firstPairWithoutLayer 2 = .ok (.iload_n 2, 1) := by decide +kernel
theorem dX0_firstPairWithoutLayer_3 : decode cX0_firstPairWithoutLayer 3 = .ok (.iconst 1, 1) := by decide +kernel
theorem dX0_firstPairWithoutLayer_4 : decode cX0_firstPairWithoutLayer 4 = .ok (.iadd, 1) := by decide +kernel
theorem dX0_firstPairWithoutLayer_5 : decode cX0_firstPairWithoutLayer 5 = .ok (.aload_n 1, 1) := by decide +kernel
theorem dX0_firstPairWithoutLayer_6 : decode cX0_firstPairWithoutLayer 6 = .ok (.getfield 45, 3) := by decide +kernel
theorem dX0_firstPairWithoutLayer_9 : decode cX0_firstPairWithoutLayer 9 = .ok (.if_icmp .ge 22, 3) := by decide +kernel
theorem dX0_firstPairWithoutLayer_12 : decode cX0_firstPairWithoutLayer 12 = .ok (.aload_n 0, 1) := by decide +kernel
theorem dX0_firstPairWithoutLayer_13 : decode cX0_firstPairWithoutLayer 13 = .ok (.aload_n 1, 1) := by decide +kernel
theorem dX0_firstPairWithoutLayer_14 : decode cX0_firstPairWithoutLayer 14 = .ok (.iload_n 2, 1) := by decide +kernel
theorem dX0_firstPairWithoutLayer_15 : decode cX0_firstPairWithoutLayer 15 = .ok (.invokevirtual 51, 3) := by decide +kernel
theorem dX0_firstPairWithoutLayer_18 : decode cX0_firstPairWithoutLayer 18 = .ok (.ifCond .ne 7, 3) := by decide +kernel
theorem dX0_firstPairWithoutLayer_21 : decode cX0_firstPairWithoutLayer 21 = .ok (.iload_n 2, 1) := by decide +kernel
theorem dX0_firstPairWithoutLayer_22 : decode cX0_firstPairWithoutLayer 22 = .ok (.iconst 2, 1) := by decide +kernel
theorem dX0_firstPairWithoutLayer_23 : decode cX0_firstPairWithoutLayer 23 = .ok (.idiv, 1) := by decide +kernel
theorem dX0_firstPairWithoutLayer_24 : decode cX0_firstPairWithoutLayer 24 = .ok (.ireturn, 1) := by decide +kernel
theorem dX0_firstPairWithoutLayer_25 : decode cX0_firstPairWithoutLayer 25 = .ok (.iinc 2 2, 3) := by decide +kernel
theorem dX0_firstPairWithoutLayer_28 : decode cX0_firstPairWithoutLayer 28 = .ok (.goto (-26), 3) := by decide +kernel
theorem dX0_firstPairWithoutLayer_31 : decode cX0_firstPairWithoutLayer 31 = .ok (.bipush (-9), 2) := by decide +kernel
theorem dX0_firstPairWithoutLayer_33 : decode cX0_firstPairWithoutLayer 33 = .ok (.ireturn, 1) := by decide +kernel
theorem dX0_layersOfPair_0 : decode cX0_layersOfPair 0 = .ok (.iconst 0, 1) := by decide +kernel
theorem dX0_layersOfPair_1 : decode cX0_layersOfPair 1 = .ok (.istore_n 3, 1) := by decide +kernel
theorem dX0_layersOfPair_2 : decode cX0_layersOfPair 2 = .ok (.iconst 0, 1) := by decide +kernel
theorem dX0_layersOfPair_3 : decode cX0_layersOfPair 3 = .ok (.istore 4, 2) := by decide +kernel
theorem dX0_layersOfPair_5 : decode cX0_layersOfPair 5 = .ok (.iload 4, 2) := by decide +kernel
theorem dX0_layersOfPair_7 : decode cX0_layersOfPair 7 = .ok (.bipush 8, 2) := by decide +kernel
theorem dX0_layersOfPair_9 : decode cX0_layersOfPair 9 = .ok (.if_icmp .ge 51, 3) := by decide +kernel
theorem dX0_layersOfPair_12 : decode cX0_layersOfPair 12 = .ok (.aload_n 0, 1) := by decide +kernel
theorem dX0_layersOfPair_13 : decode cX0_layersOfPair 13 = .ok (.getfield 9, 3) := by decide +kernel
theorem dX0_layersOfPair_16 : decode cX0_layersOfPair 16 = .ok (.iload 4, 2) := by decide +kernel
theorem dX0_layersOfPair_18 : decode cX0_layersOfPair 18 = .ok (.iaload, 1) := by decide +kernel
theorem dX0_layersOfPair_19 : decode cX0_layersOfPair 19 = .ok (.aload_n 1, 1) := by decide +kernel
theorem dX0_layersOfPair_20 : decode cX0_layersOfPair 20 = .ok (.iload_n 2, 1) := by decide +kernel
theorem dX0_layersOfPair_21 : decode cX0_layersOfPair 21 = .ok (.invokevirtual 55, 3) := by decide +kernel
theorem dX0_layersOfPair_24 : decode cX0_layersOfPair 24 = .ok (.bipush 50, 2) := by decide +kernel
theorem dX0_layersOfPair_26 : decode cX0_layersOfPair 26 = .ok (.isub, 1) := by decide +kernel
theorem dX0_layersOfPair_27 : decode cX0_layersOfPair 27 = .ok (.if_icmp .ne 27, 3) := by decide +kernel
theorem dX0_layersOfPair_30 : decode cX0_layersOfPair 30 = .ok (.aload_n 0, 1) := by decide +kernel
theorem dX0_layersOfPair_31 : decode cX0_layersOfPair 31 = .ok (.getfield 15, 3) := by decide +kernel
theorem dX0_layersOfPair_34 : decode cX0_layersOfPair 34 = .ok (.iload 4, 2) := by decide +kernel
theorem dX0_layersOfPair_36 : decode cX0_layersOfPair 36 = .ok (.iaload, 1) := by decide +kernel
theorem dX0_layersOfPair_37 : decode cX0_layersOfPair 37 = .ok (.aload_n 1, 1) := by decide +kernel
theorem dX0_layersOfPair_38 : decode cX0_layersOfPair 38 = .ok (.iload_n 2, 1) := by decide +kernel
theorem dX0_layersOfPair_39 : decode cX0_layersOfPair 39 = .ok (.iconst 1, 1) := by decide +kernel
theorem dX0_layersOfPair_40 : decode cX0_layersOfPair 40 = .ok (.iadd, 1) := by decide +kernel
theorem dX0_layersOfPair_41 : decode cX0_layersOfPair 41 = .ok (.invokevirtual 55, 3) := by decide +kernel
theorem dX0_layersOfPair_44 : decode cX0_layersOfPair 44 = .ok (.if_icmp .ne 10, 3) := by decide +kernel
theorem dX0_layersOfPair_47 : decode cX0_layersOfPair 47 = .ok (.iload_n 3, 1) := by decide +kernel
theorem dX0_layersOfPair_48 : decode cX0_layersOfPair 48 = .ok (.iconst 1, 1) := by decide +kernel
theorem dX0_layersOfPair_49 : decode cX0_layersOfPair 49 = .ok (.iload 4, 2) := by decide +kernel
theorem dX0_layersOfPair_51 : decode cX0_layersOfPair 51 = .ok (.ishl, 1) := by decide +kernel
theorem dX0_layersOfPair_52 : decode cX0_layersOfPair 52 = .ok (.ior, 1) := by decide +kernel
theorem dX0_layersOfPair_53 : decode cX0_layersOfPair 53 = .ok (.istore_n 3, 1) := by decide +kernel
theorem dX0_layersOfPair_54 : decode cX0_layersOfPair 54 = .ok (.iinc 4 1, 3) := by decide +kernel
theorem dX0_layersOfPair_57 : decode cX0_layersOfPair 57 = .ok (.goto (-52), 3) := by decide +kernel
theorem dX0_layersOfPair_60 : decode cX0_layersOfPair 60 = .ok (.iload_n 3, 1) := by decide +kernel
theorem dX0_layersOfPair_61 : decode cX0_layersOfPair 61 = .ok (.ireturn, 1) := by decide +kernel
theorem dX1_init_0 : decode cX1_init 0 = .ok (.aload_n 0, 1) := by decide +kernel
theorem dX1_init_1 : decode cX1_init 1 = .ok (.invokespecial 3, 3) := by decide +kernel
theorem dX1_init_4 : decode cX1_init 4 = .ok (.aload_n 0, 1) := by decide +kernel
theorem dX1_init_5 : decode cX1_init 5 = .ok (.bipush 8, 2) := by decide +kernel
theorem dX1_init_7 : decode cX1_init 7 = .ok (.newarray .int, 2) := by decide +kernel
theorem dX1_init_9 : decode cX1_init 9 = .ok (.putfield 9, 3) := by decide +kernel
theorem dX1_init_12 : decode cX1_init 12 = .ok (.aload_n 0, 1) := by decide +kernel
theorem dX1_init_13 : decode cX1_init 13 = .ok (.bipush 8, 2) := by decide +kernel
theorem dX1_init_15 : decode cX1_init 15 = .ok (.newarray .int, 2) := by decide +kernel
theorem dX1_init_17 : decode cX1_init 17 = .ok (.putfield 15, 3) := by decide +kernel
theorem dX1_init_20 : decode cX1_init 20 = .ok (.aload_n 0, 1) := by decide +kernel
theorem dX1_init_21 : decode cX1_init 21 = .ok (.bipush 8, 2) := by decide +kernel
theorem dX1_init_23 : decode cX1_init 23 = .ok (.newarray .int, 2) := by decide +kernel
theorem dX1_init_25 : decode cX1_init 25 = .ok (.putfield 18, 3) := by decide +kernel
theorem dX1_init_28 : decode cX1_init 28 = .ok (.aload_n 0, 1) := by decide +kernel
theorem dX1_init_29 : decode cX1_init 29 = .ok (.bipush 8, 2) := by decide +kernel
theorem dX1_init_31 : decode cX1_init 31 = .ok (.newarray .int, 2) := by decide +kernel
theorem dX1_init_33 : decode cX1_init 33 = .ok (.putfield 21, 3) := by decide +kernel
theorem dX1_init_36 : decode cX1_init 36 = .ok (.aload_n 0, 1) := by decide +kernel
theorem dX1_init_37 : decode cX1_init 37 = .ok (.bipush 8, 2) := by decide +kernel
theorem dX1_init_39 : decode cX1_init 39 = .ok (.newarray .int, 2) := by decide +kernel
theorem dX1_init_41 : decode cX1_init 41 = .ok (.putfield 24, 3) := by decide +kernel
theorem dX1_init_44 : decode cX1_init 44 = .ok (.return_, 1) := by decide +kernel
theorem dX1_copyFrom_0 : decode cX1_copyFrom 0 = .ok (.aload_n 0, 1) := by decide +kernel
theorem dX1_copyFrom_1 : decode cX1_copyFrom 1 = .ok (.aload_n 1, 1) := by decide +kernel
theorem dX1_copyFrom_2 : decode cX1_copyFrom 2 = .ok (.getfield 27, 3) := by decide +kernel
theorem dX1_copyFrom_5 : decode cX1_copyFrom 5 = .ok (.putfield 27, 3) := by decide +kernel
theorem dX1_copyFrom_8 : decode cX1_copyFrom 8 = .ok (.iconst 0, 1) := by decide +kernel
theorem dX1_copyFrom_9 : decode cX1_copyFrom 9 = .ok (.istore_n 2, 1) := by decide +kernel
theorem dX1_copyFrom_10 : decode cX1_copyFrom 10 = .ok (.iload_n 2, 1) := by decide +kernel
theorem dX1_copyFrom_11 : decode cX1_copyFrom 11 = .ok (.bipush 8, 2) := by decide +kernel
theorem dX1_copyFrom_13 : decode cX1_copyFrom 13 = .ok (.if_icmp .ge 69, 3) := by decide +kernel
theorem dX1_copyFrom_16 : decode cX1_copyFrom 16 = .ok (.aload_n 0, 1) := by decide +kernel
theorem dX1_copyFrom_17 : decode cX1_copyFrom 17 = .ok (.getfield 9, 3) := by decide +kernel
theorem dX1_copyFrom_20 : decode cX1_copyFrom 20 = .ok (.iload_n 2, 1) := by decide +kernel
theorem dX1_copyFrom_21 : decode cX1_copyFrom 21 = .ok (.aload_n 1, 1) := by decide +kernel
theorem dX1_copyFrom_22 : decode cX1_copyFrom 22 = .ok (.getfield 9, 3) := by decide +kernel
theorem dX1_copyFrom_25 : decode cX1_copyFrom 25 = .ok (.iload_n 2, 1) := by decide +kernel
theorem dX1_copyFrom_26 : decode cX1_copyFrom 26 = .ok (.iaload, 1) := by decide +kernel
theorem dX1_copyFrom_27 : decode cX1_copyFrom 27 = .ok (.iastore, 1) := by decide +kernel
theorem dX1_copyFrom_28 : decode cX1_copyFrom 28 = .ok (.aload_n 0, 1) := by decide +kernel
theorem dX1_copyFrom_29 : decode cX1_copyFrom 29 = .ok (.getfield 15, 3) := by decide +kernel
theorem dX1_copyFrom_32 : decode cX1_copyFrom 32 = .ok (.iload_n 2, 1) := by decide +kernel
theorem dX1_copyFrom_33 : decode cX1_copyFrom 33 = .ok (.aload_n 1, 1) := by decide +kernel
theorem dX1_copyFrom_34 : decode cX1_copyFrom 34 = .ok (.getfield 15, 3) := by decide +kernel
theorem dX1_copyFrom_37 : decode cX1_copyFrom 37 = .ok (.iload_n 2, 1) := by decide +kernel
theorem dX1_copyFrom_38 : decode cX1_copyFrom 38 = .ok (.iaload, 1) := by decide +kernel
theorem dX1_copyFrom_39 : decode cX1_copyFrom 39 = .ok (.iastore, 1) := by decide +kernel
theorem dX1_copyFrom_40 : decode cX1_copyFrom 40 = .ok (.aload_n 0, 1) := by decide +kernel
theorem dX1_copyFrom_41 : decode cX1_copyFrom 41 = .ok (.getfield 18, 3) := by decide +kernel
theorem dX1_copyFrom_44 : decode cX1_copyFrom 44 = .ok (.iload_n 2, 1) := by decide +kernel
theorem dX1_copyFrom_45 : decode cX1_copyFrom 45 = .ok (.aload_n 1, 1) := by decide +kernel
theorem dX1_copyFrom_46 : decode cX1_copyFrom 46 = .ok (.getfield 18, 3) := by decide +kernel
theorem dX1_copyFrom_49 : decode cX1_copyFrom 49 = .ok (.iload_n 2, 1) := by decide +kernel
theorem dX1_copyFrom_50 : decode cX1_copyFrom 50 = .ok (.iaload, 1) := by decide +kernel
theorem dX1_copyFrom_51 : decode cX1_copyFrom 51 = .ok (.iastore, 1) := by decide +kernel
theorem dX1_copyFrom_52 : decode cX1_copyFrom 52 = .ok (.aload_n 0, 1) := by decide +kernel
theorem dX1_copyFrom_53 : decode cX1_copyFrom 53 = .ok (.getfield 21, 3) := by decide +kernel
theorem dX1_copyFrom_56 : decode cX1_copyFrom 56 = .ok (.iload_n 2, 1) := by decide +kernel
theorem dX1_copyFrom_57 : decode cX1_copyFrom 57 = .ok (.aload_n 1, 1) := by decide +kernel
theorem dX1_copyFrom_58 : decode cX1_copyFrom 58 = .ok (.getfield 21, 3) := by decide +kernel
theorem dX1_copyFrom_61 : decode cX1_copyFrom 61 = .ok (.iload_n 2, 1) := by decide +kernel
theorem dX1_copyFrom_62 : decode cX1_copyFrom 62 = .ok (.iaload, 1) := by decide +kernel
theorem dX1_copyFrom_63 : decode cX1_copyFrom 63 = .ok (.iastore, 1) := by decide +kernel
theorem dX1_copyFrom_64 : decode cX1_copyFrom 64 = .ok (.aload_n 0, 1) := by decide +kernel
theorem dX1_copyFrom_65 : decode cX1_copyFrom 65 = .ok (.getfield 24, 3) := by decide +kernel
theorem dX1_copyFrom_68 : decode cX1_copyFrom 68 = .ok (.iload_n 2, 1) := by decide +kernel
theorem dX1_copyFrom_69 : decode cX1_copyFrom 69 = .ok (.aload_n 1, 1) := by decide +kernel
theorem dX1_copyFrom_70 : decode cX1_copyFrom 70 = .ok (.getfield 24, 3) := by decide +kernel
theorem dX1_copyFrom_73 : decode cX1_copyFrom 73 = .ok (.iload_n 2, 1) := by decide +kernel
theorem dX1_copyFrom_74 : decode cX1_copyFrom 74 = .ok (.iaload, 1) := by decide +kernel
theorem dX1_copyFrom_75 : decode cX1_copyFrom 75 = .ok (.iastore, 1) := by decide +kernel
theorem dX1_copyFrom_76 : decode cX1_copyFrom 76 = .ok (.iinc 2 1, 3) := by decide +kernel
theorem dX1_copyFrom_79 : decode cX1_copyFrom 79 = .ok (.goto (-69), 3) := by decide +kernel
theorem dX1_copyFrom_82 : decode cX1_copyFrom 82 = .ok (.return_, 1) := by decide +kernel
theorem dX1_isFull_0 : decode cX1_isFull 0 = .ok (.aload_n 0, 1) := by decide +kernel
theorem dX1_isFull_1 : decode cX1_isFull 1 = .ok (.getfield 27, 3) := by decide +kernel
theorem dX1_isFull_4 : decode cX1_isFull 4 = .ok (.bipush 8, 2) := by decide +kernel
theorem dX1_isFull_6 : decode cX1_isFull 6 = .ok (.if_icmp .lt 7, 3) := by decide +kernel
theorem dX1_isFull_9 : decode cX1_isFull 9 = .ok (.iconst 1, 1) := by decide +kernel
theorem dX1_isFull_10 : decode cX1_isFull 10 = .ok (.goto 4, 3) := by decide +kernel
theorem dX1_isFull_13 : decode cX1_isFull 13 = .ok (.iconst 0, 1) := by decide +kernel
theorem dX1_isFull_14 : decode cX1_isFull 14 = .ok (.ireturn, 1) := by decide +kernel
theorem dX1_add_0 : decode cX1_add 0 = .ok (.aload_n 0, 1) := by decide +kernel
theorem dX1_add_1 : decode cX1_add 1 = .ok (.getfield 27, 3) := by decide +kernel
theorem dX1_add_4 : decode cX1_add 4 = .ok (.ifCond .lt 74, 3) := by decide +kernel
theorem dX1_add_7 : decode cX1_add 7 = .ok (.aload_n 0, 1) := by decide +kernel
theorem dX1_add_8 : decode cX1_add 8 = .ok (.getfield 27, 3) := by decide +kernel
theorem dX1_add_11 : decode cX1_add 11 = .ok (.bipush 8, 2) := by decide +kernel
theorem dX1_add_13 : decode cX1_add 13 = .ok (.if_icmp .ge 65, 3) := by decide +kernel
theorem dX1_add_16 : decode cX1_add 16 = .ok (.aload_n 0, 1) := by decide +kernel
theorem dX1_add_17 : decode cX1_add 17 = .ok (.getfield 9, 3) := by decide +kernel
theorem dX1_add_20 : decode cX1_add 20 = .ok (.aload_n 0, 1) := by decide +kernel
theorem dX1_add_21 : decode cX1_add 21 = .ok (.getfield 27, 3) := by decide +kernel
theorem dX1_add_24 : decode cX1_add 24 = .ok (.iload_n 1, 1) := by decide +kernel
theorem dX1_add_25 : decode cX1_add 25 = .ok (.iastore, 1) := by decide +kernel
theorem dX1_add_26 : decode cX1_add 26 = .ok (.aload_n 0, 1) := by decide +kernel
theorem dX1_add_27 : decode cX1_add 27 = .ok (.getfield 15, 3) := by decide +kernel
theorem dX1_add_30 : decode cX1_add 30 = .ok (.aload_n 0, 1) := by decide +kernel
theorem dX1_add_31 : decode cX1_add 31 = .ok (.getfield 27, 3) := by decide +kernel
theorem dX1_add_34 : decode cX1_add 34 = .ok (.iload_n 2, 1) := by decide +kernel
theorem dX1_add_35 : decode cX1_add 35 = .ok (.iastore, 1) := by decide +kernel
theorem dX1_add_36 : decode cX1_add 36 = .ok (.aload_n 0, 1) := by decide +kernel
theorem dX1_add_37 : decode cX1_add 37 = .ok (.getfield 18, 3) := by decide +kernel
theorem dX1_add_40 : decode cX1_add 40 = .ok (.aload_n 0, 1) := by decide +kernel
theorem dX1_add_41 : decode cX1_add 41 = .ok (.getfield 27, 3) := by decide +kernel
theorem dX1_add_44 : decode cX1_add 44 = .ok (.iload_n 3, 1) := by decide +kernel
theorem dX1_add_45 : decode cX1_add 45 = .ok (.iastore, 1) := by decide +kernel
theorem dX1_add_46 : decode cX1_add 46 = .ok (.aload_n 0, 1) := by decide +kernel
theorem dX1_add_47 : decode cX1_add 47 = .ok (.getfield 21, 3) := by decide +kernel
theorem dX1_add_50 : decode cX1_add 50 = .ok (.aload_n 0, 1) := by decide +kernel
theorem dX1_add_51 : decode cX1_add 51 = .ok (.getfield 27, 3) := by decide +kernel
theorem dX1_add_54 : decode cX1_add 54 = .ok (.iload 4, 2) := by decide +kernel
theorem dX1_add_56 : decode cX1_add 56 = .ok (.iastore, 1) := by decide +kernel
theorem dX1_add_57 : decode cX1_add 57 = .ok (.aload_n 0, 1) := by decide +kernel
theorem dX1_add_58 : decode cX1_add 58 = .ok (.getfield 24, 3) := by decide +kernel
theorem dX1_add_61 : decode cX1_add 61 = .ok (.aload_n 0, 1) := by decide +kernel
theorem dX1_add_62 : decode cX1_add 62 = .ok (.getfield 27, 3) := by decide +kernel
theorem dX1_add_65 : decode cX1_add 65 = .ok (.iload 5, 2) := by decide +kernel
theorem dX1_add_67 : decode cX1_add 67 = .ok (.iastore, 1) := by decide +kernel
theorem dX1_add_68 : decode cX1_add 68 = .ok (.aload_n 0, 1) := by decide +kernel
theorem dX1_add_69 : decode cX1_add 69 = .ok (.dup, 1) := by decide +kernel
theorem dX1_add_70 : decode cX1_add 70 = .ok (.getfield 27, 3) := by decide +kernel
theorem dX1_add_73 : decode cX1_add 73 = .ok (.iconst 1, 1) := by decide +kernel
theorem dX1_add_74 : decode cX1_add 74 = .ok (.iadd, 1) := by decide +kernel
theorem dX1_add_75 : decode cX1_add 75 = .ok (.putfield 27, 3) := by decide +kernel
theorem dX1_add_78 : decode cX1_add 78 = .ok (.return_, 1) := by decide +kernel
theorem dX1_tellOf_0 : decode cX1_tellOf 0 = .ok (.iload_n 1, 1) := by decide +kernel
theorem dX1_tellOf_1 : decode cX1_tellOf 1 = .ok (.ifCond .lt 9, 3) := by decide +kernel
theorem dX1_tellOf_4 : decode cX1_tellOf 4 = .ok (.iload_n 1, 1) := by decide +kernel
theorem dX1_tellOf_5 : decode cX1_tellOf 5 = .ok (.bipush 8, 2) := by decide +kernel
theorem dX1_tellOf_7 : decode cX1_tellOf 7 = .ok (.if_icmp .lt 6, 3) := by decide +kernel
theorem dX1_tellOf_10 : decode cX1_tellOf 10 = .ok (.bipush (-9), 2) := by decide +kernel
theorem dX1_tellOf_12 : decode cX1_tellOf 12 = .ok (.ireturn, 1) := by decide +kernel
theorem dX1_tellOf_13 : decode cX1_tellOf 13 = .ok (.iload_n 2, 1) := by decide +kernel
theorem dX1_tellOf_14 : decode cX1_tellOf 14 = .ok (.tableswitch 58 0 3 #[30, 37, 44, 51], 30) := by decide +kernel
theorem dX1_tellOf_44 : decode cX1_tellOf 44 = .ok (.aload_n 0, 1) := by decide +kernel
theorem dX1_tellOf_45 : decode cX1_tellOf 45 = .ok (.getfield 9, 3) := by decide +kernel
theorem dX1_tellOf_48 : decode cX1_tellOf 48 = .ok (.iload_n 1, 1) := by decide +kernel
theorem dX1_tellOf_49 : decode cX1_tellOf 49 = .ok (.iaload, 1) := by decide +kernel
theorem dX1_tellOf_50 : decode cX1_tellOf 50 = .ok (.ireturn, 1) := by decide +kernel
theorem dX1_tellOf_51 : decode cX1_tellOf 51 = .ok (.aload_n 0, 1) := by decide +kernel
theorem dX1_tellOf_52 : decode cX1_tellOf 52 = .ok (.getfield 15, 3) := by decide +kernel
theorem dX1_tellOf_55 : decode cX1_tellOf 55 = .ok (.iload_n 1, 1) := by decide +kernel
theorem dX1_tellOf_56 : decode cX1_tellOf 56 = .ok (.iaload, 1) := by decide +kernel
theorem dX1_tellOf_57 : decode cX1_tellOf 57 = .ok (.ireturn, 1) := by decide +kernel
theorem dX1_tellOf_58 : decode cX1_tellOf 58 = .ok (.aload_n 0, 1) := by decide +kernel
theorem dX1_tellOf_59 : decode cX1_tellOf 59 = .ok (.getfield 18, 3) := by decide +kernel
theorem dX1_tellOf_62 : decode cX1_tellOf 62 = .ok (.iload_n 1, 1) := by decide +kernel
theorem dX1_tellOf_63 : decode cX1_tellOf 63 = .ok (.iaload, 1) := by decide +kernel
theorem dX1_tellOf_64 : decode cX1_tellOf 64 = .ok (.ireturn, 1) := by decide +kernel
theorem dX1_tellOf_65 : decode cX1_tellOf 65 = .ok (.aload_n 0, 1) := by decide +kernel
theorem dX1_tellOf_66 : decode cX1_tellOf 66 = .ok (.getfield 21, 3) := by decide +kernel
theorem dX1_tellOf_69 : decode cX1_tellOf 69 = .ok (.iload_n 1, 1) := by decide +kernel
theorem dX1_tellOf_70 : decode cX1_tellOf 70 = .ok (.iaload, 1) := by decide +kernel
theorem dX1_tellOf_71 : decode cX1_tellOf 71 = .ok (.ireturn, 1) := by decide +kernel
theorem dX1_tellOf_72 : decode cX1_tellOf 72 = .ok (.aload_n 0, 1) := by decide +kernel
theorem dX1_tellOf_73 : decode cX1_tellOf 73 = .ok (.getfield 24, 3) := by decide +kernel
theorem dX1_tellOf_76 : decode cX1_tellOf 76 = .ok (.iload_n 1, 1) := by decide +kernel
theorem dX1_tellOf_77 : decode cX1_tellOf 77 = .ok (.iaload, 1) := by decide +kernel
theorem dX1_tellOf_78 : decode cX1_tellOf 78 = .ok (.ireturn, 1) := by decide +kernel
theorem dX1_fieldAt_0 : decode cX1_fieldAt 0 = .ok (.iconst 0, 1) := by decide +kernel
theorem dX1_fieldAt_1 : decode cX1_fieldAt 1 = .ok (.istore_n 3, 1) := by decide +kernel
theorem dX1_fieldAt_2 : decode cX1_fieldAt 2 = .ok (.iload_n 3, 1) := by decide +kernel
theorem dX1_fieldAt_3 : decode cX1_fieldAt 3 = .ok (.aload_n 0, 1) := by decide +kernel
theorem dX1_fieldAt_4 : decode cX1_fieldAt 4 = .ok (.getfield 27, 3) := by decide +kernel
theorem dX1_fieldAt_7 : decode cX1_fieldAt 7 = .ok (.if_icmp .ge 71, 3) := by decide +kernel
theorem dX1_fieldAt_10 : decode cX1_fieldAt 10 = .ok (.iload_n 3, 1) := by decide +kernel
theorem dX1_fieldAt_11 : decode cX1_fieldAt 11 = .ok (.bipush 8, 2) := by decide +kernel
theorem dX1_fieldAt_13 : decode cX1_fieldAt 13 = .ok (.if_icmp .ge 65, 3) := by decide +kernel
theorem dX1_fieldAt_16 : decode cX1_fieldAt 16 = .ok (.iload_n 1, 1) := by decide +kernel
theorem dX1_fieldAt_17 : decode cX1_fieldAt 17 = .ok (.aload_n 0, 1) := by decide +kernel
theorem dX1_fieldAt_18 : decode cX1_fieldAt 18 = .ok (.getfield 18, 3) := by decide +kernel
theorem dX1_fieldAt_21 : decode cX1_fieldAt 21 = .ok (.iload_n 3, 1) := by decide +kernel
theorem dX1_fieldAt_22 : decode cX1_fieldAt 22 = .ok (.iaload, 1) := by decide +kernel
theorem dX1_fieldAt_23 : decode cX1_fieldAt 23 = .ok (.if_icmp .lt 49, 3) := by decide +kernel
theorem dX1_fieldAt_26 : decode cX1_fieldAt 26 = .ok (.iload_n 1, 1) := by decide +kernel
theorem dX1_fieldAt_27 : decode cX1_fieldAt 27 = .ok (.aload_n 0, 1) := by decide +kernel
theorem dX1_fieldAt_28 : decode cX1_fieldAt 28 = .ok (.getfield 18, 3) := by decide +kernel
theorem dX1_fieldAt_31 : decode cX1_fieldAt 31 = .ok (.iload_n 3, 1) := by decide +kernel
theorem dX1_fieldAt_32 : decode cX1_fieldAt 32 = .ok (.iaload, 1) := by decide +kernel
theorem dX1_fieldAt_33 : decode cX1_fieldAt 33 = .ok (.aload_n 0, 1) := by decide +kernel
theorem dX1_fieldAt_34 : decode cX1_fieldAt 34 = .ok (.getfield 24, 3) := by decide +kernel
theorem dX1_fieldAt_37 : decode cX1_fieldAt 37 = .ok (.iload_n 3, 1) := by decide +kernel
theorem dX1_fieldAt_38 : decode cX1_fieldAt 38 = .ok (.iaload, 1) := by decide +kernel
theorem dX1_fieldAt_39 : decode cX1_fieldAt 39 = .ok (.iadd, 1) := by decide +kernel
theorem dX1_fieldAt_40 : decode cX1_fieldAt 40 = .ok (.if_icmp .ge 32, 3) := by decide +kernel
theorem dX1_fieldAt_43 : decode cX1_fieldAt 43 = .ok (.iload_n 2, 1) := by decide +kernel
theorem dX1_fieldAt_44 : decode cX1_fieldAt 44 = .ok (.aload_n 0, 1) := by decide +kernel
theorem dX1_fieldAt_45 : decode cX1_fieldAt 45 = .ok (.getfield 21, 3) := by decide +kernel
theorem dX1_fieldAt_48 : decode cX1_fieldAt 48 = .ok (.iload_n 3, 1) := by decide +kernel
theorem dX1_fieldAt_49 : decode cX1_fieldAt 49 = .ok (.iaload, 1) := by decide +kernel
theorem dX1_fieldAt_50 : decode cX1_fieldAt 50 = .ok (.if_icmp .lt 22, 3) := by decide +kernel
theorem dX1_fieldAt_53 : decode cX1_fieldAt 53 = .ok (.iload_n 2, 1) := by decide +kernel
theorem dX1_fieldAt_54 : decode cX1_fieldAt 54 = .ok (.aload_n 0, 1) := by decide +kernel
theorem dX1_fieldAt_55 : decode cX1_fieldAt 55 = .ok (.getfield 21, 3) := by decide +kernel
theorem dX1_fieldAt_58 : decode cX1_fieldAt 58 = .ok (.iload_n 3, 1) := by decide +kernel
theorem dX1_fieldAt_59 : decode cX1_fieldAt 59 = .ok (.iaload, 1) := by decide +kernel
theorem dX1_fieldAt_60 : decode cX1_fieldAt 60 = .ok (.aload_n 0, 1) := by decide +kernel
theorem dX1_fieldAt_61 : decode cX1_fieldAt 61 = .ok (.getfield 24, 3) := by decide +kernel
theorem dX1_fieldAt_64 : decode cX1_fieldAt 64 = .ok (.iload_n 3, 1) := by decide +kernel
theorem dX1_fieldAt_65 : decode cX1_fieldAt 65 = .ok (.iaload, 1) := by decide +kernel
theorem dX1_fieldAt_66 : decode cX1_fieldAt 66 = .ok (.iadd, 1) := by decide +kernel
theorem dX1_fieldAt_67 : decode cX1_fieldAt 67 = .ok (.if_icmp .ge 5, 3) := by decide +kernel
theorem dX1_fieldAt_70 : decode cX1_fieldAt 70 = .ok (.iload_n 3, 1) := by decide +kernel
theorem dX1_fieldAt_71 : decode cX1_fieldAt 71 = .ok (.ireturn, 1) := by decide +kernel
theorem dX1_fieldAt_72 : decode cX1_fieldAt 72 = .ok (.iinc 3 1, 3) := by decide +kernel
theorem dX1_fieldAt_75 : decode cX1_fieldAt 75 = .ok (.goto (-73), 3) := by decide +kernel
theorem dX1_fieldAt_78 : decode cX1_fieldAt 78 = .ok (.bipush (-9), 2) := by decide +kernel
theorem dX1_fieldAt_80 : decode cX1_fieldAt 80 = .ok (.ireturn, 1) := by decide +kernel
theorem dX1_costOf_0 : decode cX1_costOf 0 = .ok (.iload_n 1, 1) := by decide +kernel
theorem dX1_costOf_1 : decode cX1_costOf 1 = .ok (.ifCond .lt 17, 3) := by decide +kernel
theorem dX1_costOf_4 : decode cX1_costOf 4 = .ok (.iload_n 1, 1) := by decide +kernel
theorem dX1_costOf_5 : decode cX1_costOf 5 = .ok (.aload_n 0, 1) := by decide +kernel
theorem dX1_costOf_6 : decode cX1_costOf 6 = .ok (.getfield 27, 3) := by decide +kernel
theorem dX1_costOf_9 : decode cX1_costOf 9 = .ok (.if_icmp .ge 9, 3) := by decide +kernel
theorem dX1_costOf_12 : decode cX1_costOf 12 = .ok (.iload_n 1, 1) := by decide +kernel
theorem dX1_costOf_13 : decode cX1_costOf 13 = .ok (.bipush 8, 2) := by decide +kernel
theorem dX1_costOf_15 : decode cX1_costOf 15 = .ok (.if_icmp .lt 6, 3) := by decide +kernel
theorem dX1_costOf_18 : decode cX1_costOf 18 = .ok (.bipush 40, 2) := by decide +kernel
theorem dX1_costOf_20 : decode cX1_costOf 20 = .ok (.ireturn, 1) := by decide +kernel
theorem dX1_costOf_21 : decode cX1_costOf 21 = .ok (.iload_n 2, 1) := by decide +kernel
theorem dX1_costOf_22 : decode cX1_costOf 22 = .ok (.iconst 3, 1) := by decide +kernel
theorem dX1_costOf_23 : decode cX1_costOf 23 = .ok (.if_icmp .le 9, 3) := by decide +kernel
theorem dX1_costOf_26 : decode cX1_costOf 26 = .ok (.iconst 2, 1) := by decide +kernel
theorem dX1_costOf_27 : decode cX1_costOf 27 = .ok (.iload_n 2, 1) := by decide +kernel
theorem dX1_costOf_28 : decode cX1_costOf 28 = .ok (.imul, 1) := by decide +kernel
theorem dX1_costOf_29 : decode cX1_costOf 29 = .ok (.goto 4, 3) := by decide +kernel
theorem dX1_costOf_32 : decode cX1_costOf 32 = .ok (.iload_n 2, 1) := by decide +kernel
theorem dX1_costOf_33 : decode cX1_costOf 33 = .ok (.istore 4, 2) := by decide +kernel
theorem dX1_costOf_35 : decode cX1_costOf 35 = .ok (.aload_n 0, 1) := by decide +kernel
theorem dX1_costOf_36 : decode cX1_costOf 36 = .ok (.getfield 15, 3) := by decide +kernel
theorem dX1_costOf_39 : decode cX1_costOf 39 = .ok (.iload_n 1, 1) := by decide +kernel
theorem dX1_costOf_40 : decode cX1_costOf 40 = .ok (.iaload, 1) := by decide +kernel
theorem dX1_costOf_41 : decode cX1_costOf 41 = .ok (.istore 5, 2) := by decide +kernel
theorem dX1_costOf_43 : decode cX1_costOf 43 = .ok (.iload 4, 2) := by decide +kernel
theorem dX1_costOf_45 : decode cX1_costOf 45 = .ok (.iconst 3, 1) := by decide +kernel
theorem dX1_costOf_46 : decode cX1_costOf 46 = .ok (.iload 5, 2) := by decide +kernel
theorem dX1_costOf_48 : decode cX1_costOf 48 = .ok (.imul, 1) := by decide +kernel
theorem dX1_costOf_49 : decode cX1_costOf 49 = .ok (.iadd, 1) := by decide +kernel
theorem dX1_costOf_50 : decode cX1_costOf 50 = .ok (.istore 6, 2) := by decide +kernel
theorem dX1_costOf_52 : decode cX1_costOf 52 = .ok (.iload 4, 2) := by decide +kernel
theorem dX1_costOf_54 : decode cX1_costOf 54 = .ok (.iload 5, 2) := by decide +kernel
theorem dX1_costOf_56 : decode cX1_costOf 56 = .ok (.iadd, 1) := by decide +kernel
theorem dX1_costOf_57 : decode cX1_costOf 57 = .ok (.iconst 5, 1) := by decide +kernel
theorem dX1_costOf_58 : decode cX1_costOf 58 = .ok (.iadd, 1) := by decide +kernel
theorem dX1_costOf_59 : decode cX1_costOf 59 = .ok (.istore 7, 2) := by decide +kernel
theorem dX1_costOf_61 : decode cX1_costOf 61 = .ok (.aload_n 0, 1) := by decide +kernel
theorem dX1_costOf_62 : decode cX1_costOf 62 = .ok (.getfield 9, 3) := by decide +kernel
theorem dX1_costOf_65 : decode cX1_costOf 65 = .ok (.iload_n 1, 1) := by decide +kernel
theorem dX1_costOf_66 : decode cX1_costOf 66 = .ok (.iaload, 1) := by decide +kernel
theorem dX1_costOf_67 : decode cX1_costOf 67 = .ok (.tableswitch 74 1 5 #[33, 36, 39, 45, 69], 33) := by decide +kernel
theorem dX1_costOf_100 : decode cX1_costOf 100 = .ok (.iload 7, 2) := by decide +kernel
theorem dX1_costOf_102 : decode cX1_costOf 102 = .ok (.ireturn, 1) := by decide +kernel
theorem dX1_costOf_103 : decode cX1_costOf 103 = .ok (.iload 6, 2) := by decide +kernel
theorem dX1_costOf_105 : decode cX1_costOf 105 = .ok (.ireturn, 1) := by decide +kernel
theorem dX1_costOf_106 : decode cX1_costOf 106 = .ok (.iload 4, 2) := by decide +kernel
theorem dX1_costOf_108 : decode cX1_costOf 108 = .ok (.iload 5, 2) := by decide +kernel
theorem dX1_costOf_110 : decode cX1_costOf 110 = .ok (.iadd, 1) := by decide +kernel
theorem dX1_costOf_111 : decode cX1_costOf 111 = .ok (.ireturn, 1) := by decide +kernel
theorem dX1_costOf_112 : decode cX1_costOf 112 = .ok (.iload_n 3, 1) := by decide +kernel
theorem dX1_costOf_113 : decode cX1_costOf 113 = .ok (.bipush 10, 2) := by decide +kernel
theorem dX1_costOf_115 : decode cX1_costOf 115 = .ok (.aload_n 0, 1) := by decide +kernel
theorem dX1_costOf_116 : decode cX1_costOf 116 = .ok (.getfield 24, 3) := by decide +kernel
theorem dX1_costOf_119 : decode cX1_costOf 119 = .ok (.iload_n 1, 1) := by decide +kernel
theorem dX1_costOf_120 : decode cX1_costOf 120 = .ok (.iaload, 1) := by decide +kernel
theorem dX1_costOf_121 : decode cX1_costOf 121 = .ok (.imul, 1) := by decide +kernel
theorem dX1_costOf_122 : decode cX1_costOf 122 = .ok (.if_icmp .le 11, 3) := by decide +kernel
theorem dX1_costOf_125 : decode cX1_costOf 125 = .ok (.iload 6, 2) := by decide +kernel
theorem dX1_costOf_127 : decode cX1_costOf 127 = .ok (.bipush 20, 2) := by decide +kernel
theorem dX1_costOf_129 : decode cX1_costOf 129 = .ok (.iadd, 1) := by decide +kernel
theorem dX1_costOf_130 : decode cX1_costOf 130 = .ok (.goto 5, 3) := by decide +kernel
theorem dX1_costOf_133 : decode cX1_costOf 133 = .ok (.iload 6, 2) := by decide +kernel
theorem dX1_costOf_135 : decode cX1_costOf 135 = .ok (.ireturn, 1) := by decide +kernel
theorem dX1_costOf_136 : decode cX1_costOf 136 = .ok (.iload 7, 2) := by decide +kernel
theorem dX1_costOf_138 : decode cX1_costOf 138 = .ok (.iconst 2, 1) := by decide +kernel
theorem dX1_costOf_139 : decode cX1_costOf 139 = .ok (.idiv, 1) := by decide +kernel
theorem dX1_costOf_140 : decode cX1_costOf 140 = .ok (.ireturn, 1) := by decide +kernel
theorem dX1_costOf_141 : decode cX1_costOf 141 = .ok (.iload 4, 2) := by decide +kernel
theorem dX1_costOf_143 : decode cX1_costOf 143 = .ok (.ireturn, 1) := by decide +kernel
theorem dX2_init_0 : decode cX2_init 0 = .ok (.aload_n 0, 1) := by decide +kernel
theorem dX2_init_1 : decode cX2_init 1 = .ok (.invokespecial 3, 3) := by decide +kernel
theorem dX2_init_4 : decode cX2_init 4 = .ok (.aload_n 0, 1) := by decide +kernel
theorem dX2_init_5 : decode cX2_init 5 = .ok (.bipush 100, 2) := by decide +kernel
theorem dX2_init_7 : decode cX2_init 7 = .ok (.putfield 9, 3) := by decide +kernel
theorem dX2_init_10 : decode cX2_init 10 = .ok (.aload_n 0, 1) := by decide +kernel
theorem dX2_init_11 : decode cX2_init 11 = .ok (.bipush 20, 2) := by decide +kernel
theorem dX2_init_13 : decode cX2_init 13 = .ok (.putfield 15, 3) := by decide +kernel
theorem dX2_init_16 : decode cX2_init 16 = .ok (.aload_n 0, 1) := by decide +kernel
theorem dX2_init_17 : decode cX2_init 17 = .ok (.bipush 30, 2) := by decide +kernel
theorem dX2_init_19 : decode cX2_init 19 = .ok (.putfield 18, 3) := by decide +kernel
theorem dX2_init_22 : decode cX2_init 22 = .ok (.aload_n 0, 1) := by decide +kernel
theorem dX2_init_23 : decode cX2_init 23 = .ok (.iconst 4, 1) := by decide +kernel
theorem dX2_init_24 : decode cX2_init 24 = .ok (.putfield 21, 3) := by decide +kernel
theorem dX2_init_27 : decode cX2_init 27 = .ok (.aload_n 0, 1) := by decide +kernel
theorem dX2_init_28 : decode cX2_init 28 = .ok (.iconst 2, 1) := by decide +kernel
theorem dX2_init_29 : decode cX2_init 29 = .ok (.putfield 24, 3) := by decide +kernel
theorem dX2_init_32 : decode cX2_init 32 = .ok (.return_, 1) := by decide +kernel
theorem dX2_copyFrom_0 : decode cX2_copyFrom 0 = .ok (.aload_n 0, 1) := by decide +kernel
theorem dX2_copyFrom_1 : decode cX2_copyFrom 1 = .ok (.aload_n 1, 1) := by decide +kernel
theorem dX2_copyFrom_2 : decode cX2_copyFrom 2 = .ok (.getfield 27, 3) := by decide +kernel
theorem dX2_copyFrom_5 : decode cX2_copyFrom 5 = .ok (.putfield 27, 3) := by decide +kernel
theorem dX2_copyFrom_8 : decode cX2_copyFrom 8 = .ok (.aload_n 0, 1) := by decide +kernel
theorem dX2_copyFrom_9 : decode cX2_copyFrom 9 = .ok (.aload_n 1, 1) := by decide +kernel
theorem dX2_copyFrom_10 : decode cX2_copyFrom 10 = .ok (.getfield 9, 3) := by decide +kernel
theorem dX2_copyFrom_13 : decode cX2_copyFrom 13 = .ok (.putfield 9, 3) := by decide +kernel
theorem dX2_copyFrom_16 : decode cX2_copyFrom 16 = .ok (.aload_n 0, 1) := by decide +kernel
theorem dX2_copyFrom_17 : decode cX2_copyFrom 17 = .ok (.aload_n 1, 1) := by decide +kernel
theorem dX2_copyFrom_18 : decode cX2_copyFrom 18 = .ok (.getfield 30, 3) := by decide +kernel
theorem dX2_copyFrom_21 : decode cX2_copyFrom 21 = .ok (.putfield 30, 3) := by decide +kernel
theorem dX2_copyFrom_24 : decode cX2_copyFrom 24 = .ok (.aload_n 0, 1) := by decide +kernel
theorem dX2_copyFrom_25 : decode cX2_copyFrom 25 = .ok (.aload_n 1, 1) := by decide +kernel
theorem dX2_copyFrom_26 : decode cX2_copyFrom 26 = .ok (.getfield 15, 3) := by decide +kernel
theorem dX2_copyFrom_29 : decode cX2_copyFrom 29 = .ok (.putfield 15, 3) := by decide +kernel
theorem dX2_copyFrom_32 : decode cX2_copyFrom 32 = .ok (.aload_n 0, 1) := by decide +kernel
theorem dX2_copyFrom_33 : decode cX2_copyFrom 33 = .ok (.aload_n 1, 1) := by decide +kernel
theorem dX2_copyFrom_34 : decode cX2_copyFrom 34 = .ok (.getfield 18, 3) := by decide +kernel
theorem dX2_copyFrom_37 : decode cX2_copyFrom 37 = .ok (.putfield 18, 3) := by decide +kernel
theorem dX2_copyFrom_40 : decode cX2_copyFrom 40 = .ok (.aload_n 0, 1) := by decide +kernel
theorem dX2_copyFrom_41 : decode cX2_copyFrom 41 = .ok (.aload_n 1, 1) := by decide +kernel
theorem dX2_copyFrom_42 : decode cX2_copyFrom 42 = .ok (.getfield 21, 3) := by decide +kernel
theorem dX2_copyFrom_45 : decode cX2_copyFrom 45 = .ok (.putfield 21, 3) := by decide +kernel
theorem dX2_copyFrom_48 : decode cX2_copyFrom 48 = .ok (.aload_n 0, 1) := by decide +kernel
theorem dX2_copyFrom_49 : decode cX2_copyFrom 49 = .ok (.aload_n 1, 1) := by decide +kernel
theorem dX2_copyFrom_50 : decode cX2_copyFrom 50 = .ok (.getfield 24, 3) := by decide +kernel
theorem dX2_copyFrom_53 : decode cX2_copyFrom 53 = .ok (.putfield 24, 3) := by decide +kernel
theorem dX2_copyFrom_56 : decode cX2_copyFrom 56 = .ok (.aload_n 0, 1) := by decide +kernel
theorem dX2_copyFrom_57 : decode cX2_copyFrom 57 = .ok (.aload_n 1, 1) := by decide +kernel
theorem dX2_copyFrom_58 : decode cX2_copyFrom 58 = .ok (.getfield 33, 3) := by decide +kernel
theorem dX2_copyFrom_61 : decode cX2_copyFrom 61 = .ok (.putfield 33, 3) := by decide +kernel
theorem dX2_copyFrom_64 : decode cX2_copyFrom 64 = .ok (.aload_n 0, 1) := by decide +kernel
theorem dX2_copyFrom_65 : decode cX2_copyFrom 65 = .ok (.aload_n 1, 1) := by decide +kernel
theorem dX2_copyFrom_66 : decode cX2_copyFrom 66 = .ok (.getfield 36, 3) := by decide +kernel
theorem dX2_copyFrom_69 : decode cX2_copyFrom 69 = .ok (.putfield 36, 3) := by decide +kernel
theorem dX2_copyFrom_72 : decode cX2_copyFrom 72 = .ok (.aload_n 0, 1) := by decide +kernel
theorem dX2_copyFrom_73 : decode cX2_copyFrom 73 = .ok (.aload_n 1, 1) := by decide +kernel
theorem dX2_copyFrom_74 : decode cX2_copyFrom 74 = .ok (.getfield 39, 3) := by decide +kernel
theorem dX2_copyFrom_77 : decode cX2_copyFrom 77 = .ok (.putfield 39, 3) := by decide +kernel
theorem dX2_copyFrom_80 : decode cX2_copyFrom 80 = .ok (.return_, 1) := by decide +kernel
theorem dX2_leastOf_0 : decode cX2_leastOf 0 = .ok (.iload_n 0, 1) := by decide +kernel
theorem dX2_leastOf_1 : decode cX2_leastOf 1 = .ok (.iconst 3, 1) := by decide +kernel
theorem dX2_leastOf_2 : decode cX2_leastOf 2 = .ok (.if_icmp .ne 7, 3) := by decide +kernel
theorem dX2_leastOf_5 : decode cX2_leastOf 5 = .ok (.iconst 1, 1) := by decide +kernel
theorem dX2_leastOf_6 : decode cX2_leastOf 6 = .ok (.goto 4, 3) := by decide +kernel
theorem dX2_leastOf_9 : decode cX2_leastOf 9 = .ok (.iconst 0, 1) := by decide +kernel
theorem dX2_leastOf_10 : decode cX2_leastOf 10 = .ok (.ireturn, 1) := by decide +kernel
theorem dX2_mostOf_0 : decode cX2_mostOf 0 = .ok (.iload_n 0, 1) := by decide +kernel
theorem dX2_mostOf_1 : decode cX2_mostOf 1 = .ok (.tableswitch 43 0 3 #[31, 34, 37, 40], 31) := by decide +kernel
theorem dX2_mostOf_32 : decode cX2_mostOf 32 = .ok (.bipush 39, 2) := by decide +kernel
theorem dX2_mostOf_34 : decode cX2_mostOf 34 = .ok (.ireturn, 1) := by decide +kernel
theorem dX2_mostOf_35 : decode cX2_mostOf 35 = .ok (.bipush 60, 2) := by decide +kernel
theorem dX2_mostOf_37 : decode cX2_mostOf 37 = .ok (.ireturn, 1) := by decide +kernel
theorem dX2_mostOf_38 : decode cX2_mostOf 38 = .ok (.bipush 60, 2) := by decide +kernel
theorem dX2_mostOf_40 : decode cX2_mostOf 40 = .ok (.ireturn, 1) := by decide +kernel
theorem dX2_mostOf_41 : decode cX2_mostOf 41 = .ok (.bipush 6, 2) := by decide +kernel
theorem dX2_mostOf_43 : decode cX2_mostOf 43 = .ok (.ireturn, 1) := by decide +kernel
theorem dX2_mostOf_44 : decode cX2_mostOf 44 = .ok (.iconst 5, 1) := by decide +kernel
theorem dX2_mostOf_45 : decode cX2_mostOf 45 = .ok (.ireturn, 1) := by decide +kernel
theorem dX2_valueOf_0 : decode cX2_valueOf 0 = .ok (.iload_n 1, 1) := by decide +kernel
theorem dX2_valueOf_1 : decode cX2_valueOf 1 = .ok (.tableswitch 51 0 3 #[31, 36, 41, 46], 31) := by decide +kernel
theorem dX2_valueOf_32 : decode cX2_valueOf 32 = .ok (.aload_n 0, 1) := by decide +kernel
theorem dX2_valueOf_33 : decode cX2_valueOf 33 = .ok (.getfield 27, 3) := by decide +kernel
theorem dX2_valueOf_36 : decode cX2_valueOf 36 = .ok (.ireturn, 1) := by decide +kernel
theorem dX2_valueOf_37 : decode cX2_valueOf 37 = .ok (.aload_n 0, 1) := by decide +kernel
theorem dX2_valueOf_38 : decode cX2_valueOf 38 = .ok (.getfield 15, 3) := by decide +kernel
theorem dX2_valueOf_41 : decode cX2_valueOf 41 = .ok (.ireturn, 1) := by decide +kernel
theorem dX2_valueOf_42 : decode cX2_valueOf 42 = .ok (.aload_n 0, 1) := by decide +kernel
theorem dX2_valueOf_43 : decode cX2_valueOf 43 = .ok (.getfield 18, 3) := by decide +kernel
theorem dX2_valueOf_46 : decode cX2_valueOf 46 = .ok (.ireturn, 1) := by decide +kernel
theorem dX2_valueOf_47 : decode cX2_valueOf 47 = .ok (.aload_n 0, 1) := by decide +kernel
theorem dX2_valueOf_48 : decode cX2_valueOf 48 = .ok (.getfield 21, 3) := by decide +kernel
theorem dX2_valueOf_51 : decode cX2_valueOf 51 = .ok (.ireturn, 1) := by decide +kernel
theorem dX2_valueOf_52 : decode cX2_valueOf 52 = .ok (.aload_n 0, 1) := by decide +kernel
theorem dX2_valueOf_53 : decode cX2_valueOf 53 = .ok (.getfield 24, 3) := by decide +kernel
theorem dX2_valueOf_56 : decode cX2_valueOf 56 = .ok (.ireturn, 1) := by decide +kernel
theorem dX2_change_0 : decode cX2_change 0 = .ok (.iload_n 1, 1) := by decide +kernel
theorem dX2_change_1 : decode cX2_change 1 = .ok (.tableswitch 63 0 3 #[31, 39, 47, 55], 31) := by decide +kernel
theorem dX2_change_32 : decode cX2_change 32 = .ok (.aload_n 0, 1) := by decide +kernel
theorem dX2_change_33 : decode cX2_change 33 = .ok (.iload_n 2, 1) := by decide +kernel
theorem dX2_change_34 : decode cX2_change 34 = .ok (.putfield 27, 3) := by decide +kernel
theorem dX2_change_37 : decode cX2_change 37 = .ok (.goto 32, 3) := by decide +kernel
theorem dX2_change_40 : decode cX2_change 40 = .ok (.aload_n 0, 1) := by decide +kernel
theorem dX2_change_41 : decode cX2_change 41 = .ok (.iload_n 2, 1) := by decide +kernel
theorem dX2_change_42 : decode cX2_change 42 = .ok (.putfield 15, 3) := by decide +kernel
theorem dX2_change_45 : decode cX2_change 45 = .ok (.goto 24, 3) := by decide +kernel
theorem dX2_change_48 : decode cX2_change 48 = .ok (.aload_n 0, 1) := by decide +kernel
theorem dX2_change_49 : decode cX2_change 49 = .ok (.iload_n 2, 1) := by decide +kernel
theorem dX2_change_50 : decode cX2_change 50 = .ok (.putfield 18, 3) := by decide +kernel
theorem dX2_change_53 : decode cX2_change 53 = .ok (.goto 16, 3) := by decide +kernel
theorem dX2_change_56 : decode cX2_change 56 = .ok (.aload_n 0, 1) := by decide +kernel
theorem dX2_change_57 : decode cX2_change 57 = .ok (.iload_n 2, 1) := by decide +kernel
theorem dX2_change_58 : decode cX2_change 58 = .ok (.putfield 21, 3) := by decide +kernel
theorem dX2_change_61 : decode cX2_change 61 = .ok (.goto 8, 3) := by decide +kernel
theorem dX2_change_64 : decode cX2_change 64 = .ok (.aload_n 0, 1) := by decide +kernel
theorem dX2_change_65 : decode cX2_change 65 = .ok (.iload_n 2, 1) := by decide +kernel
theorem dX2_change_66 : decode cX2_change 66 = .ok (.invokevirtual 42, 3) := by decide +kernel
theorem dX2_change_69 : decode cX2_change 69 = .ok (.return_, 1) := by decide +kernel
theorem dX2_changeLag_0 : decode cX2_changeLag 0 = .ok (.iload_n 1, 1) := by decide +kernel
theorem dX2_changeLag_1 : decode cX2_changeLag 1 = .ok (.aload_n 0, 1) := by decide +kernel
theorem dX2_changeLag_2 : decode cX2_changeLag 2 = .ok (.getfield 24, 3) := by decide +kernel
theorem dX2_changeLag_5 : decode cX2_changeLag 5 = .ok (.if_icmp .eq 7, 3) := by decide +kernel
theorem dX2_changeLag_8 : decode cX2_changeLag 8 = .ok (.aload_n 0, 1) := by decide +kernel
theorem dX2_changeLag_9 : decode cX2_changeLag 9 = .ok (.invokevirtual 46, 3) := by decide +kernel
theorem dX2_changeLag_12 : decode cX2_changeLag 12 = .ok (.aload_n 0, 1) := by decide +kernel
theorem dX2_changeLag_13 : decode cX2_changeLag 13 = .ok (.iload_n 1, 1) := by decide +kernel
theorem dX2_changeLag_14 : decode cX2_changeLag 14 = .ok (.putfield 24, 3) := by decide +kernel
theorem dX2_changeLag_17 : decode cX2_changeLag 17 = .ok (.return_, 1) := by decide +kernel
theorem dX2_loseWork_0 : decode cX2_loseWork 0 = .ok (.aload_n 0, 1) := by decide +kernel
theorem dX2_loseWork_1 : decode cX2_loseWork 1 = .ok (.iconst 0, 1) := by decide +kernel
theorem dX2_loseWork_2 : decode cX2_loseWork 2 = .ok (.putfield 39, 3) := by decide +kernel
theorem dX2_loseWork_5 : decode cX2_loseWork 5 = .ok (.return_, 1) := by decide +kernel
theorem dX2_balance_0 : decode cX2_balance 0 = .ok (.bipush 12, 2) := by decide +kernel
theorem dX2_balance_2 : decode cX2_balance 2 = .ok (.iconst 2, 1) := by decide +kernel
theorem dX2_balance_3 : decode cX2_balance 3 = .ok (.aload_n 0, 1) := by decide +kernel
theorem dX2_balance_4 : decode cX2_balance 4 = .ok (.getfield 21, 3) := by decide +kernel
theorem dX2_balance_7 : decode cX2_balance 7 = .ok (.imul, 1) := by decide +kernel
theorem dX2_balance_8 : decode cX2_balance 8 = .ok (.iadd, 1) := by decide +kernel
theorem dX2_balance_9 : decode cX2_balance 9 = .ok (.ireturn, 1) := by decide +kernel
theorem dX2_climb_0 : decode cX2_climb 0 = .ok (.aload_n 0, 1) := by decide +kernel
theorem dX2_climb_1 : decode cX2_climb 1 = .ok (.getfield 15, 3) := by decide +kernel
theorem dX2_climb_4 : decode cX2_climb 4 = .ok (.aload_n 0, 1) := by decide +kernel
theorem dX2_climb_5 : decode cX2_climb 5 = .ok (.invokevirtual 49, 3) := by decide +kernel
theorem dX2_climb_8 : decode cX2_climb 8 = .ok (.isub, 1) := by decide +kernel
theorem dX2_climb_9 : decode cX2_climb 9 = .ok (.iconst 4, 1) := by decide +kernel
theorem dX2_climb_10 : decode cX2_climb 10 = .ok (.idiv, 1) := by decide +kernel
theorem dX2_climb_11 : decode cX2_climb 11 = .ok (.ireturn, 1) := by decide +kernel
theorem dX2_peopleWhoCanLeave_0 : decode cX2_peopleWhoCanLeave 0 = .ok (.iconst 0, 1) := by decide +kernel
theorem dX2_peopleWhoCanLeave_1 : decode cX2_peopleWhoCanLeave 1 = .ok (.istore_n 1, 1) := by decide +kernel
theorem dX2_peopleWhoCanLeave_2 : decode cX2_peopleWhoCanLeave 2 = .ok (.iload_n 1, 1) := by decide +kernel
theorem dX2_peopleWhoCanLeave_3 : decode cX2_peopleWhoCanLeave 3 = .ok (.aload_n 0, 1) := by decide +kernel
theorem dX2_peopleWhoCanLeave_4 : decode cX2_peopleWhoCanLeave 4 = .ok (.getfield 21, 3) := by decide +kernel
theorem dX2_peopleWhoCanLeave_7 : decode cX2_peopleWhoCanLeave 7 = .ok (.if_icmp .ge 29, 3) := by decide +kernel
theorem dX2_peopleWhoCanLeave_10 : decode cX2_peopleWhoCanLeave 10 = .ok (.aload_n 0, 1) := by decide +kernel
theorem dX2_peopleWhoCanLeave_11 : decode cX2_peopleWhoCanLeave 11 = .ok (.getfield 15, 3) := by decide +kernel
theorem dX2_peopleWhoCanLeave_14 : decode cX2_peopleWhoCanLeave 14 = .ok (.aload_n 0, 1) := by decide +kernel
theorem dX2_peopleWhoCanLeave_15 : decode cX2_peopleWhoCanLeave 15 = .ok (.invokevirtual 49, 3) := by decide +kernel
theorem dX2_peopleWhoCanLeave_18 : decode cX2_peopleWhoCanLeave 18 = .ok (.isub, 1) := by decide +kernel
theorem dX2_peopleWhoCanLeave_19 : decode cX2_peopleWhoCanLeave 19 = .ok (.iconst 2, 1) := by decide +kernel
theorem dX2_peopleWhoCanLeave_20 : decode cX2_peopleWhoCanLeave 20 = .ok (.iload_n 1, 1) := by decide +kernel
theorem dX2_peopleWhoCanLeave_21 : decode cX2_peopleWhoCanLeave 21 = .ok (.iconst 1, 1) := by decide +kernel
theorem dX2_peopleWhoCanLeave_22 : decode cX2_peopleWhoCanLeave 22 = .ok (.iadd, 1) := by decide +kernel
theorem dX2_peopleWhoCanLeave_23 : decode cX2_peopleWhoCanLeave 23 = .ok (.imul, 1) := by decide +kernel
theorem dX2_peopleWhoCanLeave_24 : decode cX2_peopleWhoCanLeave 24 = .ok (.iadd, 1) := by decide +kernel
theorem dX2_peopleWhoCanLeave_25 : decode cX2_peopleWhoCanLeave 25 = .ok (.iconst 4, 1) := by decide +kernel
theorem dX2_peopleWhoCanLeave_26 : decode cX2_peopleWhoCanLeave 26 = .ok (.idiv, 1) := by decide +kernel
theorem dX2_peopleWhoCanLeave_27 : decode cX2_peopleWhoCanLeave 27 = .ok (.ifCond .gt 9, 3) := by decide +kernel
theorem dX2_peopleWhoCanLeave_30 : decode cX2_peopleWhoCanLeave 30 = .ok (.iinc 1 1, 3) := by decide +kernel
theorem dX2_peopleWhoCanLeave_33 : decode cX2_peopleWhoCanLeave 33 = .ok (.goto (-31), 3) := by decide +kernel
theorem dX2_peopleWhoCanLeave_36 : decode cX2_peopleWhoCanLeave 36 = .ok (.iload_n 1, 1) := by decide +kernel
theorem dX2_peopleWhoCanLeave_37 : decode cX2_peopleWhoCanLeave 37 = .ok (.ireturn, 1) := by decide +kernel
theorem dX2_fly_0 : decode cX2_fly 0 = .ok (.iload_n 1, 1) := by decide +kernel
theorem dX2_fly_1 : decode cX2_fly 1 = .ok (.iconst 1, 1) := by decide +kernel
theorem dX2_fly_2 : decode cX2_fly 2 = .ok (.if_icmp .ne 13, 3) := by decide +kernel
theorem dX2_fly_5 : decode cX2_fly 5 = .ok (.aload_n 0, 1) := by decide +kernel
theorem dX2_fly_6 : decode cX2_fly 6 = .ok (.dup, 1) := by decide +kernel
theorem dX2_fly_7 : decode cX2_fly 7 = .ok (.getfield 18, 3) := by decide +kernel
theorem dX2_fly_10 : decode cX2_fly 10 = .ok (.iconst 1, 1) := by decide +kernel
theorem dX2_fly_11 : decode cX2_fly 11 = .ok (.isub, 1) := by decide +kernel
theorem dX2_fly_12 : decode cX2_fly 12 = .ok (.putfield 18, 3) := by decide +kernel
theorem dX2_fly_15 : decode cX2_fly 15 = .ok (.aload_n 0, 1) := by decide +kernel
theorem dX2_fly_16 : decode cX2_fly 16 = .ok (.dup, 1) := by decide +kernel
theorem dX2_fly_17 : decode cX2_fly 17 = .ok (.getfield 39, 3) := by decide +kernel
theorem dX2_fly_20 : decode cX2_fly 20 = .ok (.iload_n 1, 1) := by decide +kernel
theorem dX2_fly_21 : decode cX2_fly 21 = .ok (.iconst 2, 1) := by decide +kernel
theorem dX2_fly_22 : decode cX2_fly 22 = .ok (.aload_n 0, 1) := by decide +kernel
theorem dX2_fly_23 : decode cX2_fly 23 = .ok (.getfield 24, 3) := by decide +kernel
theorem dX2_fly_26 : decode cX2_fly 26 = .ok (.imul, 1) := by decide +kernel
theorem dX2_fly_27 : decode cX2_fly 27 = .ok (.ishl, 1) := by decide +kernel
theorem dX2_fly_28 : decode cX2_fly 28 = .ok (.ior, 1) := by decide +kernel
theorem dX2_fly_29 : decode cX2_fly 29 = .ok (.putfield 39, 3) := by decide +kernel
theorem dX2_fly_32 : decode cX2_fly 32 = .ok (.aload_n 0, 1) := by decide +kernel
theorem dX2_fly_33 : decode cX2_fly 33 = .ok (.getfield 39, 3) := by decide +kernel
theorem dX2_fly_36 : decode cX2_fly 36 = .ok (.iconst 3, 1) := by decide +kernel
theorem dX2_fly_37 : decode cX2_fly 37 = .ok (.iand, 1) := by decide +kernel
theorem dX2_fly_38 : decode cX2_fly 38 = .ok (.invokestatic 53, 3) := by decide +kernel
theorem dX2_fly_41 : decode cX2_fly 41 = .ok (.istore_n 3, 1) := by decide +kernel
theorem dX2_fly_42 : decode cX2_fly 42 = .ok (.aload_n 0, 1) := by decide +kernel
theorem dX2_fly_43 : decode cX2_fly 43 = .ok (.dup, 1) := by decide +kernel
theorem dX2_fly_44 : decode cX2_fly 44 = .ok (.getfield 39, 3) := by decide +kernel
theorem dX2_fly_47 : decode cX2_fly 47 = .ok (.iconst 2, 1) := by decide +kernel
theorem dX2_fly_48 : decode cX2_fly 48 = .ok (.ishr, 1) := by decide +kernel
theorem dX2_fly_49 : decode cX2_fly 49 = .ok (.putfield 39, 3) := by decide +kernel
theorem dX2_fly_52 : decode cX2_fly 52 = .ok (.aload_n 0, 1) := by decide +kernel
theorem dX2_fly_53 : decode cX2_fly 53 = .ok (.iconst 0, 1) := by decide +kernel
theorem dX2_fly_54 : decode cX2_fly 54 = .ok (.aload_n 0, 1) := by decide +kernel
theorem dX2_fly_55 : decode cX2_fly 55 = .ok (.getfield 15, 3) := by decide +kernel
theorem dX2_fly_58 : decode cX2_fly 58 = .ok (.iconst 1, 1) := by decide +kernel
theorem dX2_fly_59 : decode cX2_fly 59 = .ok (.isub, 1) := by decide +kernel
theorem dX2_fly_60 : decode cX2_fly 60 = .ok (.iload_n 3, 1) := by decide +kernel
theorem dX2_fly_61 : decode cX2_fly 61 = .ok (.iadd, 1) := by decide +kernel
theorem dX2_fly_62 : decode cX2_fly 62 = .ok (.bipush 60, 2) := by decide +kernel
theorem dX2_fly_64 : decode cX2_fly 64 = .ok (.invokestatic 57, 3) := by decide +kernel
theorem dX2_fly_67 : decode cX2_fly 67 = .ok (.putfield 15, 3) := by decide +kernel
theorem dX2_fly_70 : decode cX2_fly 70 = .ok (.aload_n 0, 1) := by decide +kernel
theorem dX2_fly_71 : decode cX2_fly 71 = .ok (.getfield 27, 3) := by decide +kernel
theorem dX2_fly_74 : decode cX2_fly 74 = .ok (.istore 4, 2) := by decide +kernel
theorem dX2_fly_76 : decode cX2_fly 76 = .ok (.aload_n 0, 1) := by decide +kernel
theorem dX2_fly_77 : decode cX2_fly 77 = .ok (.invokevirtual 61, 3) := by decide +kernel
theorem dX2_fly_80 : decode cX2_fly 80 = .ok (.istore 5, 2) := by decide +kernel
theorem dX2_fly_82 : decode cX2_fly 82 = .ok (.aload_n 0, 1) := by decide +kernel
theorem dX2_fly_83 : decode cX2_fly 83 = .ok (.iconst 0, 1) := by decide +kernel
theorem dX2_fly_84 : decode cX2_fly 84 = .ok (.aload_n 0, 1) := by decide +kernel
theorem dX2_fly_85 : decode cX2_fly 85 = .ok (.getfield 27, 3) := by decide +kernel
theorem dX2_fly_88 : decode cX2_fly 88 = .ok (.iload 5, 2) := by decide +kernel
theorem dX2_fly_90 : decode cX2_fly 90 = .ok (.iadd, 1) := by decide +kernel
theorem dX2_fly_91 : decode cX2_fly 91 = .ok (.bipush 39, 2) := by decide +kernel
theorem dX2_fly_93 : decode cX2_fly 93 = .ok (.invokestatic 57, 3) := by decide +kernel
theorem dX2_fly_96 : decode cX2_fly 96 = .ok (.putfield 27, 3) := by decide +kernel
theorem dX2_fly_99 : decode cX2_fly 99 = .ok (.aload_n 0, 1) := by decide +kernel
theorem dX2_fly_100 : decode cX2_fly 100 = .ok (.iload 4, 2) := by decide +kernel
theorem dX2_fly_102 : decode cX2_fly 102 = .ok (.ifCond .le 16, 3) := by decide +kernel
theorem dX2_fly_105 : decode cX2_fly 105 = .ok (.aload_n 0, 1) := by decide +kernel
theorem dX2_fly_106 : decode cX2_fly 106 = .ok (.getfield 27, 3) := by decide +kernel
theorem dX2_fly_109 : decode cX2_fly 109 = .ok (.ifCond .ne 9, 3) := by decide +kernel
theorem dX2_fly_112 : decode cX2_fly 112 = .ok (.iload 5, 2) := by decide +kernel
theorem dX2_fly_114 : decode cX2_fly 114 = .ok (.ineg, 1) := by decide +kernel
theorem dX2_fly_115 : decode cX2_fly 115 = .ok (.goto 4, 3) := by decide +kernel
theorem dX2_fly_118 : decode cX2_fly 118 = .ok (.iconst 0, 1) := by decide +kernel
theorem dX2_fly_119 : decode cX2_fly 119 = .ok (.putfield 36, 3) := by decide +kernel
theorem dX2_fly_122 : decode cX2_fly 122 = .ok (.aload_n 0, 1) := by decide +kernel
theorem dX2_fly_123 : decode cX2_fly 123 = .ok (.getfield 27, 3) := by decide +kernel
theorem dX2_fly_126 : decode cX2_fly 126 = .ok (.ifCond .le 55, 3) := by decide +kernel
theorem dX2_fly_129 : decode cX2_fly 129 = .ok (.aload_n 0, 1) := by decide +kernel
theorem dX2_fly_130 : decode cX2_fly 130 = .ok (.getfield 27, 3) := by decide +kernel
theorem dX2_fly_133 : decode cX2_fly 133 = .ok (.iconst 5, 1) := by decide +kernel
theorem dX2_fly_134 : decode cX2_fly 134 = .ok (.idiv, 1) := by decide +kernel
theorem dX2_fly_135 : decode cX2_fly 135 = .ok (.istore 6, 2) := by decide +kernel
theorem dX2_fly_137 : decode cX2_fly 137 = .ok (.aload_n 0, 1) := by decide +kernel
theorem dX2_fly_138 : decode cX2_fly 138 = .ok (.iconst 0, 1) := by decide +kernel
theorem dX2_fly_139 : decode cX2_fly 139 = .ok (.aload_n 0, 1) := by decide +kernel
theorem dX2_fly_140 : decode cX2_fly 140 = .ok (.getfield 9, 3) := by decide +kernel
theorem dX2_fly_143 : decode cX2_fly 143 = .ok (.aload_n 2, 1) := by decide +kernel
theorem dX2_fly_144 : decode cX2_fly 144 = .ok (.iload 6, 2) := by decide +kernel
theorem dX2_fly_146 : decode cX2_fly 146 = .ok (.invokevirtual 64, 3) := by decide +kernel
theorem dX2_fly_149 : decode cX2_fly 149 = .ok (.iadd, 1) := by decide +kernel
theorem dX2_fly_150 : decode cX2_fly 150 = .ok (.sipush 999, 3) := by decide +kernel
theorem dX2_fly_153 : decode cX2_fly 153 = .ok (.invokestatic 57, 3) := by decide +kernel
theorem dX2_fly_156 : decode cX2_fly 156 = .ok (.putfield 9, 3) := by decide +kernel
theorem dX2_fly_159 : decode cX2_fly 159 = .ok (.aload_n 0, 1) := by decide +kernel
theorem dX2_fly_160 : decode cX2_fly 160 = .ok (.iconst 0, 1) := by decide +kernel
theorem dX2_fly_161 : decode cX2_fly 161 = .ok (.aload_n 0, 1) := by decide +kernel
theorem dX2_fly_162 : decode cX2_fly 162 = .ok (.getfield 30, 3) := by decide +kernel
theorem dX2_fly_165 : decode cX2_fly 165 = .ok (.aload_n 2, 1) := by decide +kernel
theorem dX2_fly_166 : decode cX2_fly 166 = .ok (.iload 6, 2) := by decide +kernel
theorem dX2_fly_168 : decode cX2_fly 168 = .ok (.invokevirtual 69, 3) := by decide +kernel
theorem dX2_fly_171 : decode cX2_fly 171 = .ok (.iadd, 1) := by decide +kernel
theorem dX2_fly_172 : decode cX2_fly 172 = .ok (.sipush 999, 3) := by decide +kernel
theorem dX2_fly_175 : decode cX2_fly 175 = .ok (.invokestatic 57, 3) := by decide +kernel
theorem dX2_fly_178 : decode cX2_fly 178 = .ok (.putfield 30, 3) := by decide +kernel
theorem dX2_fly_181 : decode cX2_fly 181 = .ok (.aload_n 0, 1) := by decide +kernel
theorem dX2_fly_182 : decode cX2_fly 182 = .ok (.dup, 1) := by decide +kernel
theorem dX2_fly_183 : decode cX2_fly 183 = .ok (.getfield 33, 3) := by decide +kernel
theorem dX2_fly_186 : decode cX2_fly 186 = .ok (.iconst 1, 1) := by decide +kernel
theorem dX2_fly_187 : decode cX2_fly 187 = .ok (.iadd, 1) := by decide +kernel
theorem dX2_fly_188 : decode cX2_fly 188 = .ok (.putfield 33, 3) := by decide +kernel
theorem dX2_fly_191 : decode cX2_fly 191 = .ok (.return_, 1) := by decide +kernel
theorem dX2_workOf_0 : decode cX2_workOf 0 = .ok (.iload_n 0, 1) := by decide +kernel
theorem dX2_workOf_1 : decode cX2_workOf 1 = .ok (.iconst 1, 1) := by decide +kernel
theorem dX2_workOf_2 : decode cX2_workOf 2 = .ok (.if_icmp .ne 7, 3) := by decide +kernel
theorem dX2_workOf_5 : decode cX2_workOf 5 = .ok (.iconst 4, 1) := by decide +kernel
theorem dX2_workOf_6 : decode cX2_workOf 6 = .ok (.goto 14, 3) := by decide +kernel
theorem dX2_workOf_9 : decode cX2_workOf 9 = .ok (.iload_n 0, 1) := by decide +kernel
theorem dX2_workOf_10 : decode cX2_workOf 10 = .ok (.iconst 2, 1) := by decide +kernel
theorem dX2_workOf_11 : decode cX2_workOf 11 = .ok (.if_icmp .ne 8, 3) := by decide +kernel
theorem dX2_workOf_14 : decode cX2_workOf 14 = .ok (.bipush (-5), 2) := by decide +kernel
theorem dX2_workOf_16 : decode cX2_workOf 16 = .ok (.goto 4, 3) := by decide +kernel
theorem dX2_workOf_19 : decode cX2_workOf 19 = .ok (.iconst 0, 1) := by decide +kernel
theorem dX2_workOf_20 : decode cX2_workOf 20 = .ok (.ireturn, 1) := by decide +kernel
theorem dX2_able_0 : decode cX2_able 0 = .ok (.iload_n 1, 1) := by decide +kernel
theorem dX2_able_1 : decode cX2_able 1 = .ok (.iconst 1, 1) := by decide +kernel
theorem dX2_able_2 : decode cX2_able 2 = .ok (.if_icmp .ne 14, 3) := by decide +kernel
theorem dX2_able_5 : decode cX2_able 5 = .ok (.aload_n 0, 1) := by decide +kernel
theorem dX2_able_6 : decode cX2_able 6 = .ok (.getfield 18, 3) := by decide +kernel
theorem dX2_able_9 : decode cX2_able 9 = .ok (.ifCond .gt 7, 3) := by decide +kernel
theorem dX2_able_12 : decode cX2_able 12 = .ok (.iconst 0, 1) := by decide +kernel
theorem dX2_able_13 : decode cX2_able 13 = .ok (.goto 4, 3) := by decide +kernel
theorem dX2_able_16 : decode cX2_able 16 = .ok (.iload_n 1, 1) := by decide +kernel
theorem dX2_able_17 : decode cX2_able 17 = .ok (.ireturn, 1) := by decide +kernel
theorem dX2_holdAct_0 : decode cX2_holdAct 0 = .ok (.iconst 0, 1) := by decide +kernel
theorem dX2_holdAct_1 : decode cX2_holdAct 1 = .ok (.istore_n 1, 1) := by decide +kernel
theorem dX2_holdAct_2 : decode cX2_holdAct 2 = .ok (.iconst 0, 1) := by decide +kernel
theorem dX2_holdAct_3 : decode cX2_holdAct 3 = .ok (.istore_n 2, 1) := by decide +kernel
theorem dX2_holdAct_4 : decode cX2_holdAct 4 = .ok (.iload_n 2, 1) := by decide +kernel
theorem dX2_holdAct_5 : decode cX2_holdAct 5 = .ok (.aload_n 0, 1) := by decide +kernel
theorem dX2_holdAct_6 : decode cX2_holdAct 6 = .ok (.getfield 24, 3) := by decide +kernel
theorem dX2_holdAct_9 : decode cX2_holdAct 9 = .ok (.if_icmp .ge 25, 3) := by decide +kernel
theorem dX2_holdAct_12 : decode cX2_holdAct 12 = .ok (.iload_n 1, 1) := by decide +kernel
theorem dX2_holdAct_13 : decode cX2_holdAct 13 = .ok (.aload_n 0, 1) := by decide +kernel
theorem dX2_holdAct_14 : decode cX2_holdAct 14 = .ok (.getfield 39, 3) := by decide +kernel
theorem dX2_holdAct_17 : decode cX2_holdAct 17 = .ok (.iconst 2, 1) := by decide +kernel
theorem dX2_holdAct_18 : decode cX2_holdAct 18 = .ok (.iload_n 2, 1) := by decide +kernel
theorem dX2_holdAct_19 : decode cX2_holdAct 19 = .ok (.imul, 1) := by decide +kernel
theorem dX2_holdAct_20 : decode cX2_holdAct 20 = .ok (.ishr, 1) := by decide +kernel
theorem dX2_holdAct_21 : decode cX2_holdAct 21 = .ok (.iconst 3, 1) := by decide +kernel
theorem dX2_holdAct_22 : decode cX2_holdAct 22 = .ok (.iand, 1) := by decide +kernel
theorem dX2_holdAct_23 : decode cX2_holdAct 23 = .ok (.invokestatic 53, 3) := by decide +kernel
theorem dX2_holdAct_26 : decode cX2_holdAct 26 = .ok (.iadd, 1) := by decide +kernel
theorem dX2_holdAct_27 : decode cX2_holdAct 27 = .ok (.istore_n 1, 1) := by decide +kernel
theorem dX2_holdAct_28 : decode cX2_holdAct 28 = .ok (.iinc 2 1, 3) := by decide +kernel
theorem dX2_holdAct_31 : decode cX2_holdAct 31 = .ok (.goto (-27), 3) := by decide +kernel
theorem dX2_holdAct_34 : decode cX2_holdAct 34 = .ok (.aload_n 0, 1) := by decide +kernel
theorem dX2_holdAct_35 : decode cX2_holdAct 35 = .ok (.aload_n 0, 1) := by decide +kernel
theorem dX2_holdAct_36 : decode cX2_holdAct 36 = .ok (.getfield 15, 3) := by decide +kernel
theorem dX2_holdAct_39 : decode cX2_holdAct 39 = .ok (.iload_n 1, 1) := by decide +kernel
theorem dX2_holdAct_40 : decode cX2_holdAct 40 = .ok (.iadd, 1) := by decide +kernel
theorem dX2_holdAct_41 : decode cX2_holdAct 41 = .ok (.aload_n 0, 1) := by decide +kernel
theorem dX2_holdAct_42 : decode cX2_holdAct 42 = .ok (.invokevirtual 49, 3) := by decide +kernel
theorem dX2_holdAct_45 : decode cX2_holdAct 45 = .ok (.if_icmp .ge 7, 3) := by decide +kernel
theorem dX2_holdAct_48 : decode cX2_holdAct 48 = .ok (.iconst 1, 1) := by decide +kernel
theorem dX2_holdAct_49 : decode cX2_holdAct 49 = .ok (.goto 4, 3) := by decide +kernel
theorem dX2_holdAct_52 : decode cX2_holdAct 52 = .ok (.iconst 0, 1) := by decide +kernel
theorem dX2_holdAct_53 : decode cX2_holdAct 53 = .ok (.invokevirtual 72, 3) := by decide +kernel
theorem dX2_holdAct_56 : decode cX2_holdAct 56 = .ok (.ireturn, 1) := by decide +kernel
theorem dX2_feltAct_0 : decode cX2_feltAct 0 = .ok (.aload_n 0, 1) := by decide +kernel
theorem dX2_feltAct_1 : decode cX2_feltAct 1 = .ok (.invokevirtual 61, 3) := by decide +kernel
theorem dX2_feltAct_4 : decode cX2_feltAct 4 = .ok (.istore_n 1, 1) := by decide +kernel
theorem dX2_feltAct_5 : decode cX2_feltAct 5 = .ok (.iload_n 1, 1) := by decide +kernel
theorem dX2_feltAct_6 : decode cX2_feltAct 6 = .ok (.ifCond .ge 11, 3) := by decide +kernel
theorem dX2_feltAct_9 : decode cX2_feltAct 9 = .ok (.aload_n 0, 1) := by decide +kernel
theorem dX2_feltAct_10 : decode cX2_feltAct 10 = .ok (.iconst 1, 1) := by decide +kernel
theorem dX2_feltAct_11 : decode cX2_feltAct 11 = .ok (.invokevirtual 72, 3) := by decide +kernel
theorem dX2_feltAct_14 : decode cX2_feltAct 14 = .ok (.goto 12, 3) := by decide +kernel
theorem dX2_feltAct_17 : decode cX2_feltAct 17 = .ok (.iload_n 1, 1) := by decide +kernel
theorem dX2_feltAct_18 : decode cX2_feltAct 18 = .ok (.ifCond .le 7, 3) := by decide +kernel
theorem dX2_feltAct_21 : decode cX2_feltAct 21 = .ok (.iconst 2, 1) := by decide +kernel
theorem dX2_feltAct_22 : decode cX2_feltAct 22 = .ok (.goto 4, 3) := by decide +kernel
theorem dX2_feltAct_25 : decode cX2_feltAct 25 = .ok (.iconst 0, 1) := by decide +kernel
theorem dX2_feltAct_26 : decode cX2_feltAct 26 = .ok (.ireturn, 1) := by decide +kernel
theorem dX3_init_0 : decode cX3_init 0 = .ok (.aload_n 0, 1) := by decide +kernel
theorem dX3_init_1 : decode cX3_init 1 = .ok (.invokespecial 3, 3) := by decide +kernel
theorem dX3_init_4 : decode cX3_init 4 = .ok (.aload_n 0, 1) := by decide +kernel
theorem dX3_init_5 : decode cX3_init 5 = .ok (.new 9, 3) := by decide +kernel
theorem dX3_init_8 : decode cX3_init 8 = .ok (.dup, 1) := by decide +kernel
theorem dX3_init_9 : decode cX3_init 9 = .ok (.invokespecial 11, 3) := by decide +kernel
theorem dX3_init_12 : decode cX3_init 12 = .ok (.putfield 12, 3) := by decide +kernel
theorem dX3_init_15 : decode cX3_init 15 = .ok (.aload_n 0, 1) := by decide +kernel
theorem dX3_init_16 : decode cX3_init 16 = .ok (.new 18, 3) := by decide +kernel
theorem dX3_init_19 : decode cX3_init 19 = .ok (.dup, 1) := by decide +kernel
theorem dX3_init_20 : decode cX3_init 20 = .ok (.invokespecial 20, 3) := by decide +kernel
theorem dX3_init_23 : decode cX3_init 23 = .ok (.putfield 21, 3) := by decide +kernel
theorem dX3_init_26 : decode cX3_init 26 = .ok (.aload_n 0, 1) := by decide +kernel
theorem dX3_init_27 : decode cX3_init 27 = .ok (.new 25, 3) := by decide +kernel
theorem dX3_init_30 : decode cX3_init 30 = .ok (.dup, 1) := by decide +kernel
theorem dX3_init_31 : decode cX3_init 31 = .ok (.invokespecial 27, 3) := by decide +kernel
theorem dX3_init_34 : decode cX3_init 34 = .ok (.putfield 28, 3) := by decide +kernel
theorem dX3_init_37 : decode cX3_init 37 = .ok (.aload_n 0, 1) := by decide +kernel
theorem dX3_init_38 : decode cX3_init 38 = .ok (.new 25, 3) := by decide +kernel
theorem dX3_init_41 : decode cX3_init 41 = .ok (.dup, 1) := by decide +kernel
theorem dX3_init_42 : decode cX3_init 42 = .ok (.invokespecial 27, 3) := by decide +kernel
theorem dX3_init_45 : decode cX3_init 45 = .ok (.putfield 32, 3) := by decide +kernel
theorem dX3_init_48 : decode cX3_init 48 = .ok (.aload_n 0, 1) := by decide +kernel
theorem dX3_init_49 : decode cX3_init 49 = .ok (.new 25, 3) := by decide +kernel
theorem dX3_init_52 : decode cX3_init 52 = .ok (.dup, 1) := by decide +kernel
theorem dX3_init_53 : decode cX3_init 53 = .ok (.invokespecial 27, 3) := by decide +kernel
theorem dX3_init_56 : decode cX3_init 56 = .ok (.putfield 35, 3) := by decide +kernel
theorem dX3_init_59 : decode cX3_init 59 = .ok (.aload_n 0, 1) := by decide +kernel
theorem dX3_init_60 : decode cX3_init 60 = .ok (.bipush 6, 2) := by decide +kernel
theorem dX3_init_62 : decode cX3_init 62 = .ok (.newarray .int, 2) := by decide +kernel
theorem dX3_init_64 : decode cX3_init 64 = .ok (.putfield 38, 3) := by decide +kernel
theorem dX3_init_67 : decode cX3_init 67 = .ok (.return_, 1) := by decide +kernel
theorem dX3_begin_0 : decode cX3_begin 0 = .ok (.aload_n 0, 1) := by decide +kernel
theorem dX3_begin_1 : decode cX3_begin 1 = .ok (.getfield 12, 3) := by decide +kernel
theorem dX3_begin_4 : decode cX3_begin 4 = .ok (.aload_n 1, 1) := by decide +kernel
theorem dX3_begin_5 : decode cX3_begin 5 = .ok (.getfield 42, 3) := by decide +kernel
theorem dX3_begin_8 : decode cX3_begin 8 = .ok (.invokevirtual 45, 3) := by decide +kernel
theorem dX3_begin_11 : decode cX3_begin 11 = .ok (.aload_n 0, 1) := by decide +kernel
theorem dX3_begin_12 : decode cX3_begin 12 = .ok (.getfield 21, 3) := by decide +kernel
theorem dX3_begin_15 : decode cX3_begin 15 = .ok (.aload_n 1, 1) := by decide +kernel
theorem dX3_begin_16 : decode cX3_begin 16 = .ok (.getfield 49, 3) := by decide +kernel
theorem dX3_begin_19 : decode cX3_begin 19 = .ok (.invokevirtual 50, 3) := by decide +kernel
theorem dX3_begin_22 : decode cX3_begin 22 = .ok (.aload_n 0, 1) := by decide +kernel
theorem dX3_begin_23 : decode cX3_begin 23 = .ok (.getfield 28, 3) := by decide +kernel
theorem dX3_begin_26 : decode cX3_begin 26 = .ok (.aload_n 1, 1) := by decide +kernel
theorem dX3_begin_27 : decode cX3_begin 27 = .ok (.getfield 53, 3) := by decide +kernel
theorem dX3_begin_30 : decode cX3_begin 30 = .ok (.invokevirtual 56, 3) := by decide +kernel
theorem dX3_begin_33 : decode cX3_begin 33 = .ok (.aload_n 0, 1) := by decide +kernel
theorem dX3_begin_34 : decode cX3_begin 34 = .ok (.invokevirtual 59, 3) := by decide +kernel
theorem dX3_begin_37 : decode cX3_begin 37 = .ok (.return_, 1) := by decide +kernel
theorem dX3_rewind_0 : decode cX3_rewind 0 = .ok (.aload_n 0, 1) := by decide +kernel
theorem dX3_rewind_1 : decode cX3_rewind 1 = .ok (.getfield 28, 3) := by decide +kernel
theorem dX3_rewind_4 : decode cX3_rewind 4 = .ok (.iconst 0, 1) := by decide +kernel
theorem dX3_rewind_5 : decode cX3_rewind 5 = .ok (.putfield 62, 3) := by decide +kernel
theorem dX3_rewind_8 : decode cX3_rewind 8 = .ok (.aload_n 0, 1) := by decide +kernel
theorem dX3_rewind_9 : decode cX3_rewind 9 = .ok (.getfield 32, 3) := by decide +kernel
theorem dX3_rewind_12 : decode cX3_rewind 12 = .ok (.aload_n 0, 1) := by decide +kernel
theorem dX3_rewind_13 : decode cX3_rewind 13 = .ok (.getfield 28, 3) := by decide +kernel
theorem dX3_rewind_16 : decode cX3_rewind 16 = .ok (.invokevirtual 56, 3) := by decide +kernel
theorem dX3_rewind_19 : decode cX3_rewind 19 = .ok (.aload_n 0, 1) := by decide +kernel
theorem dX3_rewind_20 : decode cX3_rewind 20 = .ok (.iconst 0, 1) := by decide +kernel
theorem dX3_rewind_21 : decode cX3_rewind 21 = .ok (.putfield 66, 3) := by decide +kernel
theorem dX3_rewind_24 : decode cX3_rewind 24 = .ok (.return_, 1) := by decide +kernel
theorem dX3_takePeople_0 : decode cX3_takePeople 0 = .ok (.aload_n 0, 1) := by decide +kernel
theorem dX3_takePeople_1 : decode cX3_takePeople 1 = .ok (.getfield 28, 3) := by decide +kernel
theorem dX3_takePeople_4 : decode cX3_takePeople 4 = .ok (.iload_n 1, 1) := by decide +kernel
theorem dX3_takePeople_5 : decode cX3_takePeople 5 = .ok (.putfield 69, 3) := by decide +kernel
theorem dX3_takePeople_8 : decode cX3_takePeople 8 = .ok (.aload_n 0, 1) := by decide +kernel
theorem dX3_takePeople_9 : decode cX3_takePeople 9 = .ok (.invokevirtual 59, 3) := by decide +kernel
theorem dX3_takePeople_12 : decode cX3_takePeople 12 = .ok (.return_, 1) := by decide +kernel
theorem dX3_takeGas_0 : decode cX3_takeGas 0 = .ok (.aload_n 0, 1) := by decide +kernel
theorem dX3_takeGas_1 : decode cX3_takeGas 1 = .ok (.getfield 28, 3) := by decide +kernel
theorem dX3_takeGas_4 : decode cX3_takeGas 4 = .ok (.iload_n 1, 1) := by decide +kernel
theorem dX3_takeGas_5 : decode cX3_takeGas 5 = .ok (.putfield 72, 3) := by decide +kernel
theorem dX3_takeGas_8 : decode cX3_takeGas 8 = .ok (.aload_n 0, 1) := by decide +kernel
theorem dX3_takeGas_9 : decode cX3_takeGas 9 = .ok (.invokevirtual 59, 3) := by decide +kernel
theorem dX3_takeGas_12 : decode cX3_takeGas 12 = .ok (.return_, 1) := by decide +kernel
theorem dX3_takeLag_0 : decode cX3_takeLag 0 = .ok (.aload_n 0, 1) := by decide +kernel
theorem dX3_takeLag_1 : decode cX3_takeLag 1 = .ok (.getfield 28, 3) := by decide +kernel
theorem dX3_takeLag_4 : decode cX3_takeLag 4 = .ok (.iload_n 1, 1) := by decide +kernel
theorem dX3_takeLag_5 : decode cX3_takeLag 5 = .ok (.invokevirtual 75, 3) := by decide +kernel
theorem dX3_takeLag_8 : decode cX3_takeLag 8 = .ok (.aload_n 0, 1) := by decide +kernel
theorem dX3_takeLag_9 : decode cX3_takeLag 9 = .ok (.invokevirtual 59, 3) := by decide +kernel
theorem dX3_takeLag_12 : decode cX3_takeLag 12 = .ok (.return_, 1) := by decide +kernel
theorem dX3_takeSide_0 : decode cX3_takeSide 0 = .ok (.aload_n 0, 1) := by decide +kernel
theorem dX3_takeSide_1 : decode cX3_takeSide 1 = .ok (.getfield 28, 3) := by decide +kernel
theorem dX3_takeSide_4 : decode cX3_takeSide 4 = .ok (.getfield 79, 3) := by decide +kernel
theorem dX3_takeSide_7 : decode cX3_takeSide 7 = .ok (.iconst 5, 1) := by decide +kernel
theorem dX3_takeSide_8 : decode cX3_takeSide 8 = .ok (.idiv, 1) := by decide +kernel
theorem dX3_takeSide_9 : decode cX3_takeSide 9 = .ok (.istore_n 2, 1) := by decide +kernel
theorem dX3_takeSide_10 : decode cX3_takeSide 10 = .ok (.aload_n 0, 1) := by decide +kernel
theorem dX3_takeSide_11 : decode cX3_takeSide 11 = .ok (.getfield 12, 3) := by decide +kernel
theorem dX3_takeSide_14 : decode cX3_takeSide 14 = .ok (.iload_n 2, 1) := by decide +kernel
theorem dX3_takeSide_15 : decode cX3_takeSide 15 = .ok (.iload_n 1, 1) := by decide +kernel
theorem dX3_takeSide_16 : decode cX3_takeSide 16 = .ok (.aload_n 0, 1) := by decide +kernel
theorem dX3_takeSide_17 : decode cX3_takeSide 17 = .ok (.getfield 12, 3) := by decide +kernel
theorem dX3_takeSide_20 : decode cX3_takeSide 20 = .ok (.iload_n 2, 1) := by decide +kernel
theorem dX3_takeSide_21 : decode cX3_takeSide 21 = .ok (.invokevirtual 82, 3) := by decide +kernel
theorem dX3_takeSide_24 : decode cX3_takeSide 24 = .ok (.invokevirtual 86, 3) := by decide +kernel
theorem dX3_takeSide_27 : decode cX3_takeSide 27 = .ok (.aload_n 0, 1) := by decide +kernel
theorem dX3_takeSide_28 : decode cX3_takeSide 28 = .ok (.invokevirtual 59, 3) := by decide +kernel
theorem dX3_takeSide_31 : decode cX3_takeSide 31 = .ok (.return_, 1) := by decide +kernel
theorem dX3_holdFirst_0 : decode cX3_holdFirst 0 = .ok (.iconst 0, 1) := by decide +kernel
theorem dX3_holdFirst_1 : decode cX3_holdFirst 1 = .ok (.istore_n 2, 1) := by decide +kernel
theorem dX3_holdFirst_2 : decode cX3_holdFirst 2 = .ok (.iload_n 2, 1) := by decide +kernel
theorem dX3_holdFirst_3 : decode cX3_holdFirst 3 = .ok (.iload_n 1, 1) := by decide +kernel
theorem dX3_holdFirst_4 : decode cX3_holdFirst 4 = .ok (.if_icmp .ge 27, 3) := by decide +kernel
theorem dX3_holdFirst_7 : decode cX3_holdFirst 7 = .ok (.aload_n 0, 1) := by decide +kernel
theorem dX3_holdFirst_8 : decode cX3_holdFirst 8 = .ok (.getfield 28, 3) := by decide +kernel
theorem dX3_holdFirst_11 : decode cX3_holdFirst 11 = .ok (.aload_n 0, 1) := by decide +kernel
theorem dX3_holdFirst_12 : decode cX3_holdFirst 12 = .ok (.getfield 28, 3) := by decide +kernel
theorem dX3_holdFirst_15 : decode cX3_holdFirst 15 = .ok (.invokevirtual 90, 3) := by decide +kernel
theorem dX3_holdFirst_18 : decode cX3_holdFirst 18 = .ok (.aload_n 0, 1) := by decide +kernel
theorem dX3_holdFirst_19 : decode cX3_holdFirst 19 = .ok (.getfield 12, 3) := by decide +kernel
theorem dX3_holdFirst_22 : decode cX3_holdFirst 22 = .ok (.invokevirtual 94, 3) := by decide +kernel
theorem dX3_holdFirst_25 : decode cX3_holdFirst 25 = .ok (.iinc 2 1, 3) := by decide +kernel
theorem dX3_holdFirst_28 : decode cX3_holdFirst 28 = .ok (.goto (-26), 3) := by decide +kernel
theorem dX3_holdFirst_31 : decode cX3_holdFirst 31 = .ok (.aload_n 0, 1) := by decide +kernel
theorem dX3_holdFirst_32 : decode cX3_holdFirst 32 = .ok (.invokevirtual 59, 3) := by decide +kernel
theorem dX3_holdFirst_35 : decode cX3_holdFirst 35 = .ok (.return_, 1) := by decide +kernel
theorem dX3_follow_0 : decode cX3_follow 0 = .ok (.aload_n 0, 1) := by decide +kernel
theorem dX3_follow_1 : decode cX3_follow 1 = .ok (.iload_n 1, 1) := by decide +kernel
theorem dX3_follow_2 : decode cX3_follow 2 = .ok (.invokevirtual 98, 3) := by decide +kernel
theorem dX3_follow_5 : decode cX3_follow 5 = .ok (.aload_n 0, 1) := by decide +kernel
theorem dX3_follow_6 : decode cX3_follow 6 = .ok (.getfield 35, 3) := by decide +kernel
theorem dX3_follow_9 : decode cX3_follow 9 = .ok (.aload_n 0, 1) := by decide +kernel
theorem dX3_follow_10 : decode cX3_follow 10 = .ok (.getfield 32, 3) := by decide +kernel
theorem dX3_follow_13 : decode cX3_follow 13 = .ok (.invokevirtual 56, 3) := by decide +kernel
theorem dX3_follow_16 : decode cX3_follow 16 = .ok (.iconst 0, 1) := by decide +kernel
theorem dX3_follow_17 : decode cX3_follow 17 = .ok (.istore_n 3, 1) := by decide +kernel
theorem dX3_follow_18 : decode cX3_follow 18 = .ok (.iload_n 3, 1) := by decide +kernel
theorem dX3_follow_19 : decode cX3_follow 19 = .ok (.iload_n 2, 1) := by decide +kernel
theorem dX3_follow_20 : decode cX3_follow 20 = .ok (.if_icmp .ge 31, 3) := by decide +kernel
theorem dX3_follow_23 : decode cX3_follow 23 = .ok (.aload_n 0, 1) := by decide +kernel
theorem dX3_follow_24 : decode cX3_follow 24 = .ok (.getfield 35, 3) := by decide +kernel
theorem dX3_follow_27 : decode cX3_follow 27 = .ok (.getfield 79, 3) := by decide +kernel
theorem dX3_follow_30 : decode cX3_follow 30 = .ok (.ifCond .le 21, 3) := by decide +kernel
theorem dX3_follow_33 : decode cX3_follow 33 = .ok (.aload_n 0, 1) := by decide +kernel
theorem dX3_follow_34 : decode cX3_follow 34 = .ok (.getfield 35, 3) := by decide +kernel
theorem dX3_follow_37 : decode cX3_follow 37 = .ok (.iconst 2, 1) := by decide +kernel
theorem dX3_follow_38 : decode cX3_follow 38 = .ok (.aload_n 0, 1) := by decide +kernel
theorem dX3_follow_39 : decode cX3_follow 39 = .ok (.getfield 12, 3) := by decide +kernel
theorem dX3_follow_42 : decode cX3_follow 42 = .ok (.invokevirtual 94, 3) := by decide +kernel
theorem dX3_follow_45 : decode cX3_follow 45 = .ok (.iinc 3 1, 3) := by decide +kernel
theorem dX3_follow_48 : decode cX3_follow 48 = .ok (.goto (-30), 3) := by decide +kernel
theorem dX3_follow_51 : decode cX3_follow 51 = .ok (.iload_n 1, 1) := by decide +kernel
theorem dX3_follow_52 : decode cX3_follow 52 = .ok (.iload_n 2, 1) := by decide +kernel
theorem dX3_follow_53 : decode cX3_follow 53 = .ok (.iadd, 1) := by decide +kernel
theorem dX3_follow_54 : decode cX3_follow 54 = .ok (.istore_n 3, 1) := by decide +kernel
theorem dX3_follow_55 : decode cX3_follow 55 = .ok (.iload_n 3, 1) := by decide +kernel
theorem dX3_follow_56 : decode cX3_follow 56 = .ok (.bipush 60, 2) := by decide +kernel
theorem dX3_follow_58 : decode cX3_follow 58 = .ok (.if_icmp .ge 31, 3) := by decide +kernel
theorem dX3_follow_61 : decode cX3_follow 61 = .ok (.aload_n 0, 1) := by decide +kernel
theorem dX3_follow_62 : decode cX3_follow 62 = .ok (.getfield 35, 3) := by decide +kernel
theorem dX3_follow_65 : decode cX3_follow 65 = .ok (.getfield 79, 3) := by decide +kernel
theorem dX3_follow_68 : decode cX3_follow 68 = .ok (.ifCond .le 21, 3) := by decide +kernel
theorem dX3_follow_71 : decode cX3_follow 71 = .ok (.aload_n 0, 1) := by decide +kernel
theorem dX3_follow_72 : decode cX3_follow 72 = .ok (.getfield 35, 3) := by decide +kernel
theorem dX3_follow_75 : decode cX3_follow 75 = .ok (.iconst 0, 1) := by decide +kernel
theorem dX3_follow_76 : decode cX3_follow 76 = .ok (.aload_n 0, 1) := by decide +kernel
theorem dX3_follow_77 : decode cX3_follow 77 = .ok (.getfield 12, 3) := by decide +kernel
theorem dX3_follow_80 : decode cX3_follow 80 = .ok (.invokevirtual 94, 3) := by decide +kernel
theorem dX3_follow_83 : decode cX3_follow 83 = .ok (.iinc 3 1, 3) := by decide +kernel
theorem dX3_follow_86 : decode cX3_follow 86 = .ok (.goto (-31), 3) := by decide +kernel
theorem dX3_follow_89 : decode cX3_follow 89 = .ok (.aload_n 0, 1) := by decide +kernel
theorem dX3_follow_90 : decode cX3_follow 90 = .ok (.getfield 35, 3) := by decide +kernel
theorem dX3_follow_93 : decode cX3_follow 93 = .ok (.getfield 79, 3) := by decide +kernel
theorem dX3_follow_96 : decode cX3_follow 96 = .ok (.ifCond .ne 7, 3) := by decide +kernel
theorem dX3_follow_99 : decode cX3_follow 99 = .ok (.iconst 1, 1) := by decide +kernel
theorem dX3_follow_100 : decode cX3_follow 100 = .ok (.goto 4, 3) := by decide +kernel
theorem dX3_follow_103 : decode cX3_follow 103 = .ok (.iconst 0, 1) := by decide +kernel
theorem dX3_follow_104 : decode cX3_follow 104 = .ok (.ireturn, 1) := by decide +kernel
theorem dX3_holdTo_0 : decode cX3_holdTo 0 = .ok (.iload_n 1, 1) := by decide +kernel
theorem dX3_holdTo_1 : decode cX3_holdTo 1 = .ok (.aload_n 0, 1) := by decide +kernel
theorem dX3_holdTo_2 : decode cX3_holdTo 2 = .ok (.getfield 66, 3) := by decide +kernel
theorem dX3_holdTo_5 : decode cX3_holdTo 5 = .ok (.if_icmp .ge 7, 3) := by decide +kernel
theorem dX3_holdTo_8 : decode cX3_holdTo 8 = .ok (.aload_n 0, 1) := by decide +kernel
theorem dX3_holdTo_9 : decode cX3_holdTo 9 = .ok (.invokevirtual 59, 3) := by decide +kernel
theorem dX3_holdTo_12 : decode cX3_holdTo 12 = .ok (.aload_n 0, 1) := by decide +kernel
theorem dX3_holdTo_13 : decode cX3_holdTo 13 = .ok (.getfield 66, 3) := by decide +kernel
theorem dX3_holdTo_16 : decode cX3_holdTo 16 = .ok (.iload_n 1, 1) := by decide +kernel
theorem dX3_holdTo_17 : decode cX3_holdTo 17 = .ok (.if_icmp .ge 44, 3) := by decide +kernel
theorem dX3_holdTo_20 : decode cX3_holdTo 20 = .ok (.aload_n 0, 1) := by decide +kernel
theorem dX3_holdTo_21 : decode cX3_holdTo 21 = .ok (.getfield 32, 3) := by decide +kernel
theorem dX3_holdTo_24 : decode cX3_holdTo 24 = .ok (.getfield 79, 3) := by decide +kernel
theorem dX3_holdTo_27 : decode cX3_holdTo 27 = .ok (.ifCond .le 21, 3) := by decide +kernel
theorem dX3_holdTo_30 : decode cX3_holdTo 30 = .ok (.aload_n 0, 1) := by decide +kernel
theorem dX3_holdTo_31 : decode cX3_holdTo 31 = .ok (.getfield 32, 3) := by decide +kernel
theorem dX3_holdTo_34 : decode cX3_holdTo 34 = .ok (.aload_n 0, 1) := by decide +kernel
theorem dX3_holdTo_35 : decode cX3_holdTo 35 = .ok (.getfield 32, 3) := by decide +kernel
theorem dX3_holdTo_38 : decode cX3_holdTo 38 = .ok (.invokevirtual 90, 3) := by decide +kernel
theorem dX3_holdTo_41 : decode cX3_holdTo 41 = .ok (.aload_n 0, 1) := by decide +kernel
theorem dX3_holdTo_42 : decode cX3_holdTo 42 = .ok (.getfield 12, 3) := by decide +kernel
theorem dX3_holdTo_45 : decode cX3_holdTo 45 = .ok (.invokevirtual 94, 3) := by decide +kernel
theorem dX3_holdTo_48 : decode cX3_holdTo 48 = .ok (.aload_n 0, 1) := by decide +kernel
theorem dX3_holdTo_49 : decode cX3_holdTo 49 = .ok (.dup, 1) := by decide +kernel
theorem dX3_holdTo_50 : decode cX3_holdTo 50 = .ok (.getfield 66, 3) := by decide +kernel
theorem dX3_holdTo_53 : decode cX3_holdTo 53 = .ok (.iconst 1, 1) := by decide +kernel
theorem dX3_holdTo_54 : decode cX3_holdTo 54 = .ok (.iadd, 1) := by decide +kernel
theorem dX3_holdTo_55 : decode cX3_holdTo 55 = .ok (.putfield 66, 3) := by decide +kernel
theorem dX3_holdTo_58 : decode cX3_holdTo 58 = .ok (.goto (-46), 3) := by decide +kernel
theorem dX3_holdTo_61 : decode cX3_holdTo 61 = .ok (.return_, 1) := by decide +kernel
theorem dX3_stepsFlown_0 : decode cX3_stepsFlown 0 = .ok (.aload_n 0, 1) := by decide +kernel
theorem dX3_stepsFlown_1 : decode cX3_stepsFlown 1 = .ok (.getfield 35, 3) := by decide +kernel
theorem dX3_stepsFlown_4 : decode cX3_stepsFlown 4 = .ok (.getfield 101, 3) := by decide +kernel
theorem dX3_stepsFlown_7 : decode cX3_stepsFlown 7 = .ok (.aload_n 0, 1) := by decide +kernel
theorem dX3_stepsFlown_8 : decode cX3_stepsFlown 8 = .ok (.getfield 28, 3) := by decide +kernel
theorem dX3_stepsFlown_11 : decode cX3_stepsFlown 11 = .ok (.getfield 101, 3) := by decide +kernel
theorem dX3_stepsFlown_14 : decode cX3_stepsFlown 14 = .ok (.isub, 1) := by decide +kernel
theorem dX3_stepsFlown_15 : decode cX3_stepsFlown 15 = .ok (.ireturn, 1) := by decide +kernel
theorem dX3_fieldThere_0 : decode cX3_fieldThere 0 = .ok (.aload_n 0, 1) := by decide +kernel
theorem dX3_fieldThere_1 : decode cX3_fieldThere 1 = .ok (.getfield 21, 3) := by decide +kernel
theorem dX3_fieldThere_4 : decode cX3_fieldThere 4 = .ok (.aload_n 0, 1) := by decide +kernel
theorem dX3_fieldThere_5 : decode cX3_fieldThere 5 = .ok (.getfield 35, 3) := by decide +kernel
theorem dX3_fieldThere_8 : decode cX3_fieldThere 8 = .ok (.getfield 104, 3) := by decide +kernel
theorem dX3_fieldThere_11 : decode cX3_fieldThere 11 = .ok (.aload_n 0, 1) := by decide +kernel
theorem dX3_fieldThere_12 : decode cX3_fieldThere 12 = .ok (.getfield 35, 3) := by decide +kernel
theorem dX3_fieldThere_15 : decode cX3_fieldThere 15 = .ok (.getfield 107, 3) := by decide +kernel
theorem dX3_fieldThere_18 : decode cX3_fieldThere 18 = .ok (.invokevirtual 110, 3) := by decide +kernel
theorem dX3_fieldThere_21 : decode cX3_fieldThere 21 = .ok (.ireturn, 1) := by decide +kernel
theorem dX3_costThere_0 : decode cX3_costThere 0 = .ok (.aload_n 0, 1) := by decide +kernel
theorem dX3_costThere_1 : decode cX3_costThere 1 = .ok (.getfield 21, 3) := by decide +kernel
theorem dX3_costThere_4 : decode cX3_costThere 4 = .ok (.aload_n 0, 1) := by decide +kernel
theorem dX3_costThere_5 : decode cX3_costThere 5 = .ok (.invokevirtual 114, 3) := by decide +kernel
theorem dX3_costThere_8 : decode cX3_costThere 8 = .ok (.aload_n 0, 1) := by decide +kernel
theorem dX3_costThere_9 : decode cX3_costThere 9 = .ok (.getfield 35, 3) := by decide +kernel
theorem dX3_costThere_12 : decode cX3_costThere 12 = .ok (.getfield 62, 3) := by decide +kernel
theorem dX3_costThere_15 : decode cX3_costThere 15 = .ok (.aload_n 0, 1) := by decide +kernel
theorem dX3_costThere_16 : decode cX3_costThere 16 = .ok (.getfield 12, 3) := by decide +kernel
theorem dX3_costThere_19 : decode cX3_costThere 19 = .ok (.aload_n 0, 1) := by decide +kernel
theorem dX3_costThere_20 : decode cX3_costThere 20 = .ok (.getfield 35, 3) := by decide +kernel
theorem dX3_costThere_23 : decode cX3_costThere 23 = .ok (.getfield 62, 3) := by decide +kernel
theorem dX3_costThere_26 : decode cX3_costThere 26 = .ok (.aload_n 0, 1) := by decide +kernel
theorem dX3_costThere_27 : decode cX3_costThere 27 = .ok (.getfield 35, 3) := by decide +kernel
theorem dX3_costThere_30 : decode cX3_costThere 30 = .ok (.getfield 69, 3) := by decide +kernel
theorem dX3_costThere_33 : decode cX3_costThere 33 = .ok (.invokevirtual 117, 3) := by decide +kernel
theorem dX3_costThere_36 : decode cX3_costThere 36 = .ok (.invokevirtual 120, 3) := by decide +kernel
theorem dX3_costThere_39 : decode cX3_costThere 39 = .ok (.ireturn, 1) := by decide +kernel
theorem dX3_leadsInto_0 : decode cX3_leadsInto 0 = .ok (.aload_n 0, 1) := by decide +kernel
theorem dX3_leadsInto_1 : decode cX3_leadsInto 1 = .ok (.iload_n 2, 1) := by decide +kernel
theorem dX3_leadsInto_2 : decode cX3_leadsInto 2 = .ok (.iload_n 3, 1) := by decide +kernel
theorem dX3_leadsInto_3 : decode cX3_leadsInto 3 = .ok (.invokevirtual 124, 3) := by decide +kernel
theorem dX3_leadsInto_6 : decode cX3_leadsInto 6 = .ok (.ifCond .eq 15, 3) := by decide +kernel
theorem dX3_leadsInto_9 : decode cX3_leadsInto 9 = .ok (.aload_n 0, 1) := by decide +kernel
theorem dX3_leadsInto_10 : decode cX3_leadsInto 10 = .ok (.invokevirtual 114, 3) := by decide +kernel
theorem dX3_leadsInto_13 : decode cX3_leadsInto 13 = .ok (.iload_n 1, 1) := by decide +kernel
theorem dX3_leadsInto_14 : decode cX3_leadsInto 14 = .ok (.if_icmp .ne 7, 3) := by decide +kernel
theorem dX3_leadsInto_17 : decode cX3_leadsInto 17 = .ok (.iconst 1, 1) := by decide +kernel
theorem dX3_leadsInto_18 : decode cX3_leadsInto 18 = .ok (.goto 4, 3) := by decide +kernel
theorem dX3_leadsInto_21 : decode cX3_leadsInto 21 = .ok (.iconst 0, 1) := by decide +kernel
theorem dX3_leadsInto_22 : decode cX3_leadsInto 22 = .ok (.ireturn, 1) := by decide +kernel
theorem dX3_seekPlansInto_0 : decode cX3_seekPlansInto 0 = .ok (.aload_n 0, 1) := by decide +kernel
theorem dX3_seekPlansInto_1 : decode cX3_seekPlansInto 1 = .ok (.iconst 0, 1) := by decide +kernel
theorem dX3_seekPlansInto_2 : decode cX3_seekPlansInto 2 = .ok (.putfield 128, 3) := by decide +kernel
theorem dX3_seekPlansInto_5 : decode cX3_seekPlansInto 5 = .ok (.aload_n 0, 1) := by decide +kernel
theorem dX3_seekPlansInto_6 : decode cX3_seekPlansInto 6 = .ok (.bipush (-9), 2) := by decide +kernel
theorem dX3_seekPlansInto_8 : decode cX3_seekPlansInto 8 = .ok (.putfield 131, 3) := by decide +kernel
theorem dX3_seekPlansInto_11 : decode cX3_seekPlansInto 11 = .ok (.aload_n 0, 1) := by decide +kernel
theorem dX3_seekPlansInto_12 : decode cX3_seekPlansInto 12 = .ok (.bipush (-9), 2) := by decide +kernel
theorem dX3_seekPlansInto_14 : decode cX3_seekPlansInto 14 = .ok (.putfield 134, 3) := by decide +kernel
theorem dX3_seekPlansInto_17 : decode cX3_seekPlansInto 17 = .ok (.iconst 0, 1) := by decide +kernel
theorem dX3_seekPlansInto_18 : decode cX3_seekPlansInto 18 = .ok (.istore_n 2, 1) := by decide +kernel
theorem dX3_seekPlansInto_19 : decode cX3_seekPlansInto 19 = .ok (.iconst 0, 1) := by decide +kernel
theorem dX3_seekPlansInto_20 : decode cX3_seekPlansInto 20 = .ok (.istore_n 3, 1) := by decide +kernel
theorem dX3_seekPlansInto_21 : decode cX3_seekPlansInto 21 = .ok (.iload_n 3, 1) := by decide +kernel
theorem dX3_seekPlansInto_22 : decode cX3_seekPlansInto 22 = .ok (.bipush 30, 2) := by decide +kernel
theorem dX3_seekPlansInto_24 : decode cX3_seekPlansInto 24 = .ok (.if_icmp .gt 114, 3) := by decide +kernel
theorem dX3_seekPlansInto_27 : decode cX3_seekPlansInto 27 = .ok (.iconst 0, 1) := by decide +kernel
theorem dX3_seekPlansInto_28 : decode cX3_seekPlansInto 28 = .ok (.istore 4, 2) := by decide +kernel
theorem dX3_seekPlansInto_30 : decode cX3_seekPlansInto 30 = .ok (.iload 4, 2) := by decide +kernel
theorem dX3_seekPlansInto_32 : decode cX3_seekPlansInto 32 = .ok (.iconst 5, 1) := by decide +kernel
theorem dX3_seekPlansInto_33 : decode cX3_seekPlansInto 33 = .ok (.if_icmp .gt 99, 3) := by decide +kernel
theorem dX3_seekPlansInto_36 : decode cX3_seekPlansInto 36 = .ok (.aload_n 0, 1) := by decide +kernel
theorem dX3_seekPlansInto_37 : decode cX3_seekPlansInto 37 = .ok (.iload_n 3, 1) := by decide +kernel
theorem dX3_seekPlansInto_38 : decode cX3_seekPlansInto 38 = .ok (.iload 4, 2) := by decide +kernel
theorem dX3_seekPlansInto_40 : decode cX3_seekPlansInto 40 = .ok (.invokevirtual 124, 3) := by decide +kernel
theorem dX3_seekPlansInto_43 : decode cX3_seekPlansInto 43 = .ok (.ifCond .eq 83, 3) := by decide +kernel
theorem dX3_seekPlansInto_46 : decode cX3_seekPlansInto 46 = .ok (.aload_n 0, 1) := by decide +kernel
theorem dX3_seekPlansInto_47 : decode cX3_seekPlansInto 47 = .ok (.invokevirtual 114, 3) := by decide +kernel
theorem dX3_seekPlansInto_50 : decode cX3_seekPlansInto 50 = .ok (.iload_n 1, 1) := by decide +kernel
theorem dX3_seekPlansInto_51 : decode cX3_seekPlansInto 51 = .ok (.if_icmp .ne 75, 3) := by decide +kernel
theorem dX3_seekPlansInto_54 : decode cX3_seekPlansInto 54 = .ok (.aload_n 0, 1) := by decide +kernel
theorem dX3_seekPlansInto_55 : decode cX3_seekPlansInto 55 = .ok (.aload_n 0, 1) := by decide +kernel
theorem dX3_seekPlansInto_56 : decode cX3_seekPlansInto 56 = .ok (.getfield 128, 3) := by decide +kernel
theorem dX3_seekPlansInto_59 : decode cX3_seekPlansInto 59 = .ok (.ifCond .ne 13, 3) := by decide +kernel
theorem dX3_seekPlansInto_62 : decode cX3_seekPlansInto 62 = .ok (.bipush 10, 2) := by decide +kernel
theorem dX3_seekPlansInto_64 : decode cX3_seekPlansInto 64 = .ok (.iload_n 3, 1) := by decide +kernel
theorem dX3_seekPlansInto_65 : decode cX3_seekPlansInto 65 = .ok (.imul, 1) := by decide +kernel
theorem dX3_seekPlansInto_66 : decode cX3_seekPlansInto 66 = .ok (.iload 4, 2) := by decide +kernel
theorem dX3_seekPlansInto_68 : decode cX3_seekPlansInto 68 = .ok (.iadd, 1) := by decide +kernel
theorem dX3_seekPlansInto_69 : decode cX3_seekPlansInto 69 = .ok (.goto 7, 3) := by decide +kernel
theorem dX3_seekPlansInto_72 : decode cX3_seekPlansInto 72 = .ok (.aload_n 0, 1) := by decide +kernel
theorem dX3_seekPlansInto_73 : decode cX3_seekPlansInto 73 = .ok (.getfield 131, 3) := by decide +kernel
theorem dX3_seekPlansInto_76 : decode cX3_seekPlansInto 76 = .ok (.putfield 131, 3) := by decide +kernel
theorem dX3_seekPlansInto_79 : decode cX3_seekPlansInto 79 = .ok (.aload_n 0, 1) := by decide +kernel
theorem dX3_seekPlansInto_80 : decode cX3_seekPlansInto 80 = .ok (.getfield 128, 3) := by decide +kernel
theorem dX3_seekPlansInto_83 : decode cX3_seekPlansInto 83 = .ok (.ifCond .eq 14, 3) := by decide +kernel
theorem dX3_seekPlansInto_86 : decode cX3_seekPlansInto 86 = .ok (.aload_n 0, 1) := by decide +kernel
theorem dX3_seekPlansInto_87 : decode cX3_seekPlansInto 87 = .ok (.getfield 35, 3) := by decide +kernel
theorem dX3_seekPlansInto_90 : decode cX3_seekPlansInto 90 = .ok (.getfield 62, 3) := by decide +kernel
theorem dX3_seekPlansInto_93 : decode cX3_seekPlansInto 93 = .ok (.iload_n 2, 1) := by decide +kernel
theorem dX3_seekPlansInto_94 : decode cX3_seekPlansInto 94 = .ok (.if_icmp .ge 22, 3) := by decide +kernel
theorem dX3_seekPlansInto_97 : decode cX3_seekPlansInto 97 = .ok (.aload_n 0, 1) := by decide +kernel
theorem dX3_seekPlansInto_98 : decode cX3_seekPlansInto 98 = .ok (.getfield 35, 3) := by decide +kernel
theorem dX3_seekPlansInto_101 : decode cX3_seekPlansInto 101 = .ok (.getfield 62, 3) := by decide +kernel
theorem dX3_seekPlansInto_104 : decode cX3_seekPlansInto 104 = .ok (.istore_n 2, 1) := by decide +kernel
theorem dX3_seekPlansInto_105 : decode cX3_seekPlansInto 105 = .ok (.aload_n 0, 1) := by decide +kernel
theorem dX3_seekPlansInto_106 : decode cX3_seekPlansInto 106 = .ok (.bipush 10, 2) := by decide +kernel
theorem dX3_seekPlansInto_108 : decode cX3_seekPlansInto 108 = .ok (.iload_n 3, 1) := by decide +kernel
theorem dX3_seekPlansInto_109 : decode cX3_seekPlansInto 109 = .ok (.imul, 1) := by decide +kernel
theorem dX3_seekPlansInto_110 : decode cX3_seekPlansInto 110 = .ok (.iload 4, 2) := by decide +kernel
theorem dX3_seekPlansInto_112 : decode cX3_seekPlansInto 112 = .ok (.iadd, 1) := by decide +kernel
theorem dX3_seekPlansInto_113 : decode cX3_seekPlansInto 113 = .ok (.putfield 134, 3) := by decide +kernel
theorem dX3_seekPlansInto_116 : decode cX3_seekPlansInto 116 = .ok (.aload_n 0, 1) := by decide +kernel
theorem dX3_seekPlansInto_117 : decode cX3_seekPlansInto 117 = .ok (.dup, 1) := by decide +kernel
theorem dX3_seekPlansInto_118 : decode cX3_seekPlansInto 118 = .ok (.getfield 128, 3) := by decide +kernel
theorem dX3_seekPlansInto_121 : decode cX3_seekPlansInto 121 = .ok (.iconst 1, 1) := by decide +kernel
theorem dX3_seekPlansInto_122 : decode cX3_seekPlansInto 122 = .ok (.iadd, 1) := by decide +kernel
theorem dX3_seekPlansInto_123 : decode cX3_seekPlansInto 123 = .ok (.putfield 128, 3) := by decide +kernel
theorem dX3_seekPlansInto_126 : decode cX3_seekPlansInto 126 = .ok (.iinc 4 1, 3) := by decide +kernel
theorem dX3_seekPlansInto_129 : decode cX3_seekPlansInto 129 = .ok (.goto (-99), 3) := by decide +kernel
theorem dX3_seekPlansInto_132 : decode cX3_seekPlansInto 132 = .ok (.iinc 3 1, 3) := by decide +kernel
theorem dX3_seekPlansInto_135 : decode cX3_seekPlansInto 135 = .ok (.goto (-114), 3) := by decide +kernel
theorem dX3_seekPlansInto_138 : decode cX3_seekPlansInto 138 = .ok (.return_, 1) := by decide +kernel
theorem dX3_seekCheapest_0 : decode cX3_seekCheapest 0 = .ok (.aload_n 0, 1) := by decide +kernel
theorem dX3_seekCheapest_1 : decode cX3_seekCheapest 1 = .ok (.bipush (-9), 2) := by decide +kernel
theorem dX3_seekCheapest_3 : decode cX3_seekCheapest 3 = .ok (.putfield 137, 3) := by decide +kernel
theorem dX3_seekCheapest_6 : decode cX3_seekCheapest 6 = .ok (.aload_n 0, 1) := by decide +kernel
theorem dX3_seekCheapest_7 : decode cX3_seekCheapest 7 = .ok (.bipush (-9), 2) := by decide +kernel
theorem dX3_seekCheapest_9 : decode cX3_seekCheapest 9 = .ok (.putfield 140, 3) := by decide +kernel
theorem dX3_seekCheapest_12 : decode cX3_seekCheapest 12 = .ok (.iconst 0, 1) := by decide +kernel
theorem dX3_seekCheapest_13 : decode cX3_seekCheapest 13 = .ok (.istore_n 1, 1) := by decide +kernel
theorem dX3_seekCheapest_14 : decode cX3_seekCheapest 14 = .ok (.iload_n 1, 1) := by decide +kernel
theorem dX3_seekCheapest_15 : decode cX3_seekCheapest 15 = .ok (.bipush 30, 2) := by decide +kernel
theorem dX3_seekCheapest_17 : decode cX3_seekCheapest 17 = .ok (.if_icmp .gt 68, 3) := by decide +kernel
theorem dX3_seekCheapest_20 : decode cX3_seekCheapest 20 = .ok (.iconst 0, 1) := by decide +kernel
theorem dX3_seekCheapest_21 : decode cX3_seekCheapest 21 = .ok (.istore_n 2, 1) := by decide +kernel
theorem dX3_seekCheapest_22 : decode cX3_seekCheapest 22 = .ok (.iload_n 2, 1) := by decide +kernel
theorem dX3_seekCheapest_23 : decode cX3_seekCheapest 23 = .ok (.iconst 5, 1) := by decide +kernel
theorem dX3_seekCheapest_24 : decode cX3_seekCheapest 24 = .ok (.if_icmp .gt 55, 3) := by decide +kernel
theorem dX3_seekCheapest_27 : decode cX3_seekCheapest 27 = .ok (.aload_n 0, 1) := by decide +kernel
theorem dX3_seekCheapest_28 : decode cX3_seekCheapest 28 = .ok (.iload_n 1, 1) := by decide +kernel
theorem dX3_seekCheapest_29 : decode cX3_seekCheapest 29 = .ok (.iload_n 2, 1) := by decide +kernel
theorem dX3_seekCheapest_30 : decode cX3_seekCheapest 30 = .ok (.invokevirtual 124, 3) := by decide +kernel
theorem dX3_seekCheapest_33 : decode cX3_seekCheapest 33 = .ok (.ifCond .eq 40, 3) := by decide +kernel
theorem dX3_seekCheapest_36 : decode cX3_seekCheapest 36 = .ok (.aload_n 0, 1) := by decide +kernel
theorem dX3_seekCheapest_37 : decode cX3_seekCheapest 37 = .ok (.invokevirtual 143, 3) := by decide +kernel
theorem dX3_seekCheapest_40 : decode cX3_seekCheapest 40 = .ok (.istore_n 3, 1) := by decide +kernel
theorem dX3_seekCheapest_41 : decode cX3_seekCheapest 41 = .ok (.aload_n 0, 1) := by decide +kernel
theorem dX3_seekCheapest_42 : decode cX3_seekCheapest 42 = .ok (.getfield 137, 3) := by decide +kernel
theorem dX3_seekCheapest_45 : decode cX3_seekCheapest 45 = .ok (.bipush (-9), 2) := by decide +kernel
theorem dX3_seekCheapest_47 : decode cX3_seekCheapest 47 = .ok (.if_icmp .eq 11, 3) := by decide +kernel
theorem dX3_seekCheapest_50 : decode cX3_seekCheapest 50 = .ok (.iload_n 3, 1) := by decide +kernel
theorem dX3_seekCheapest_51 : decode cX3_seekCheapest 51 = .ok (.aload_n 0, 1) := by decide +kernel
theorem dX3_seekCheapest_52 : decode cX3_seekCheapest 52 = .ok (.getfield 140, 3) := by decide +kernel
theorem dX3_seekCheapest_55 : decode cX3_seekCheapest 55 = .ok (.if_icmp .ge 18, 3) := by decide +kernel
theorem dX3_seekCheapest_58 : decode cX3_seekCheapest 58 = .ok (.aload_n 0, 1) := by decide +kernel
theorem dX3_seekCheapest_59 : decode cX3_seekCheapest 59 = .ok (.bipush 10, 2) := by decide +kernel
theorem dX3_seekCheapest_61 : decode cX3_seekCheapest 61 = .ok (.iload_n 1, 1) := by decide +kernel
theorem dX3_seekCheapest_62 : decode cX3_seekCheapest 62 = .ok (.imul, 1) := by decide +kernel
theorem dX3_seekCheapest_63 : decode cX3_seekCheapest 63 = .ok (.iload_n 2, 1) := by decide +kernel
theorem dX3_seekCheapest_64 : decode cX3_seekCheapest 64 = .ok (.iadd, 1) := by decide +kernel
theorem dX3_seekCheapest_65 : decode cX3_seekCheapest 65 = .ok (.putfield 137, 3) := by decide +kernel
theorem dX3_seekCheapest_68 : decode cX3_seekCheapest 68 = .ok (.aload_n 0, 1) := by decide +kernel
theorem dX3_seekCheapest_69 : decode cX3_seekCheapest 69 = .ok (.iload_n 3, 1) := by decide +kernel
theorem dX3_seekCheapest_70 : decode cX3_seekCheapest 70 = .ok (.putfield 140, 3) := by decide +kernel
theorem dX3_seekCheapest_73 : decode cX3_seekCheapest 73 = .ok (.iinc 2 1, 3) := by decide +kernel
theorem dX3_seekCheapest_76 : decode cX3_seekCheapest 76 = .ok (.goto (-54), 3) := by decide +kernel
theorem dX3_seekCheapest_79 : decode cX3_seekCheapest 79 = .ok (.iinc 1 1, 3) := by decide +kernel
theorem dX3_seekCheapest_82 : decode cX3_seekCheapest 82 = .ok (.goto (-68), 3) := by decide +kernel
theorem dX3_seekCheapest_85 : decode cX3_seekCheapest 85 = .ok (.return_, 1) := by decide +kernel
theorem dX3_fieldsWithin_0 : decode cX3_fieldsWithin 0 = .ok (.iconst 0, 1) := by decide +kernel
theorem dX3_fieldsWithin_1 : decode cX3_fieldsWithin 1 = .ok (.istore_n 1, 1) := by decide +kernel
theorem dX3_fieldsWithin_2 : decode cX3_fieldsWithin 2 = .ok (.iconst 0, 1) := by decide +kernel
theorem dX3_fieldsWithin_3 : decode cX3_fieldsWithin 3 = .ok (.istore_n 2, 1) := by decide +kernel
theorem dX3_fieldsWithin_4 : decode cX3_fieldsWithin 4 = .ok (.iload_n 2, 1) := by decide +kernel
theorem dX3_fieldsWithin_5 : decode cX3_fieldsWithin 5 = .ok (.bipush 30, 2) := by decide +kernel
theorem dX3_fieldsWithin_7 : decode cX3_fieldsWithin 7 = .ok (.if_icmp .gt 58, 3) := by decide +kernel
theorem dX3_fieldsWithin_10 : decode cX3_fieldsWithin 10 = .ok (.iconst 0, 1) := by decide +kernel
theorem dX3_fieldsWithin_11 : decode cX3_fieldsWithin 11 = .ok (.istore_n 3, 1) := by decide +kernel
theorem dX3_fieldsWithin_12 : decode cX3_fieldsWithin 12 = .ok (.iload_n 3, 1) := by decide +kernel
theorem dX3_fieldsWithin_13 : decode cX3_fieldsWithin 13 = .ok (.iconst 5, 1) := by decide +kernel
theorem dX3_fieldsWithin_14 : decode cX3_fieldsWithin 14 = .ok (.if_icmp .gt 45, 3) := by decide +kernel
theorem dX3_fieldsWithin_17 : decode cX3_fieldsWithin 17 = .ok (.aload_n 0, 1) := by decide +kernel
theorem dX3_fieldsWithin_18 : decode cX3_fieldsWithin 18 = .ok (.iload_n 2, 1) := by decide +kernel
theorem dX3_fieldsWithin_19 : decode cX3_fieldsWithin 19 = .ok (.iload_n 3, 1) := by decide +kernel
theorem dX3_fieldsWithin_20 : decode cX3_fieldsWithin 20 = .ok (.invokevirtual 124, 3) := by decide +kernel
theorem dX3_fieldsWithin_23 : decode cX3_fieldsWithin 23 = .ok (.ifCond .eq 10, 3) := by decide +kernel
theorem dX3_fieldsWithin_26 : decode cX3_fieldsWithin 26 = .ok (.aload_n 0, 1) := by decide +kernel
theorem dX3_fieldsWithin_27 : decode cX3_fieldsWithin 27 = .ok (.invokevirtual 114, 3) := by decide +kernel
theorem dX3_fieldsWithin_30 : decode cX3_fieldsWithin 30 = .ok (.goto 5, 3) := by decide +kernel
theorem dX3_fieldsWithin_33 : decode cX3_fieldsWithin 33 = .ok (.bipush (-9), 2) := by decide +kernel
theorem dX3_fieldsWithin_35 : decode cX3_fieldsWithin 35 = .ok (.istore 4, 2) := by decide +kernel
theorem dX3_fieldsWithin_37 : decode cX3_fieldsWithin 37 = .ok (.iload_n 1, 1) := by decide +kernel
theorem dX3_fieldsWithin_38 : decode cX3_fieldsWithin 38 = .ok (.iload 4, 2) := by decide +kernel
theorem dX3_fieldsWithin_40 : decode cX3_fieldsWithin 40 = .ok (.ifCond .lt 10, 3) := by decide +kernel
theorem dX3_fieldsWithin_43 : decode cX3_fieldsWithin 43 = .ok (.iconst 1, 1) := by decide +kernel
theorem dX3_fieldsWithin_44 : decode cX3_fieldsWithin 44 = .ok (.iload 4, 2) := by decide +kernel
theorem dX3_fieldsWithin_46 : decode cX3_fieldsWithin 46 = .ok (.ishl, 1) := by decide +kernel
theorem dX3_fieldsWithin_47 : decode cX3_fieldsWithin 47 = .ok (.goto 4, 3) := by decide +kernel
theorem dX3_fieldsWithin_50 : decode cX3_fieldsWithin 50 = .ok (.iconst 0, 1) := by decide +kernel
theorem dX3_fieldsWithin_51 : decode cX3_fieldsWithin 51 = .ok (.ior, 1) := by decide +kernel
theorem dX3_fieldsWithin_52 : decode cX3_fieldsWithin 52 = .ok (.istore_n 1, 1) := by decide +kernel
theorem dX3_fieldsWithin_53 : decode cX3_fieldsWithin 53 = .ok (.iinc 3 1, 3) := by decide +kernel
theorem dX3_fieldsWithin_56 : decode cX3_fieldsWithin 56 = .ok (.goto (-44), 3) := by decide +kernel
theorem dX3_fieldsWithin_59 : decode cX3_fieldsWithin 59 = .ok (.iinc 2 1, 3) := by decide +kernel
theorem dX3_fieldsWithin_62 : decode cX3_fieldsWithin 62 = .ok (.goto (-58), 3) := by decide +kernel
theorem dX3_fieldsWithin_65 : decode cX3_fieldsWithin 65 = .ok (.iload_n 1, 1) := by decide +kernel
theorem dX3_fieldsWithin_66 : decode cX3_fieldsWithin 66 = .ok (.ireturn, 1) := by decide +kernel
theorem dX3_somePlanLeadsInto_0 : decode cX3_somePlanLeadsInto 0 = .ok (.iconst 0, 1) := by decide +kernel
theorem dX3_somePlanLeadsInto_1 : decode cX3_somePlanLeadsInto 1 = .ok (.istore_n 2, 1) := by decide +kernel
theorem dX3_somePlanLeadsInto_2 : decode cX3_somePlanLeadsInto 2 = .ok (.iload_n 2, 1) := by decide +kernel
theorem dX3_somePlanLeadsInto_3 : decode cX3_somePlanLeadsInto 3 = .ok (.bipush 30, 2) := by decide +kernel
theorem dX3_somePlanLeadsInto_5 : decode cX3_somePlanLeadsInto 5 = .ok (.if_icmp .gt 41, 3) := by decide +kernel
theorem dX3_somePlanLeadsInto_8 : decode cX3_somePlanLeadsInto 8 = .ok (.iconst 0, 1) := by decide +kernel
theorem dX3_somePlanLeadsInto_9 : decode cX3_somePlanLeadsInto 9 = .ok (.istore_n 3, 1) := by decide +kernel
theorem dX3_somePlanLeadsInto_10 : decode cX3_somePlanLeadsInto 10 = .ok (.iload_n 3, 1) := by decide +kernel
theorem dX3_somePlanLeadsInto_11 : decode cX3_somePlanLeadsInto 11 = .ok (.iconst 5, 1) := by decide +kernel
theorem dX3_somePlanLeadsInto_12 : decode cX3_somePlanLeadsInto 12 = .ok (.if_icmp .gt 28, 3) := by decide +kernel
theorem dX3_somePlanLeadsInto_15 : decode cX3_somePlanLeadsInto 15 = .ok (.aload_n 0, 1) := by decide +kernel
theorem dX3_somePlanLeadsInto_16 : decode cX3_somePlanLeadsInto 16 = .ok (.iload_n 2, 1) := by decide +kernel
theorem dX3_somePlanLeadsInto_17 : decode cX3_somePlanLeadsInto 17 = .ok (.iload_n 3, 1) := by decide +kernel
theorem dX3_somePlanLeadsInto_18 : decode cX3_somePlanLeadsInto 18 = .ok (.invokevirtual 124, 3) := by decide +kernel
theorem dX3_somePlanLeadsInto_21 : decode cX3_somePlanLeadsInto 21 = .ok (.ifCond .eq 13, 3) := by decide +kernel
theorem dX3_somePlanLeadsInto_24 : decode cX3_somePlanLeadsInto 24 = .ok (.aload_n 0, 1) := by decide +kernel
theorem dX3_somePlanLeadsInto_25 : decode cX3_somePlanLeadsInto 25 = .ok (.invokevirtual 114, 3) := by decide +kernel
theorem dX3_somePlanLeadsInto_28 : decode cX3_somePlanLeadsInto 28 = .ok (.iload_n 1, 1) := by decide +kernel
theorem dX3_somePlanLeadsInto_29 : decode cX3_somePlanLeadsInto 29 = .ok (.if_icmp .ne 5, 3) := by decide +kernel
theorem dX3_somePlanLeadsInto_32 : decode cX3_somePlanLeadsInto 32 = .ok (.iconst 1, 1) := by decide +kernel
theorem dX3_somePlanLeadsInto_33 : decode cX3_somePlanLeadsInto 33 = .ok (.ireturn, 1) := by decide +kernel
theorem dX3_somePlanLeadsInto_34 : decode cX3_somePlanLeadsInto 34 = .ok (.iinc 3 1, 3) := by decide +kernel
theorem dX3_somePlanLeadsInto_37 : decode cX3_somePlanLeadsInto 37 = .ok (.goto (-27), 3) := by decide +kernel
theorem dX3_somePlanLeadsInto_40 : decode cX3_somePlanLeadsInto 40 = .ok (.iinc 2 1, 3) := by decide +kernel
theorem dX3_somePlanLeadsInto_43 : decode cX3_somePlanLeadsInto 43 = .ok (.goto (-41), 3) := by decide +kernel
theorem dX3_somePlanLeadsInto_46 : decode cX3_somePlanLeadsInto 46 = .ok (.iconst 0, 1) := by decide +kernel
theorem dX3_somePlanLeadsInto_47 : decode cX3_somePlanLeadsInto 47 = .ok (.ireturn, 1) := by decide +kernel
theorem dX3_hasGasOver_0 : decode cX3_hasGasOver 0 = .ok (.aload_n 0, 1) := by decide +kernel
theorem dX3_hasGasOver_1 : decode cX3_hasGasOver 1 = .ok (.getfield 66, 3) := by decide +kernel
theorem dX3_hasGasOver_4 : decode cX3_hasGasOver 4 = .ok (.bipush 30, 2) := by decide +kernel
theorem dX3_hasGasOver_6 : decode cX3_hasGasOver 6 = .ok (.if_icmp .ne 17, 3) := by decide +kernel
theorem dX3_hasGasOver_9 : decode cX3_hasGasOver 9 = .ok (.aload_n 0, 1) := by decide +kernel
theorem dX3_hasGasOver_10 : decode cX3_hasGasOver 10 = .ok (.getfield 32, 3) := by decide +kernel
theorem dX3_hasGasOver_13 : decode cX3_hasGasOver 13 = .ok (.getfield 72, 3) := by decide +kernel
theorem dX3_hasGasOver_16 : decode cX3_hasGasOver 16 = .ok (.ifCond .le 7, 3) := by decide +kernel
theorem dX3_hasGasOver_19 : decode cX3_hasGasOver 19 = .ok (.iconst 1, 1) := by decide +kernel
theorem dX3_hasGasOver_20 : decode cX3_hasGasOver 20 = .ok (.goto 4, 3) := by decide +kernel
theorem dX3_hasGasOver_23 : decode cX3_hasGasOver 23 = .ok (.iconst 0, 1) := by decide +kernel
theorem dX3_hasGasOver_24 : decode cX3_hasGasOver 24 = .ok (.ireturn, 1) := by decide +kernel
theorem dX3_answerEach_0 : decode cX3_answerEach 0 = .ok (.aload_n 0, 1) := by decide +kernel
theorem dX3_answerEach_1 : decode cX3_answerEach 1 = .ok (.iconst 0, 1) := by decide +kernel
theorem dX3_answerEach_2 : decode cX3_answerEach 2 = .ok (.putfield 146, 3) := by decide +kernel
theorem dX3_answerEach_5 : decode cX3_answerEach 5 = .ok (.aload_n 0, 1) := by decide +kernel
theorem dX3_answerEach_6 : decode cX3_answerEach 6 = .ok (.iconst 0, 1) := by decide +kernel
theorem dX3_answerEach_7 : decode cX3_answerEach 7 = .ok (.putfield 149, 3) := by decide +kernel
theorem dX3_answerEach_10 : decode cX3_answerEach 10 = .ok (.aload_n 0, 1) := by decide +kernel
theorem dX3_answerEach_11 : decode cX3_answerEach 11 = .ok (.getfield 35, 3) := by decide +kernel
theorem dX3_answerEach_14 : decode cX3_answerEach 14 = .ok (.aload_n 0, 1) := by decide +kernel
theorem dX3_answerEach_15 : decode cX3_answerEach 15 = .ok (.getfield 28, 3) := by decide +kernel
theorem dX3_answerEach_18 : decode cX3_answerEach 18 = .ok (.invokevirtual 56, 3) := by decide +kernel
theorem dX3_answerEach_21 : decode cX3_answerEach 21 = .ok (.iconst 0, 1) := by decide +kernel
theorem dX3_answerEach_22 : decode cX3_answerEach 22 = .ok (.istore_n 2, 1) := by decide +kernel
theorem dX3_answerEach_23 : decode cX3_answerEach 23 = .ok (.iconst 0, 1) := by decide +kernel
theorem dX3_answerEach_24 : decode cX3_answerEach 24 = .ok (.istore_n 3, 1) := by decide +kernel
theorem dX3_answerEach_25 : decode cX3_answerEach 25 = .ok (.iload_n 3, 1) := by decide +kernel
theorem dX3_answerEach_26 : decode cX3_answerEach 26 = .ok (.bipush 40, 2) := by decide +kernel
theorem dX3_answerEach_28 : decode cX3_answerEach 28 = .ok (.if_icmp .ge 105, 3) := by decide +kernel
theorem dX3_answerEach_31 : decode cX3_answerEach 31 = .ok (.aload_n 0, 1) := by decide +kernel
theorem dX3_answerEach_32 : decode cX3_answerEach 32 = .ok (.getfield 35, 3) := by decide +kernel
theorem dX3_answerEach_35 : decode cX3_answerEach 35 = .ok (.iload_n 2, 1) := by decide +kernel
theorem dX3_answerEach_36 : decode cX3_answerEach 36 = .ok (.ifCond .ne 13, 3) := by decide +kernel
theorem dX3_answerEach_39 : decode cX3_answerEach 39 = .ok (.aload_n 0, 1) := by decide +kernel
theorem dX3_answerEach_40 : decode cX3_answerEach 40 = .ok (.getfield 35, 3) := by decide +kernel
theorem dX3_answerEach_43 : decode cX3_answerEach 43 = .ok (.invokevirtual 152, 3) := by decide +kernel
theorem dX3_answerEach_46 : decode cX3_answerEach 46 = .ok (.goto 4, 3) := by decide +kernel
theorem dX3_answerEach_49 : decode cX3_answerEach 49 = .ok (.iconst 0, 1) := by decide +kernel
theorem dX3_answerEach_50 : decode cX3_answerEach 50 = .ok (.aload_n 0, 1) := by decide +kernel
theorem dX3_answerEach_51 : decode cX3_answerEach 51 = .ok (.getfield 12, 3) := by decide +kernel
theorem dX3_answerEach_54 : decode cX3_answerEach 54 = .ok (.invokevirtual 94, 3) := by decide +kernel
theorem dX3_answerEach_57 : decode cX3_answerEach 57 = .ok (.iload_n 2, 1) := by decide +kernel
theorem dX3_answerEach_58 : decode cX3_answerEach 58 = .ok (.iconst 1, 1) := by decide +kernel
theorem dX3_answerEach_59 : decode cX3_answerEach 59 = .ok (.iadd, 1) := by decide +kernel
theorem dX3_answerEach_60 : decode cX3_answerEach 60 = .ok (.iload_n 1, 1) := by decide +kernel
theorem dX3_answerEach_61 : decode cX3_answerEach 61 = .ok (.if_icmp .ge 9, 3) := by decide +kernel
theorem dX3_answerEach_64 : decode cX3_answerEach 64 = .ok (.iload_n 2, 1) := by decide +kernel
theorem dX3_answerEach_65 : decode cX3_answerEach 65 = .ok (.iconst 1, 1) := by decide +kernel
theorem dX3_answerEach_66 : decode cX3_answerEach 66 = .ok (.iadd, 1) := by decide +kernel
theorem dX3_answerEach_67 : decode cX3_answerEach 67 = .ok (.goto 4, 3) := by decide +kernel
theorem dX3_answerEach_70 : decode cX3_answerEach 70 = .ok (.iconst 0, 1) := by decide +kernel
theorem dX3_answerEach_71 : decode cX3_answerEach 71 = .ok (.istore_n 2, 1) := by decide +kernel
theorem dX3_answerEach_72 : decode cX3_answerEach 72 = .ok (.aload_n 0, 1) := by decide +kernel
theorem dX3_answerEach_73 : decode cX3_answerEach 73 = .ok (.getfield 35, 3) := by decide +kernel
theorem dX3_answerEach_76 : decode cX3_answerEach 76 = .ok (.getfield 79, 3) := by decide +kernel
theorem dX3_answerEach_79 : decode cX3_answerEach 79 = .ok (.aload_n 0, 1) := by decide +kernel
theorem dX3_answerEach_80 : decode cX3_answerEach 80 = .ok (.getfield 28, 3) := by decide +kernel
theorem dX3_answerEach_83 : decode cX3_answerEach 83 = .ok (.getfield 79, 3) := by decide +kernel
theorem dX3_answerEach_86 : decode cX3_answerEach 86 = .ok (.isub, 1) := by decide +kernel
theorem dX3_answerEach_87 : decode cX3_answerEach 87 = .ok (.invokestatic 155, 3) := by decide +kernel
theorem dX3_answerEach_90 : decode cX3_answerEach 90 = .ok (.istore 4, 2) := by decide +kernel
theorem dX3_answerEach_92 : decode cX3_answerEach 92 = .ok (.iload_n 3, 1) := by decide +kernel
theorem dX3_answerEach_93 : decode cX3_answerEach 93 = .ok (.bipush 20, 2) := by decide +kernel
theorem dX3_answerEach_95 : decode cX3_answerEach 95 = .ok (.if_icmp .ge 19, 3) := by decide +kernel
theorem dX3_answerEach_98 : decode cX3_answerEach 98 = .ok (.aload_n 0, 1) := by decide +kernel
theorem dX3_answerEach_99 : decode cX3_answerEach 99 = .ok (.aload_n 0, 1) := by decide +kernel
theorem dX3_answerEach_100 : decode cX3_answerEach 100 = .ok (.getfield 146, 3) := by decide +kernel
theorem dX3_answerEach_103 : decode cX3_answerEach 103 = .ok (.iload 4, 2) := by decide +kernel
theorem dX3_answerEach_105 : decode cX3_answerEach 105 = .ok (.invokestatic 160, 3) := by decide +kernel
theorem dX3_answerEach_108 : decode cX3_answerEach 108 = .ok (.putfield 146, 3) := by decide +kernel
theorem dX3_answerEach_111 : decode cX3_answerEach 111 = .ok (.goto 16, 3) := by decide +kernel
theorem dX3_answerEach_114 : decode cX3_answerEach 114 = .ok (.aload_n 0, 1) := by decide +kernel
theorem dX3_answerEach_115 : decode cX3_answerEach 115 = .ok (.aload_n 0, 1) := by decide +kernel
theorem dX3_answerEach_116 : decode cX3_answerEach 116 = .ok (.getfield 149, 3) := by decide +kernel
theorem dX3_answerEach_119 : decode cX3_answerEach 119 = .ok (.iload 4, 2) := by decide +kernel
theorem dX3_answerEach_121 : decode cX3_answerEach 121 = .ok (.invokestatic 160, 3) := by decide +kernel
theorem dX3_answerEach_124 : decode cX3_answerEach 124 = .ok (.putfield 149, 3) := by decide +kernel
theorem dX3_answerEach_127 : decode cX3_answerEach 127 = .ok (.iinc 3 1, 3) := by decide +kernel
theorem dX3_answerEach_130 : decode cX3_answerEach 130 = .ok (.goto (-105), 3) := by decide +kernel
theorem dX3_answerEach_133 : decode cX3_answerEach 133 = .ok (.return_, 1) := by decide +kernel
theorem dX3_swingGrows_0 : decode cX3_swingGrows 0 = .ok (.aload_n 0, 1) := by decide +kernel
theorem dX3_swingGrows_1 : decode cX3_swingGrows 1 = .ok (.getfield 149, 3) := by decide +kernel
theorem dX3_swingGrows_4 : decode cX3_swingGrows 4 = .ok (.aload_n 0, 1) := by decide +kernel
theorem dX3_swingGrows_5 : decode cX3_swingGrows 5 = .ok (.getfield 146, 3) := by decide +kernel
theorem dX3_swingGrows_8 : decode cX3_swingGrows 8 = .ok (.if_icmp .le 7, 3) := by decide +kernel
theorem dX3_swingGrows_11 : decode cX3_swingGrows 11 = .ok (.iconst 1, 1) := by decide +kernel
theorem dX3_swingGrows_12 : decode cX3_swingGrows 12 = .ok (.goto 4, 3) := by decide +kernel
theorem dX3_swingGrows_15 : decode cX3_swingGrows 15 = .ok (.iconst 0, 1) := by decide +kernel
theorem dX3_swingGrows_16 : decode cX3_swingGrows 16 = .ok (.ireturn, 1) := by decide +kernel
theorem dX3_firstHeightUnlike_0 : decode cX3_firstHeightUnlike 0 = .ok (.aload_n 0, 1) := by decide +kernel
theorem dX3_firstHeightUnlike_1 : decode cX3_firstHeightUnlike 1 = .ok (.getfield 35, 3) := by decide +kernel
theorem dX3_firstHeightUnlike_4 : decode cX3_firstHeightUnlike 4 = .ok (.aload_n 0, 1) := by decide +kernel
theorem dX3_firstHeightUnlike_5 : decode cX3_firstHeightUnlike 5 = .ok (.getfield 28, 3) := by decide +kernel
theorem dX3_firstHeightUnlike_8 : decode cX3_firstHeightUnlike 8 = .ok (.invokevirtual 56, 3) := by decide +kernel
theorem dX3_firstHeightUnlike_11 : decode cX3_firstHeightUnlike 11 = .ok (.iconst 0, 1) := by decide +kernel
theorem dX3_firstHeightUnlike_12 : decode cX3_firstHeightUnlike 12 = .ok (.istore_n 2, 1) := by decide +kernel
theorem dX3_firstHeightUnlike_13 : decode cX3_firstHeightUnlike 13 = .ok (.iload_n 2, 1) := by decide +kernel
theorem dX3_firstHeightUnlike_14 : decode cX3_firstHeightUnlike 14 = .ok (.aload_n 1, 1) := by decide +kernel
theorem dX3_firstHeightUnlike_15 : decode cX3_firstHeightUnlike 15 = .ok (.getfield 163, 3) := by decide +kernel
theorem dX3_firstHeightUnlike_18 : decode cX3_firstHeightUnlike 18 = .ok (.if_icmp .ge 44, 3) := by decide +kernel
theorem dX3_firstHeightUnlike_21 : decode cX3_firstHeightUnlike 21 = .ok (.aload_n 0, 1) := by decide +kernel
theorem dX3_firstHeightUnlike_22 : decode cX3_firstHeightUnlike 22 = .ok (.getfield 35, 3) := by decide +kernel
theorem dX3_firstHeightUnlike_25 : decode cX3_firstHeightUnlike 25 = .ok (.aload_n 0, 1) := by decide +kernel
theorem dX3_firstHeightUnlike_26 : decode cX3_firstHeightUnlike 26 = .ok (.getfield 35, 3) := by decide +kernel
theorem dX3_firstHeightUnlike_29 : decode cX3_firstHeightUnlike 29 = .ok (.invokevirtual 90, 3) := by decide +kernel
theorem dX3_firstHeightUnlike_32 : decode cX3_firstHeightUnlike 32 = .ok (.aload_n 0, 1) := by decide +kernel
theorem dX3_firstHeightUnlike_33 : decode cX3_firstHeightUnlike 33 = .ok (.getfield 12, 3) := by decide +kernel
theorem dX3_firstHeightUnlike_36 : decode cX3_firstHeightUnlike 36 = .ok (.invokevirtual 94, 3) := by decide +kernel
theorem dX3_firstHeightUnlike_39 : decode cX3_firstHeightUnlike 39 = .ok (.aload_n 0, 1) := by decide +kernel
theorem dX3_firstHeightUnlike_40 : decode cX3_firstHeightUnlike 40 = .ok (.getfield 35, 3) := by decide +kernel
theorem dX3_firstHeightUnlike_43 : decode cX3_firstHeightUnlike 43 = .ok (.getfield 79, 3) := by decide +kernel
theorem dX3_firstHeightUnlike_46 : decode cX3_firstHeightUnlike 46 = .ok (.aload_n 1, 1) := by decide +kernel
theorem dX3_firstHeightUnlike_47 : decode cX3_firstHeightUnlike 47 = .ok (.iload_n 2, 1) := by decide +kernel
theorem dX3_firstHeightUnlike_48 : decode cX3_firstHeightUnlike 48 = .ok (.invokevirtual 168, 3) := by decide +kernel
theorem dX3_firstHeightUnlike_51 : decode cX3_firstHeightUnlike 51 = .ok (.if_icmp .eq 5, 3) := by decide +kernel
theorem dX3_firstHeightUnlike_54 : decode cX3_firstHeightUnlike 54 = .ok (.iload_n 2, 1) := by decide +kernel
theorem dX3_firstHeightUnlike_55 : decode cX3_firstHeightUnlike 55 = .ok (.ireturn, 1) := by decide +kernel
theorem dX3_firstHeightUnlike_56 : decode cX3_firstHeightUnlike 56 = .ok (.iinc 2 1, 3) := by decide +kernel
theorem dX3_firstHeightUnlike_59 : decode cX3_firstHeightUnlike 59 = .ok (.goto (-46), 3) := by decide +kernel
theorem dX3_firstHeightUnlike_62 : decode cX3_firstHeightUnlike 62 = .ok (.bipush (-9), 2) := by decide +kernel
theorem dX3_firstHeightUnlike_64 : decode cX3_firstHeightUnlike 64 = .ok (.ireturn, 1) := by decide +kernel
theorem dX3_flyActs_0 : decode cX3_flyActs 0 = .ok (.aload_n 0, 1) := by decide +kernel
theorem dX3_flyActs_1 : decode cX3_flyActs 1 = .ok (.getfield 35, 3) := by decide +kernel
theorem dX3_flyActs_4 : decode cX3_flyActs 4 = .ok (.aload_n 0, 1) := by decide +kernel
theorem dX3_flyActs_5 : decode cX3_flyActs 5 = .ok (.getfield 28, 3) := by decide +kernel
theorem dX3_flyActs_8 : decode cX3_flyActs 8 = .ok (.invokevirtual 56, 3) := by decide +kernel
theorem dX3_flyActs_11 : decode cX3_flyActs 11 = .ok (.iconst 0, 1) := by decide +kernel
theorem dX3_flyActs_12 : decode cX3_flyActs 12 = .ok (.istore_n 2, 1) := by decide +kernel
theorem dX3_flyActs_13 : decode cX3_flyActs 13 = .ok (.iload_n 2, 1) := by decide +kernel
theorem dX3_flyActs_14 : decode cX3_flyActs 14 = .ok (.aload_n 1, 1) := by decide +kernel
theorem dX3_flyActs_15 : decode cX3_flyActs 15 = .ok (.getfield 163, 3) := by decide +kernel
theorem dX3_flyActs_18 : decode cX3_flyActs 18 = .ok (.if_icmp .ge 34, 3) := by decide +kernel
theorem dX3_flyActs_21 : decode cX3_flyActs 21 = .ok (.aload_n 0, 1) := by decide +kernel
theorem dX3_flyActs_22 : decode cX3_flyActs 22 = .ok (.getfield 35, 3) := by decide +kernel
theorem dX3_flyActs_25 : decode cX3_flyActs 25 = .ok (.aload_n 0, 1) := by decide +kernel
theorem dX3_flyActs_26 : decode cX3_flyActs 26 = .ok (.getfield 35, 3) := by decide +kernel
theorem dX3_flyActs_29 : decode cX3_flyActs 29 = .ok (.aload_n 1, 1) := by decide +kernel
theorem dX3_flyActs_30 : decode cX3_flyActs 30 = .ok (.iload_n 2, 1) := by decide +kernel
theorem dX3_flyActs_31 : decode cX3_flyActs 31 = .ok (.invokevirtual 168, 3) := by decide +kernel
theorem dX3_flyActs_34 : decode cX3_flyActs 34 = .ok (.iconst 3, 1) := by decide +kernel
theorem dX3_flyActs_35 : decode cX3_flyActs 35 = .ok (.irem, 1) := by decide +kernel
theorem dX3_flyActs_36 : decode cX3_flyActs 36 = .ok (.invokevirtual 171, 3) := by decide +kernel
theorem dX3_flyActs_39 : decode cX3_flyActs 39 = .ok (.aload_n 0, 1) := by decide +kernel
theorem dX3_flyActs_40 : decode cX3_flyActs 40 = .ok (.getfield 12, 3) := by decide +kernel
theorem dX3_flyActs_43 : decode cX3_flyActs 43 = .ok (.invokevirtual 94, 3) := by decide +kernel
theorem dX3_flyActs_46 : decode cX3_flyActs 46 = .ok (.iinc 2 1, 3) := by decide +kernel
theorem dX3_flyActs_49 : decode cX3_flyActs 49 = .ok (.goto (-36), 3) := by decide +kernel
theorem dX3_flyActs_52 : decode cX3_flyActs 52 = .ok (.return_, 1) := by decide +kernel
theorem dX3_flyByLot_0 : decode cX3_flyByLot 0 = .ok (.aload_n 0, 1) := by decide +kernel
theorem dX3_flyByLot_1 : decode cX3_flyByLot 1 = .ok (.iconst 0, 1) := by decide +kernel
theorem dX3_flyByLot_2 : decode cX3_flyByLot 2 = .ok (.putfield 174, 3) := by decide +kernel
theorem dX3_flyByLot_5 : decode cX3_flyByLot 5 = .ok (.aload_n 0, 1) := by decide +kernel
theorem dX3_flyByLot_6 : decode cX3_flyByLot 6 = .ok (.iconst 0, 1) := by decide +kernel
theorem dX3_flyByLot_7 : decode cX3_flyByLot 7 = .ok (.putfield 177, 3) := by decide +kernel
theorem dX3_flyByLot_10 : decode cX3_flyByLot 10 = .ok (.iload_n 2, 1) := by decide +kernel
theorem dX3_flyByLot_11 : decode cX3_flyByLot 11 = .ok (.istore_n 3, 1) := by decide +kernel
theorem dX3_flyByLot_12 : decode cX3_flyByLot 12 = .ok (.iconst 0, 1) := by decide +kernel
theorem dX3_flyByLot_13 : decode cX3_flyByLot 13 = .ok (.istore 4, 2) := by decide +kernel
theorem dX3_flyByLot_15 : decode cX3_flyByLot 15 = .ok (.iload 4, 2) := by decide +kernel
theorem dX3_flyByLot_17 : decode cX3_flyByLot 17 = .ok (.iload_n 1, 1) := by decide +kernel
theorem dX3_flyByLot_18 : decode cX3_flyByLot 18 = .ok (.if_icmp .ge 83, 3) := by decide +kernel
theorem dX3_flyByLot_21 : decode cX3_flyByLot 21 = .ok (.aload_n 0, 1) := by decide +kernel
theorem dX3_flyByLot_22 : decode cX3_flyByLot 22 = .ok (.iload_n 3, 1) := by decide +kernel
theorem dX3_flyByLot_23 : decode cX3_flyByLot 23 = .ok (.invokevirtual 180, 3) := by decide +kernel
theorem dX3_flyByLot_26 : decode cX3_flyByLot 26 = .ok (.istore_n 3, 1) := by decide +kernel
theorem dX3_flyByLot_27 : decode cX3_flyByLot 27 = .ok (.aload_n 0, 1) := by decide +kernel
theorem dX3_flyByLot_28 : decode cX3_flyByLot 28 = .ok (.getfield 35, 3) := by decide +kernel
theorem dX3_flyByLot_31 : decode cX3_flyByLot 31 = .ok (.getfield 79, 3) := by decide +kernel
theorem dX3_flyByLot_34 : decode cX3_flyByLot 34 = .ok (.ifCond .ne 7, 3) := by decide +kernel
theorem dX3_flyByLot_37 : decode cX3_flyByLot 37 = .ok (.iconst 1, 1) := by decide +kernel
theorem dX3_flyByLot_38 : decode cX3_flyByLot 38 = .ok (.goto 4, 3) := by decide +kernel
theorem dX3_flyByLot_41 : decode cX3_flyByLot 41 = .ok (.iconst 0, 1) := by decide +kernel
theorem dX3_flyByLot_42 : decode cX3_flyByLot 42 = .ok (.istore 5, 2) := by decide +kernel
theorem dX3_flyByLot_44 : decode cX3_flyByLot 44 = .ok (.aload_n 0, 1) := by decide +kernel
theorem dX3_flyByLot_45 : decode cX3_flyByLot 45 = .ok (.dup, 1) := by decide +kernel
theorem dX3_flyByLot_46 : decode cX3_flyByLot 46 = .ok (.getfield 177, 3) := by decide +kernel
theorem dX3_flyByLot_49 : decode cX3_flyByLot 49 = .ok (.iload 5, 2) := by decide +kernel
theorem dX3_flyByLot_51 : decode cX3_flyByLot 51 = .ok (.ifCond .eq 10, 3) := by decide +kernel
theorem dX3_flyByLot_54 : decode cX3_flyByLot 54 = .ok (.aload_n 0, 1) := by decide +kernel
theorem dX3_flyByLot_55 : decode cX3_flyByLot 55 = .ok (.invokevirtual 143, 3) := by decide +kernel
theorem dX3_flyByLot_58 : decode cX3_flyByLot 58 = .ok (.goto 5, 3) := by decide +kernel
theorem dX3_flyByLot_61 : decode cX3_flyByLot 61 = .ok (.bipush 40, 2) := by decide +kernel
theorem dX3_flyByLot_63 : decode cX3_flyByLot 63 = .ok (.iadd, 1) := by decide +kernel
theorem dX3_flyByLot_64 : decode cX3_flyByLot 64 = .ok (.putfield 177, 3) := by decide +kernel
theorem dX3_flyByLot_67 : decode cX3_flyByLot 67 = .ok (.aload_n 0, 1) := by decide +kernel
theorem dX3_flyByLot_68 : decode cX3_flyByLot 68 = .ok (.dup, 1) := by decide +kernel
theorem dX3_flyByLot_69 : decode cX3_flyByLot 69 = .ok (.getfield 174, 3) := by decide +kernel
theorem dX3_flyByLot_72 : decode cX3_flyByLot 72 = .ok (.iload 5, 2) := by decide +kernel
theorem dX3_flyByLot_74 : decode cX3_flyByLot 74 = .ok (.ifCond .eq 16, 3) := by decide +kernel
theorem dX3_flyByLot_77 : decode cX3_flyByLot 77 = .ok (.aload_n 0, 1) := by decide +kernel
theorem dX3_flyByLot_78 : decode cX3_flyByLot 78 = .ok (.invokevirtual 114, 3) := by decide +kernel
theorem dX3_flyByLot_81 : decode cX3_flyByLot 81 = .ok (.bipush (-9), 2) := by decide +kernel
theorem dX3_flyByLot_83 : decode cX3_flyByLot 83 = .ok (.if_icmp .eq 7, 3) := by decide +kernel
theorem dX3_flyByLot_86 : decode cX3_flyByLot 86 = .ok (.iconst 1, 1) := by decide +kernel
theorem dX3_flyByLot_87 : decode cX3_flyByLot 87 = .ok (.goto 4, 3) := by decide +kernel
theorem dX3_flyByLot_90 : decode cX3_flyByLot 90 = .ok (.iconst 0, 1) := by decide +kernel
theorem dX3_flyByLot_91 : decode cX3_flyByLot 91 = .ok (.iadd, 1) := by decide +kernel
theorem dX3_flyByLot_92 : decode cX3_flyByLot 92 = .ok (.putfield 174, 3) := by decide +kernel
theorem dX3_flyByLot_95 : decode cX3_flyByLot 95 = .ok (.iinc 4 1, 3) := by decide +kernel
theorem dX3_flyByLot_98 : decode cX3_flyByLot 98 = .ok (.goto (-83), 3) := by decide +kernel
theorem dX3_flyByLot_101 : decode cX3_flyByLot 101 = .ok (.return_, 1) := by decide +kernel
theorem dX3_flyOneByLot_0 : decode cX3_flyOneByLot 0 = .ok (.iload_n 1, 1) := by decide +kernel
theorem dX3_flyOneByLot_1 : decode cX3_flyOneByLot 1 = .ok (.istore_n 2, 1) := by decide +kernel
theorem dX3_flyOneByLot_2 : decode cX3_flyOneByLot 2 = .ok (.aload_n 0, 1) := by decide +kernel
theorem dX3_flyOneByLot_3 : decode cX3_flyOneByLot 3 = .ok (.getfield 35, 3) := by decide +kernel
theorem dX3_flyOneByLot_6 : decode cX3_flyOneByLot 6 = .ok (.aload_n 0, 1) := by decide +kernel
theorem dX3_flyOneByLot_7 : decode cX3_flyOneByLot 7 = .ok (.getfield 28, 3) := by decide +kernel
theorem dX3_flyOneByLot_10 : decode cX3_flyOneByLot 10 = .ok (.invokevirtual 56, 3) := by decide +kernel
theorem dX3_flyOneByLot_13 : decode cX3_flyOneByLot 13 = .ok (.iconst 0, 1) := by decide +kernel
theorem dX3_flyOneByLot_14 : decode cX3_flyOneByLot 14 = .ok (.istore_n 3, 1) := by decide +kernel
theorem dX3_flyOneByLot_15 : decode cX3_flyOneByLot 15 = .ok (.iconst 0, 1) := by decide +kernel
theorem dX3_flyOneByLot_16 : decode cX3_flyOneByLot 16 = .ok (.istore 4, 2) := by decide +kernel
theorem dX3_flyOneByLot_18 : decode cX3_flyOneByLot 18 = .ok (.iload 4, 2) := by decide +kernel
theorem dX3_flyOneByLot_20 : decode cX3_flyOneByLot 20 = .ok (.bipush 40, 2) := by decide +kernel
theorem dX3_flyOneByLot_22 : decode cX3_flyOneByLot 22 = .ok (.if_icmp .ge 69, 3) := by decide +kernel
theorem dX3_flyOneByLot_25 : decode cX3_flyOneByLot 25 = .ok (.iload_n 3, 1) := by decide +kernel
theorem dX3_flyOneByLot_26 : decode cX3_flyOneByLot 26 = .ok (.ifCond .ne 65, 3) := by decide +kernel
theorem dX3_flyOneByLot_29 : decode cX3_flyOneByLot 29 = .ok (.iload_n 2, 1) := by decide +kernel
theorem dX3_flyOneByLot_30 : decode cX3_flyOneByLot 30 = .ok (.ldc 183, 2) := by decide +kernel
theorem dX3_flyOneByLot_32 : decode cX3_flyOneByLot 32 = .ok (.imul, 1) := by decide +kernel
theorem dX3_flyOneByLot_33 : decode cX3_flyOneByLot 33 = .ok (.sipush 12345, 3) := by decide +kernel
theorem dX3_flyOneByLot_36 : decode cX3_flyOneByLot 36 = .ok (.iadd, 1) := by decide +kernel
theorem dX3_flyOneByLot_37 : decode cX3_flyOneByLot 37 = .ok (.istore_n 2, 1) := by decide +kernel
theorem dX3_flyOneByLot_38 : decode cX3_flyOneByLot 38 = .ok (.iload_n 2, 1) := by decide +kernel
theorem dX3_flyOneByLot_39 : decode cX3_flyOneByLot 39 = .ok (.ldc 184, 2) := by decide +kernel
theorem dX3_flyOneByLot_41 : decode cX3_flyOneByLot 41 = .ok (.iand, 1) := by decide +kernel
theorem dX3_flyOneByLot_42 : decode cX3_flyOneByLot 42 = .ok (.ldc 185, 2) := by decide +kernel
theorem dX3_flyOneByLot_44 : decode cX3_flyOneByLot 44 = .ok (.idiv, 1) := by decide +kernel
theorem dX3_flyOneByLot_45 : decode cX3_flyOneByLot 45 = .ok (.iconst 3, 1) := by decide +kernel
theorem dX3_flyOneByLot_46 : decode cX3_flyOneByLot 46 = .ok (.irem, 1) := by decide +kernel
theorem dX3_flyOneByLot_47 : decode cX3_flyOneByLot 47 = .ok (.istore 5, 2) := by decide +kernel
theorem dX3_flyOneByLot_49 : decode cX3_flyOneByLot 49 = .ok (.aload_n 0, 1) := by decide +kernel
theorem dX3_flyOneByLot_50 : decode cX3_flyOneByLot 50 = .ok (.getfield 35, 3) := by decide +kernel
theorem dX3_flyOneByLot_53 : decode cX3_flyOneByLot 53 = .ok (.aload_n 0, 1) := by decide +kernel
theorem dX3_flyOneByLot_54 : decode cX3_flyOneByLot 54 = .ok (.getfield 35, 3) := by decide +kernel
theorem dX3_flyOneByLot_57 : decode cX3_flyOneByLot 57 = .ok (.iload 5, 2) := by decide +kernel
theorem dX3_flyOneByLot_59 : decode cX3_flyOneByLot 59 = .ok (.invokevirtual 171, 3) := by decide +kernel
theorem dX3_flyOneByLot_62 : decode cX3_flyOneByLot 62 = .ok (.aload_n 0, 1) := by decide +kernel
theorem dX3_flyOneByLot_63 : decode cX3_flyOneByLot 63 = .ok (.getfield 12, 3) := by decide +kernel
theorem dX3_flyOneByLot_66 : decode cX3_flyOneByLot 66 = .ok (.invokevirtual 94, 3) := by decide +kernel
theorem dX3_flyOneByLot_69 : decode cX3_flyOneByLot 69 = .ok (.aload_n 0, 1) := by decide +kernel
theorem dX3_flyOneByLot_70 : decode cX3_flyOneByLot 70 = .ok (.getfield 35, 3) := by decide +kernel
theorem dX3_flyOneByLot_73 : decode cX3_flyOneByLot 73 = .ok (.getfield 79, 3) := by decide +kernel
theorem dX3_flyOneByLot_76 : decode cX3_flyOneByLot 76 = .ok (.ifCond .ne 7, 3) := by decide +kernel
theorem dX3_flyOneByLot_79 : decode cX3_flyOneByLot 79 = .ok (.iconst 1, 1) := by decide +kernel
theorem dX3_flyOneByLot_80 : decode cX3_flyOneByLot 80 = .ok (.goto 4, 3) := by decide +kernel
theorem dX3_flyOneByLot_83 : decode cX3_flyOneByLot 83 = .ok (.iconst 0, 1) := by decide +kernel
theorem dX3_flyOneByLot_84 : decode cX3_flyOneByLot 84 = .ok (.istore_n 3, 1) := by decide +kernel
theorem dX3_flyOneByLot_85 : decode cX3_flyOneByLot 85 = .ok (.iinc 4 1, 3) := by decide +kernel
theorem dX3_flyOneByLot_88 : decode cX3_flyOneByLot 88 = .ok (.goto (-70), 3) := by decide +kernel
theorem dX3_flyOneByLot_91 : decode cX3_flyOneByLot 91 = .ok (.iload_n 2, 1) := by decide +kernel
theorem dX3_flyOneByLot_92 : decode cX3_flyOneByLot 92 = .ok (.ireturn, 1) := by decide +kernel
theorem dX3_climbAll_0 : decode cX3_climbAll 0 = .ok (.aload_n 0, 1) := by decide +kernel
theorem dX3_climbAll_1 : decode cX3_climbAll 1 = .ok (.getfield 35, 3) := by decide +kernel
theorem dX3_climbAll_4 : decode cX3_climbAll 4 = .ok (.aload_n 0, 1) := by decide +kernel
theorem dX3_climbAll_5 : decode cX3_climbAll 5 = .ok (.getfield 28, 3) := by decide +kernel
theorem dX3_climbAll_8 : decode cX3_climbAll 8 = .ok (.invokevirtual 56, 3) := by decide +kernel
theorem dX3_climbAll_11 : decode cX3_climbAll 11 = .ok (.aload_n 0, 1) := by decide +kernel
theorem dX3_climbAll_12 : decode cX3_climbAll 12 = .ok (.aload_n 0, 1) := by decide +kernel
theorem dX3_climbAll_13 : decode cX3_climbAll 13 = .ok (.getfield 35, 3) := by decide +kernel
theorem dX3_climbAll_16 : decode cX3_climbAll 16 = .ok (.getfield 79, 3) := by decide +kernel
theorem dX3_climbAll_19 : decode cX3_climbAll 19 = .ok (.putfield 186, 3) := by decide +kernel
theorem dX3_climbAll_22 : decode cX3_climbAll 22 = .ok (.aload_n 0, 1) := by decide +kernel
theorem dX3_climbAll_23 : decode cX3_climbAll 23 = .ok (.iconst 0, 1) := by decide +kernel
theorem dX3_climbAll_24 : decode cX3_climbAll 24 = .ok (.putfield 189, 3) := by decide +kernel
theorem dX3_climbAll_27 : decode cX3_climbAll 27 = .ok (.iconst 1, 1) := by decide +kernel
theorem dX3_climbAll_28 : decode cX3_climbAll 28 = .ok (.istore_n 1, 1) := by decide +kernel
theorem dX3_climbAll_29 : decode cX3_climbAll 29 = .ok (.iload_n 1, 1) := by decide +kernel
theorem dX3_climbAll_30 : decode cX3_climbAll 30 = .ok (.bipush 60, 2) := by decide +kernel
theorem dX3_climbAll_32 : decode cX3_climbAll 32 = .ok (.if_icmp .gt 58, 3) := by decide +kernel
theorem dX3_climbAll_35 : decode cX3_climbAll 35 = .ok (.aload_n 0, 1) := by decide +kernel
theorem dX3_climbAll_36 : decode cX3_climbAll 36 = .ok (.getfield 35, 3) := by decide +kernel
theorem dX3_climbAll_39 : decode cX3_climbAll 39 = .ok (.aload_n 0, 1) := by decide +kernel
theorem dX3_climbAll_40 : decode cX3_climbAll 40 = .ok (.getfield 35, 3) := by decide +kernel
theorem dX3_climbAll_43 : decode cX3_climbAll 43 = .ok (.iconst 1, 1) := by decide +kernel
theorem dX3_climbAll_44 : decode cX3_climbAll 44 = .ok (.invokevirtual 171, 3) := by decide +kernel
theorem dX3_climbAll_47 : decode cX3_climbAll 47 = .ok (.aload_n 0, 1) := by decide +kernel
theorem dX3_climbAll_48 : decode cX3_climbAll 48 = .ok (.getfield 12, 3) := by decide +kernel
theorem dX3_climbAll_51 : decode cX3_climbAll 51 = .ok (.invokevirtual 94, 3) := by decide +kernel
theorem dX3_climbAll_54 : decode cX3_climbAll 54 = .ok (.aload_n 0, 1) := by decide +kernel
theorem dX3_climbAll_55 : decode cX3_climbAll 55 = .ok (.getfield 35, 3) := by decide +kernel
theorem dX3_climbAll_58 : decode cX3_climbAll 58 = .ok (.getfield 79, 3) := by decide +kernel
theorem dX3_climbAll_61 : decode cX3_climbAll 61 = .ok (.aload_n 0, 1) := by decide +kernel
theorem dX3_climbAll_62 : decode cX3_climbAll 62 = .ok (.getfield 186, 3) := by decide +kernel
theorem dX3_climbAll_65 : decode cX3_climbAll 65 = .ok (.if_icmp .le 19, 3) := by decide +kernel
theorem dX3_climbAll_68 : decode cX3_climbAll 68 = .ok (.aload_n 0, 1) := by decide +kernel
theorem dX3_climbAll_69 : decode cX3_climbAll 69 = .ok (.aload_n 0, 1) := by decide +kernel
theorem dX3_climbAll_70 : decode cX3_climbAll 70 = .ok (.getfield 35, 3) := by decide +kernel
theorem dX3_climbAll_73 : decode cX3_climbAll 73 = .ok (.getfield 79, 3) := by decide +kernel
theorem dX3_climbAll_76 : decode cX3_climbAll 76 = .ok (.putfield 186, 3) := by decide +kernel
theorem dX3_climbAll_79 : decode cX3_climbAll 79 = .ok (.aload_n 0, 1) := by decide +kernel
theorem dX3_climbAll_80 : decode cX3_climbAll 80 = .ok (.iload_n 1, 1) := by decide +kernel
theorem dX3_climbAll_81 : decode cX3_climbAll 81 = .ok (.putfield 189, 3) := by decide +kernel
theorem dX3_climbAll_84 : decode cX3_climbAll 84 = .ok (.iinc 1 1, 3) := by decide +kernel
theorem dX3_climbAll_87 : decode cX3_climbAll 87 = .ok (.goto (-58), 3) := by decide +kernel
theorem dX3_climbAll_90 : decode cX3_climbAll 90 = .ok (.return_, 1) := by decide +kernel
theorem dX3_playGame_0 : decode cX3_playGame 0 = .ok (.iconst 0, 1) := by decide +kernel
theorem dX3_playGame_1 : decode cX3_playGame 1 = .ok (.istore_n 1, 1) := by decide +kernel
theorem dX3_playGame_2 : decode cX3_playGame 2 = .ok (.iload_n 1, 1) := by decide +kernel
theorem dX3_playGame_3 : decode cX3_playGame 3 = .ok (.iconst 2, 1) := by decide +kernel
theorem dX3_playGame_4 : decode cX3_playGame 4 = .ok (.if_icmp .ge 63, 3) := by decide +kernel
theorem dX3_playGame_7 : decode cX3_playGame 7 = .ok (.iconst 0, 1) := by decide +kernel
theorem dX3_playGame_8 : decode cX3_playGame 8 = .ok (.istore_n 2, 1) := by decide +kernel
theorem dX3_playGame_9 : decode cX3_playGame 9 = .ok (.iload_n 2, 1) := by decide +kernel
theorem dX3_playGame_10 : decode cX3_playGame 10 = .ok (.iconst 3, 1) := by decide +kernel
theorem dX3_playGame_11 : decode cX3_playGame 11 = .ok (.if_icmp .ge 39, 3) := by decide +kernel
theorem dX3_playGame_14 : decode cX3_playGame 14 = .ok (.aload_n 0, 1) := by decide +kernel
theorem dX3_playGame_15 : decode cX3_playGame 15 = .ok (.getfield 38, 3) := by decide +kernel
theorem dX3_playGame_18 : decode cX3_playGame 18 = .ok (.iload_n 2, 1) := by decide +kernel
theorem dX3_playGame_19 : decode cX3_playGame 19 = .ok (.iconst 2, 1) := by decide +kernel
theorem dX3_playGame_20 : decode cX3_playGame 20 = .ok (.imul, 1) := by decide +kernel
theorem dX3_playGame_21 : decode cX3_playGame 21 = .ok (.iload_n 1, 1) := by decide +kernel
theorem dX3_playGame_22 : decode cX3_playGame 22 = .ok (.iadd, 1) := by decide +kernel
theorem dX3_playGame_23 : decode cX3_playGame 23 = .ok (.aload_n 0, 1) := by decide +kernel
theorem dX3_playGame_24 : decode cX3_playGame 24 = .ok (.iconst 5, 1) := by decide +kernel
theorem dX3_playGame_25 : decode cX3_playGame 25 = .ok (.iload_n 2, 1) := by decide +kernel
theorem dX3_playGame_26 : decode cX3_playGame 26 = .ok (.imul, 1) := by decide +kernel
theorem dX3_playGame_27 : decode cX3_playGame 27 = .ok (.iconst 1, 1) := by decide +kernel
theorem dX3_playGame_28 : decode cX3_playGame 28 = .ok (.invokevirtual 124, 3) := by decide +kernel
theorem dX3_playGame_31 : decode cX3_playGame 31 = .ok (.ifCond .eq 10, 3) := by decide +kernel
theorem dX3_playGame_34 : decode cX3_playGame 34 = .ok (.aload_n 0, 1) := by decide +kernel
theorem dX3_playGame_35 : decode cX3_playGame 35 = .ok (.invokevirtual 143, 3) := by decide +kernel
theorem dX3_playGame_38 : decode cX3_playGame 38 = .ok (.goto 5, 3) := by decide +kernel
theorem dX3_playGame_41 : decode cX3_playGame 41 = .ok (.bipush 40, 2) := by decide +kernel
theorem dX3_playGame_43 : decode cX3_playGame 43 = .ok (.iastore, 1) := by decide +kernel
theorem dX3_playGame_44 : decode cX3_playGame 44 = .ok (.iinc 2 1, 3) := by decide +kernel
theorem dX3_playGame_47 : decode cX3_playGame 47 = .ok (.goto (-38), 3) := by decide +kernel
theorem dX3_playGame_50 : decode cX3_playGame 50 = .ok (.aload_n 0, 1) := by decide +kernel
theorem dX3_playGame_51 : decode cX3_playGame 51 = .ok (.getfield 12, 3) := by decide +kernel
theorem dX3_playGame_54 : decode cX3_playGame 54 = .ok (.invokevirtual 192, 3) := by decide +kernel
theorem dX3_playGame_57 : decode cX3_playGame 57 = .ok (.aload_n 0, 1) := by decide +kernel
theorem dX3_playGame_58 : decode cX3_playGame 58 = .ok (.invokevirtual 59, 3) := by decide +kernel
theorem dX3_playGame_61 : decode cX3_playGame 61 = .ok (.iinc 1 1, 3) := by decide +kernel
theorem dX3_playGame_64 : decode cX3_playGame 64 = .ok (.goto (-62), 3) := by decide +kernel
theorem dX3_playGame_67 : decode cX3_playGame 67 = .ok (.return_, 1) := by decide +kernel
theorem dX3_lossBy_0 : decode cX3_lossBy 0 = .ok (.iload_n 1, 1) := by decide +kernel
theorem dX3_lossBy_1 : decode cX3_lossBy 1 = .ok (.ifCond .lt 30, 3) := by decide +kernel
theorem dX3_lossBy_4 : decode cX3_lossBy 4 = .ok (.iload_n 1, 1) := by decide +kernel
theorem dX3_lossBy_5 : decode cX3_lossBy 5 = .ok (.iconst 3, 1) := by decide +kernel
theorem dX3_lossBy_6 : decode cX3_lossBy 6 = .ok (.if_icmp .ge 25, 3) := by decide +kernel
theorem dX3_lossBy_9 : decode cX3_lossBy 9 = .ok (.iload_n 2, 1) := by decide +kernel
theorem dX3_lossBy_10 : decode cX3_lossBy 10 = .ok (.ifCond .lt 21, 3) := by decide +kernel
theorem dX3_lossBy_13 : decode cX3_lossBy 13 = .ok (.iload_n 2, 1) := by decide +kernel
theorem dX3_lossBy_14 : decode cX3_lossBy 14 = .ok (.iconst 2, 1) := by decide +kernel
theorem dX3_lossBy_15 : decode cX3_lossBy 15 = .ok (.if_icmp .ge 16, 3) := by decide +kernel
theorem dX3_lossBy_18 : decode cX3_lossBy 18 = .ok (.aload_n 0, 1) := by decide +kernel
theorem dX3_lossBy_19 : decode cX3_lossBy 19 = .ok (.getfield 38, 3) := by decide +kernel
theorem dX3_lossBy_22 : decode cX3_lossBy 22 = .ok (.iload_n 1, 1) := by decide +kernel
theorem dX3_lossBy_23 : decode cX3_lossBy 23 = .ok (.iconst 2, 1) := by decide +kernel
theorem dX3_lossBy_24 : decode cX3_lossBy 24 = .ok (.imul, 1) := by decide +kernel
theorem dX3_lossBy_25 : decode cX3_lossBy 25 = .ok (.iload_n 2, 1) := by decide +kernel
theorem dX3_lossBy_26 : decode cX3_lossBy 26 = .ok (.iadd, 1) := by decide +kernel
theorem dX3_lossBy_27 : decode cX3_lossBy 27 = .ok (.iaload, 1) := by decide +kernel
theorem dX3_lossBy_28 : decode cX3_lossBy 28 = .ok (.goto 5, 3) := by decide +kernel
theorem dX3_lossBy_31 : decode cX3_lossBy 31 = .ok (.bipush (-9), 2) := by decide +kernel
theorem dX3_lossBy_33 : decode cX3_lossBy 33 = .ok (.ireturn, 1) := by decide +kernel
theorem dX3_surestLoss_0 : decode cX3_surestLoss 0 = .ok (.aload_n 0, 1) := by decide +kernel
theorem dX3_surestLoss_1 : decode cX3_surestLoss 1 = .ok (.iconst 0, 1) := by decide +kernel
theorem dX3_surestLoss_2 : decode cX3_surestLoss 2 = .ok (.iconst 0, 1) := by decide +kernel
theorem dX3_surestLoss_3 : decode cX3_surestLoss 3 = .ok (.invokevirtual 195, 3) := by decide +kernel
theorem dX3_surestLoss_6 : decode cX3_surestLoss 6 = .ok (.aload_n 0, 1) := by decide +kernel
theorem dX3_surestLoss_7 : decode cX3_surestLoss 7 = .ok (.iconst 0, 1) := by decide +kernel
theorem dX3_surestLoss_8 : decode cX3_surestLoss 8 = .ok (.iconst 1, 1) := by decide +kernel
theorem dX3_surestLoss_9 : decode cX3_surestLoss 9 = .ok (.invokevirtual 195, 3) := by decide +kernel
theorem dX3_surestLoss_12 : decode cX3_surestLoss 12 = .ok (.invokestatic 160, 3) := by decide +kernel
theorem dX3_surestLoss_15 : decode cX3_surestLoss 15 = .ok (.istore_n 1, 1) := by decide +kernel
theorem dX3_surestLoss_16 : decode cX3_surestLoss 16 = .ok (.iconst 1, 1) := by decide +kernel
theorem dX3_surestLoss_17 : decode cX3_surestLoss 17 = .ok (.istore_n 2, 1) := by decide +kernel
theorem dX3_surestLoss_18 : decode cX3_surestLoss 18 = .ok (.iload_n 2, 1) := by decide +kernel
theorem dX3_surestLoss_19 : decode cX3_surestLoss 19 = .ok (.iconst 3, 1) := by decide +kernel
theorem dX3_surestLoss_20 : decode cX3_surestLoss 20 = .ok (.if_icmp .ge 29, 3) := by decide +kernel
theorem dX3_surestLoss_23 : decode cX3_surestLoss 23 = .ok (.iload_n 1, 1) := by decide +kernel
theorem dX3_surestLoss_24 : decode cX3_surestLoss 24 = .ok (.aload_n 0, 1) := by decide +kernel
theorem dX3_surestLoss_25 : decode cX3_surestLoss 25 = .ok (.iload_n 2, 1) := by decide +kernel
theorem dX3_surestLoss_26 : decode cX3_surestLoss 26 = .ok (.iconst 0, 1) := by decide +kernel
theorem dX3_surestLoss_27 : decode cX3_surestLoss 27 = .ok (.invokevirtual 195, 3) := by decide +kernel
theorem dX3_surestLoss_30 : decode cX3_surestLoss 30 = .ok (.aload_n 0, 1) := by decide +kernel
theorem dX3_surestLoss_31 : decode cX3_surestLoss 31 = .ok (.iload_n 2, 1) := by decide +kernel
theorem dX3_surestLoss_32 : decode cX3_surestLoss 32 = .ok (.iconst 1, 1) := by decide +kernel
theorem dX3_surestLoss_33 : decode cX3_surestLoss 33 = .ok (.invokevirtual 195, 3) := by decide +kernel
theorem dX3_surestLoss_36 : decode cX3_surestLoss 36 = .ok (.invokestatic 160, 3) := by decide +kernel
theorem dX3_surestLoss_39 : decode cX3_surestLoss 39 = .ok (.invokestatic 198, 3) := by decide +kernel
theorem dX3_surestLoss_42 : decode cX3_surestLoss 42 = .ok (.istore_n 1, 1) := by decide +kernel
theorem dX3_surestLoss_43 : decode cX3_surestLoss 43 = .ok (.iinc 2 1, 3) := by decide +kernel
theorem dX3_surestLoss_46 : decode cX3_surestLoss 46 = .ok (.goto (-28), 3) := by decide +kernel
theorem dX3_surestLoss_49 : decode cX3_surestLoss 49 = .ok (.iload_n 1, 1) := by decide +kernel
theorem dX3_surestLoss_50 : decode cX3_surestLoss 50 = .ok (.ireturn, 1) := by decide +kernel
theorem dX3_steadyPair_0 : decode cX3_steadyPair 0 = .ok (.iconst 0, 1) := by decide +kernel
theorem dX3_steadyPair_1 : decode cX3_steadyPair 1 = .ok (.istore_n 1, 1) := by decide +kernel
theorem dX3_steadyPair_2 : decode cX3_steadyPair 2 = .ok (.iload_n 1, 1) := by decide +kernel
theorem dX3_steadyPair_3 : decode cX3_steadyPair 3 = .ok (.iconst 3, 1) := by decide +kernel
theorem dX3_steadyPair_4 : decode cX3_steadyPair 4 = .ok (.if_icmp .ge 57, 3) := by decide +kernel
theorem dX3_steadyPair_7 : decode cX3_steadyPair 7 = .ok (.iconst 0, 1) := by decide +kernel
theorem dX3_steadyPair_8 : decode cX3_steadyPair 8 = .ok (.istore_n 2, 1) := by decide +kernel
theorem dX3_steadyPair_9 : decode cX3_steadyPair 9 = .ok (.iload_n 2, 1) := by decide +kernel
theorem dX3_steadyPair_10 : decode cX3_steadyPair 10 = .ok (.iconst 2, 1) := by decide +kernel
theorem dX3_steadyPair_11 : decode cX3_steadyPair 11 = .ok (.if_icmp .ge 44, 3) := by decide +kernel
theorem dX3_steadyPair_14 : decode cX3_steadyPair 14 = .ok (.aload_n 0, 1) := by decide +kernel
theorem dX3_steadyPair_15 : decode cX3_steadyPair 15 = .ok (.iload_n 1, 1) := by decide +kernel
theorem dX3_steadyPair_16 : decode cX3_steadyPair 16 = .ok (.iload_n 2, 1) := by decide +kernel
theorem dX3_steadyPair_17 : decode cX3_steadyPair 17 = .ok (.invokevirtual 195, 3) := by decide +kernel
theorem dX3_steadyPair_20 : decode cX3_steadyPair 20 = .ok (.istore_n 3, 1) := by decide +kernel
theorem dX3_steadyPair_21 : decode cX3_steadyPair 21 = .ok (.iload_n 3, 1) := by decide +kernel
theorem dX3_steadyPair_22 : decode cX3_steadyPair 22 = .ok (.aload_n 0, 1) := by decide +kernel
theorem dX3_steadyPair_23 : decode cX3_steadyPair 23 = .ok (.iload_n 1, 1) := by decide +kernel
theorem dX3_steadyPair_24 : decode cX3_steadyPair 24 = .ok (.iconst 1, 1) := by decide +kernel
theorem dX3_steadyPair_25 : decode cX3_steadyPair 25 = .ok (.iload_n 2, 1) := by decide +kernel
theorem dX3_steadyPair_26 : decode cX3_steadyPair 26 = .ok (.isub, 1) := by decide +kernel
theorem dX3_steadyPair_27 : decode cX3_steadyPair 27 = .ok (.invokevirtual 195, 3) := by decide +kernel
theorem dX3_steadyPair_30 : decode cX3_steadyPair 30 = .ok (.if_icmp .lt 19, 3) := by decide +kernel
theorem dX3_steadyPair_33 : decode cX3_steadyPair 33 = .ok (.iload_n 3, 1) := by decide +kernel
theorem dX3_steadyPair_34 : decode cX3_steadyPair 34 = .ok (.aload_n 0, 1) := by decide +kernel
theorem dX3_steadyPair_35 : decode cX3_steadyPair 35 = .ok (.iload_n 2, 1) := by decide +kernel
theorem dX3_steadyPair_36 : decode cX3_steadyPair 36 = .ok (.invokevirtual 201, 3) := by decide +kernel
theorem dX3_steadyPair_39 : decode cX3_steadyPair 39 = .ok (.if_icmp .gt 10, 3) := by decide +kernel
theorem dX3_steadyPair_42 : decode cX3_steadyPair 42 = .ok (.bipush 10, 2) := by decide +kernel
theorem dX3_steadyPair_44 : decode cX3_steadyPair 44 = .ok (.iload_n 1, 1) := by decide +kernel
theorem dX3_steadyPair_45 : decode cX3_steadyPair 45 = .ok (.imul, 1) := by decide +kernel
theorem dX3_steadyPair_46 : decode cX3_steadyPair 46 = .ok (.iload_n 2, 1) := by decide +kernel
theorem dX3_steadyPair_47 : decode cX3_steadyPair 47 = .ok (.iadd, 1) := by decide +kernel
theorem dX3_steadyPair_48 : decode cX3_steadyPair 48 = .ok (.ireturn, 1) := by decide +kernel
theorem dX3_steadyPair_49 : decode cX3_steadyPair 49 = .ok (.iinc 2 1, 3) := by decide +kernel
theorem dX3_steadyPair_52 : decode cX3_steadyPair 52 = .ok (.goto (-43), 3) := by decide +kernel
theorem dX3_steadyPair_55 : decode cX3_steadyPair 55 = .ok (.iinc 1 1, 3) := by decide +kernel
theorem dX3_steadyPair_58 : decode cX3_steadyPair 58 = .ok (.goto (-56), 3) := by decide +kernel
theorem dX3_steadyPair_61 : decode cX3_steadyPair 61 = .ok (.bipush (-9), 2) := by decide +kernel
theorem dX3_steadyPair_63 : decode cX3_steadyPair 63 = .ok (.ireturn, 1) := by decide +kernel
theorem dX3_leastLossIf_0 : decode cX3_leastLossIf 0 = .ok (.aload_n 0, 1) := by decide +kernel
theorem dX3_leastLossIf_1 : decode cX3_leastLossIf 1 = .ok (.iconst 0, 1) := by decide +kernel
theorem dX3_leastLossIf_2 : decode cX3_leastLossIf 2 = .ok (.iload_n 1, 1) := by decide +kernel
theorem dX3_leastLossIf_3 : decode cX3_leastLossIf 3 = .ok (.invokevirtual 195, 3) := by decide +kernel
theorem dX3_leastLossIf_6 : decode cX3_leastLossIf 6 = .ok (.istore_n 2, 1) := by decide +kernel
theorem dX3_leastLossIf_7 : decode cX3_leastLossIf 7 = .ok (.iconst 1, 1) := by decide +kernel
theorem dX3_leastLossIf_8 : decode cX3_leastLossIf 8 = .ok (.istore_n 3, 1) := by decide +kernel
theorem dX3_leastLossIf_9 : decode cX3_leastLossIf 9 = .ok (.iload_n 3, 1) := by decide +kernel
theorem dX3_leastLossIf_10 : decode cX3_leastLossIf 10 = .ok (.iconst 3, 1) := by decide +kernel
theorem dX3_leastLossIf_11 : decode cX3_leastLossIf 11 = .ok (.if_icmp .ge 20, 3) := by decide +kernel
theorem dX3_leastLossIf_14 : decode cX3_leastLossIf 14 = .ok (.iload_n 2, 1) := by decide +kernel
theorem dX3_leastLossIf_15 : decode cX3_leastLossIf 15 = .ok (.aload_n 0, 1) := by decide +kernel
theorem dX3_leastLossIf_16 : decode cX3_leastLossIf 16 = .ok (.iload_n 3, 1) := by decide +kernel
theorem dX3_leastLossIf_17 : decode cX3_leastLossIf 17 = .ok (.iload_n 1, 1) := by decide +kernel
theorem dX3_leastLossIf_18 : decode cX3_leastLossIf 18 = .ok (.invokevirtual 195, 3) := by decide +kernel
theorem dX3_leastLossIf_21 : decode cX3_leastLossIf 21 = .ok (.invokestatic 198, 3) := by decide +kernel
theorem dX3_leastLossIf_24 : decode cX3_leastLossIf 24 = .ok (.istore_n 2, 1) := by decide +kernel
theorem dX3_leastLossIf_25 : decode cX3_leastLossIf 25 = .ok (.iinc 3 1, 3) := by decide +kernel
theorem dX3_leastLossIf_28 : decode cX3_leastLossIf 28 = .ok (.goto (-19), 3) := by decide +kernel
theorem dX3_leastLossIf_31 : decode cX3_leastLossIf 31 = .ok (.iload_n 2, 1) := by decide +kernel
theorem dX3_leastLossIf_32 : decode cX3_leastLossIf 32 = .ok (.ireturn, 1) := by decide +kernel
theorem dX4_init_0 : decode cX4_init 0 = .ok (.aload_n 0, 1) := by decide +kernel
theorem dX4_init_1 : decode cX4_init 1 = .ok (.invokespecial 3, 3) := by decide +kernel
theorem dX4_init_4 : decode cX4_init 4 = .ok (.aload_n 0, 1) := by decide +kernel
theorem dX4_init_5 : decode cX4_init 5 = .ok (.bipush 8, 2) := by decide +kernel
theorem dX4_init_7 : decode cX4_init 7 = .ok (.anewarray 9, 3) := by decide +kernel
theorem dX4_init_10 : decode cX4_init 10 = .ok (.putfield 11, 3) := by decide +kernel
theorem dX4_init_13 : decode cX4_init 13 = .ok (.iconst 0, 1) := by decide +kernel
theorem dX4_init_14 : decode cX4_init 14 = .ok (.istore_n 1, 1) := by decide +kernel
theorem dX4_init_15 : decode cX4_init 15 = .ok (.iload_n 1, 1) := by decide +kernel
theorem dX4_init_16 : decode cX4_init 16 = .ok (.bipush 8, 2) := by decide +kernel
theorem dX4_init_18 : decode cX4_init 18 = .ok (.if_icmp .ge 22, 3) := by decide +kernel
theorem dX4_init_21 : decode cX4_init 21 = .ok (.aload_n 0, 1) := by decide +kernel
theorem dX4_init_22 : decode cX4_init 22 = .ok (.getfield 11, 3) := by decide +kernel
theorem dX4_init_25 : decode cX4_init 25 = .ok (.iload_n 1, 1) := by decide +kernel
theorem dX4_init_26 : decode cX4_init 26 = .ok (.new 9, 3) := by decide +kernel
theorem dX4_init_29 : decode cX4_init 29 = .ok (.dup, 1) := by decide +kernel
theorem dX4_init_30 : decode cX4_init 30 = .ok (.invokespecial 17, 3) := by decide +kernel
theorem dX4_init_33 : decode cX4_init 33 = .ok (.aastore, 1) := by decide +kernel
theorem dX4_init_34 : decode cX4_init 34 = .ok (.iinc 1 1, 3) := by decide +kernel
theorem dX4_init_37 : decode cX4_init 37 = .ok (.goto (-22), 3) := by decide +kernel
theorem dX4_init_40 : decode cX4_init 40 = .ok (.return_, 1) := by decide +kernel
theorem dX4_add_0 : decode cX4_add 0 = .ok (.aload_n 0, 1) := by decide +kernel
theorem dX4_add_1 : decode cX4_add 1 = .ok (.aload_n 0, 1) := by decide +kernel
theorem dX4_add_2 : decode cX4_add 2 = .ok (.getfield 18, 3) := by decide +kernel
theorem dX4_add_5 : decode cX4_add 5 = .ok (.iconst 1, 1) := by decide +kernel
theorem dX4_add_6 : decode cX4_add 6 = .ok (.iadd, 1) := by decide +kernel
theorem dX4_add_7 : decode cX4_add 7 = .ok (.bipush 8, 2) := by decide +kernel
theorem dX4_add_9 : decode cX4_add 9 = .ok (.irem, 1) := by decide +kernel
theorem dX4_add_10 : decode cX4_add 10 = .ok (.putfield 18, 3) := by decide +kernel
theorem dX4_add_13 : decode cX4_add 13 = .ok (.aload_n 0, 1) := by decide +kernel
theorem dX4_add_14 : decode cX4_add 14 = .ok (.invokevirtual 22, 3) := by decide +kernel
theorem dX4_add_17 : decode cX4_add 17 = .ok (.astore_n 2, 1) := by decide +kernel
theorem dX4_add_18 : decode cX4_add 18 = .ok (.aload_n 2, 1) := by decide +kernel
theorem dX4_add_19 : decode cX4_add 19 = .ok (.ifnull 8, 3) := by decide +kernel
theorem dX4_add_22 : decode cX4_add 22 = .ok (.aload_n 2, 1) := by decide +kernel
theorem dX4_add_23 : decode cX4_add 23 = .ok (.aload_n 1, 1) := by decide +kernel
theorem dX4_add_24 : decode cX4_add 24 = .ok (.invokevirtual 26, 3) := by decide +kernel
theorem dX4_add_27 : decode cX4_add 27 = .ok (.aload_n 0, 1) := by decide +kernel
theorem dX4_add_28 : decode cX4_add 28 = .ok (.aload_n 0, 1) := by decide +kernel
theorem dX4_add_29 : decode cX4_add 29 = .ok (.getfield 30, 3) := by decide +kernel
theorem dX4_add_32 : decode cX4_add 32 = .ok (.iconst 1, 1) := by decide +kernel
theorem dX4_add_33 : decode cX4_add 33 = .ok (.iadd, 1) := by decide +kernel
theorem dX4_add_34 : decode cX4_add 34 = .ok (.bipush 8, 2) := by decide +kernel
theorem dX4_add_36 : decode cX4_add 36 = .ok (.invokestatic 33, 3) := by decide +kernel
theorem dX4_add_39 : decode cX4_add 39 = .ok (.putfield 30, 3) := by decide +kernel
theorem dX4_add_42 : decode cX4_add 42 = .ok (.return_, 1) := by decide +kernel
theorem dX4_takeBack_0 : decode cX4_takeBack 0 = .ok (.aload_n 0, 1) := by decide +kernel
theorem dX4_takeBack_1 : decode cX4_takeBack 1 = .ok (.invokevirtual 22, 3) := by decide +kernel
theorem dX4_takeBack_4 : decode cX4_takeBack 4 = .ok (.astore_n 2, 1) := by decide +kernel
theorem dX4_takeBack_5 : decode cX4_takeBack 5 = .ok (.aload_n 2, 1) := by decide +kernel
theorem dX4_takeBack_6 : decode cX4_takeBack 6 = .ok (.ifnull 8, 3) := by decide +kernel
theorem dX4_takeBack_9 : decode cX4_takeBack 9 = .ok (.aload_n 1, 1) := by decide +kernel
theorem dX4_takeBack_10 : decode cX4_takeBack 10 = .ok (.aload_n 2, 1) := by decide +kernel
theorem dX4_takeBack_11 : decode cX4_takeBack 11 = .ok (.invokevirtual 26, 3) := by decide +kernel
theorem dX4_takeBack_14 : decode cX4_takeBack 14 = .ok (.aload_n 0, 1) := by decide +kernel
theorem dX4_takeBack_15 : decode cX4_takeBack 15 = .ok (.aload_n 0, 1) := by decide +kernel
theorem dX4_takeBack_16 : decode cX4_takeBack 16 = .ok (.getfield 18, 3) := by decide +kernel
theorem dX4_takeBack_19 : decode cX4_takeBack 19 = .ok (.bipush 8, 2) := by decide +kernel
theorem dX4_takeBack_21 : decode cX4_takeBack 21 = .ok (.iadd, 1) := by decide +kernel
theorem dX4_takeBack_22 : decode cX4_takeBack 22 = .ok (.iconst 1, 1) := by decide +kernel
theorem dX4_takeBack_23 : decode cX4_takeBack 23 = .ok (.isub, 1) := by decide +kernel
theorem dX4_takeBack_24 : decode cX4_takeBack 24 = .ok (.bipush 8, 2) := by decide +kernel
theorem dX4_takeBack_26 : decode cX4_takeBack 26 = .ok (.irem, 1) := by decide +kernel
theorem dX4_takeBack_27 : decode cX4_takeBack 27 = .ok (.putfield 18, 3) := by decide +kernel
theorem dX4_takeBack_30 : decode cX4_takeBack 30 = .ok (.aload_n 0, 1) := by decide +kernel
theorem dX4_takeBack_31 : decode cX4_takeBack 31 = .ok (.aload_n 0, 1) := by decide +kernel
theorem dX4_takeBack_32 : decode cX4_takeBack 32 = .ok (.getfield 30, 3) := by decide +kernel
theorem dX4_takeBack_35 : decode cX4_takeBack 35 = .ok (.iconst 1, 1) := by decide +kernel
theorem dX4_takeBack_36 : decode cX4_takeBack 36 = .ok (.isub, 1) := by decide +kernel
theorem dX4_takeBack_37 : decode cX4_takeBack 37 = .ok (.iconst 0, 1) := by decide +kernel
theorem dX4_takeBack_38 : decode cX4_takeBack 38 = .ok (.invokestatic 39, 3) := by decide +kernel
theorem dX4_takeBack_41 : decode cX4_takeBack 41 = .ok (.putfield 30, 3) := by decide +kernel
theorem dX4_takeBack_44 : decode cX4_takeBack 44 = .ok (.return_, 1) := by decide +kernel
theorem dX4_forget_0 : decode cX4_forget 0 = .ok (.aload_n 0, 1) := by decide +kernel
theorem dX4_forget_1 : decode cX4_forget 1 = .ok (.iconst 0, 1) := by decide +kernel
theorem dX4_forget_2 : decode cX4_forget 2 = .ok (.putfield 30, 3) := by decide +kernel
theorem dX4_forget_5 : decode cX4_forget 5 = .ok (.return_, 1) := by decide +kernel
theorem dX4_slotOfLatest_0 : decode cX4_slotOfLatest 0 = .ok (.aload_n 0, 1) := by decide +kernel
theorem dX4_slotOfLatest_1 : decode cX4_slotOfLatest 1 = .ok (.getfield 18, 3) := by decide +kernel
theorem dX4_slotOfLatest_4 : decode cX4_slotOfLatest 4 = .ok (.ifCond .lt 24, 3) := by decide +kernel
theorem dX4_slotOfLatest_7 : decode cX4_slotOfLatest 7 = .ok (.aload_n 0, 1) := by decide +kernel
theorem dX4_slotOfLatest_8 : decode cX4_slotOfLatest 8 = .ok (.getfield 18, 3) := by decide +kernel
theorem dX4_slotOfLatest_11 : decode cX4_slotOfLatest 11 = .ok (.bipush 8, 2) := by decide +kernel
theorem dX4_slotOfLatest_13 : decode cX4_slotOfLatest 13 = .ok (.if_icmp .ge 15, 3) := by decide +kernel
theorem dX4_slotOfLatest_16 : decode cX4_slotOfLatest 16 = .ok (.aload_n 0, 1) := by decide +kernel
theorem dX4_slotOfLatest_17 : decode cX4_slotOfLatest 17 = .ok (.getfield 11, 3) := by decide +kernel
theorem dX4_slotOfLatest_20 : decode cX4_slotOfLatest 20 = .ok (.aload_n 0, 1) := by decide +kernel
theorem dX4_slotOfLatest_21 : decode cX4_slotOfLatest 21 = .ok (.getfield 18, 3) := by decide +kernel
theorem dX4_slotOfLatest_24 : decode cX4_slotOfLatest 24 = .ok (.aaload, 1) := by decide +kernel
theorem dX4_slotOfLatest_25 : decode cX4_slotOfLatest 25 = .ok (.goto 4, 3) := by decide +kernel
theorem dX4_slotOfLatest_28 : decode cX4_slotOfLatest 28 = .ok (.aconst_null, 1) := by decide +kernel
theorem dX4_slotOfLatest_29 : decode cX4_slotOfLatest 29 = .ok (.areturn, 1) := by decide +kernel
theorem dX5_init_0 : decode cX5_init 0 = .ok (.aload_n 0, 1) := by decide +kernel
theorem dX5_init_1 : decode cX5_init 1 = .ok (.invokespecial 3, 3) := by decide +kernel
theorem dX5_init_4 : decode cX5_init 4 = .ok (.aload_n 0, 1) := by decide +kernel
theorem dX5_init_5 : decode cX5_init 5 = .ok (.new 9, 3) := by decide +kernel
theorem dX5_init_8 : decode cX5_init 8 = .ok (.dup, 1) := by decide +kernel
theorem dX5_init_9 : decode cX5_init 9 = .ok (.bipush 96, 2) := by decide +kernel
theorem dX5_init_11 : decode cX5_init 11 = .ok (.invokespecial 11, 3) := by decide +kernel
theorem dX5_init_14 : decode cX5_init 14 = .ok (.putfield 14, 3) := by decide +kernel
theorem dX5_init_17 : decode cX5_init 17 = .ok (.return_, 1) := by decide +kernel
theorem dX5_isDigit_0 : decode cX5_isDigit 0 = .ok (.aload_n 0, 1) := by decide +kernel
theorem dX5_isDigit_1 : decode cX5_isDigit 1 = .ok (.getfield 14, 3) := by decide +kernel
theorem dX5_isDigit_4 : decode cX5_isDigit 4 = .ok (.iload_n 1, 1) := by decide +kernel
theorem dX5_isDigit_5 : decode cX5_isDigit 5 = .ok (.invokevirtual 20, 3) := by decide +kernel
theorem dX5_isDigit_8 : decode cX5_isDigit 8 = .ok (.bipush 48, 2) := by decide +kernel
theorem dX5_isDigit_10 : decode cX5_isDigit 10 = .ok (.if_icmp .lt 20, 3) := by decide +kernel
theorem dX5_isDigit_13 : decode cX5_isDigit 13 = .ok (.aload_n 0, 1) := by decide +kernel
theorem dX5_isDigit_14 : decode cX5_isDigit 14 = .ok (.getfield 14, 3) := by decide +kernel
theorem dX5_isDigit_17 : decode cX5_isDigit 17 = .ok (.iload_n 1, 1) := by decide +kernel
theorem dX5_isDigit_18 : decode cX5_isDigit 18 = .ok (.invokevirtual 20, 3) := by decide +kernel
theorem dX5_isDigit_21 : decode cX5_isDigit 21 = .ok (.bipush 57, 2) := by decide +kernel
theorem dX5_isDigit_23 : decode cX5_isDigit 23 = .ok (.if_icmp .gt 7, 3) := by decide +kernel
theorem dX5_isDigit_26 : decode cX5_isDigit 26 = .ok (.iconst 1, 1) := by decide +kernel
theorem dX5_isDigit_27 : decode cX5_isDigit 27 = .ok (.goto 4, 3) := by decide +kernel
theorem dX5_isDigit_30 : decode cX5_isDigit 30 = .ok (.iconst 0, 1) := by decide +kernel
theorem dX5_isDigit_31 : decode cX5_isDigit 31 = .ok (.ireturn, 1) := by decide +kernel
theorem dX5_number_0 : decode cX5_number 0 = .ok (.iconst 0, 1) := by decide +kernel
theorem dX5_number_1 : decode cX5_number 1 = .ok (.istore_n 3, 1) := by decide +kernel
theorem dX5_number_2 : decode cX5_number 2 = .ok (.iconst 0, 1) := by decide +kernel
theorem dX5_number_3 : decode cX5_number 3 = .ok (.istore 4, 2) := by decide +kernel
theorem dX5_number_5 : decode cX5_number 5 = .ok (.iload 4, 2) := by decide +kernel
theorem dX5_number_7 : decode cX5_number 7 = .ok (.iload_n 2, 1) := by decide +kernel
theorem dX5_number_8 : decode cX5_number 8 = .ok (.if_icmp .ge 29, 3) := by decide +kernel
theorem dX5_number_11 : decode cX5_number 11 = .ok (.bipush 10, 2) := by decide +kernel
theorem dX5_number_13 : decode cX5_number 13 = .ok (.iload_n 3, 1) := by decide +kernel
theorem dX5_number_14 : decode cX5_number 14 = .ok (.imul, 1) := by decide +kernel
theorem dX5_number_15 : decode cX5_number 15 = .ok (.aload_n 0, 1) := by decide +kernel
theorem dX5_number_16 : decode cX5_number 16 = .ok (.getfield 14, 3) := by decide +kernel
theorem dX5_number_19 : decode cX5_number 19 = .ok (.iload_n 1, 1) := by decide +kernel
theorem dX5_number_20 : decode cX5_number 20 = .ok (.iload 4, 2) := by decide +kernel
theorem dX5_number_22 : decode cX5_number 22 = .ok (.iadd, 1) := by decide +kernel
theorem dX5_number_23 : decode cX5_number 23 = .ok (.invokevirtual 20, 3) := by decide +kernel
theorem dX5_number_26 : decode cX5_number 26 = .ok (.iadd, 1) := by decide +kernel
theorem dX5_number_27 : decode cX5_number 27 = .ok (.bipush 48, 2) := by decide +kernel
theorem dX5_number_29 : decode cX5_number 29 = .ok (.isub, 1) := by decide +kernel
theorem dX5_number_30 : decode cX5_number 30 = .ok (.istore_n 3, 1) := by decide +kernel
theorem dX5_number_31 : decode cX5_number 31 = .ok (.iinc 4 1, 3) := by decide +kernel
theorem dX5_number_34 : decode cX5_number 34 = .ok (.goto (-29), 3) := by decide +kernel
theorem dX5_number_37 : decode cX5_number 37 = .ok (.iload_n 3, 1) := by decide +kernel
theorem dX5_number_38 : decode cX5_number 38 = .ok (.ireturn, 1) := by decide +kernel
theorem dX5_firstMisplaced_0 : decode cX5_firstMisplaced 0 = .ok (.iconst 0, 1) := by decide +kernel
theorem dX5_firstMisplaced_1 : decode cX5_firstMisplaced 1 = .ok (.istore_n 1, 1) := by decide +kernel
theorem dX5_firstMisplaced_2 : decode cX5_firstMisplaced 2 = .ok (.iconst 0, 1) := by decide +kernel
theorem dX5_firstMisplaced_3 : decode cX5_firstMisplaced 3 = .ok (.istore_n 2, 1) := by decide +kernel
theorem dX5_firstMisplaced_4 : decode cX5_firstMisplaced 4 = .ok (.iload_n 2, 1) := by decide +kernel
theorem dX5_firstMisplaced_5 : decode cX5_firstMisplaced 5 = .ok (.bipush 96, 2) := by decide +kernel
theorem dX5_firstMisplaced_7 : decode cX5_firstMisplaced 7 = .ok (.if_icmp .ge 42, 3) := by decide +kernel
theorem dX5_firstMisplaced_10 : decode cX5_firstMisplaced 10 = .ok (.iload_n 1, 1) := by decide +kernel
theorem dX5_firstMisplaced_11 : decode cX5_firstMisplaced 11 = .ok (.ifCond .eq 14, 3) := by decide +kernel
theorem dX5_firstMisplaced_14 : decode cX5_firstMisplaced 14 = .ok (.iload_n 1, 1) := by decide +kernel
theorem dX5_firstMisplaced_15 : decode cX5_firstMisplaced 15 = .ok (.aload_n 0, 1) := by decide +kernel
theorem dX5_firstMisplaced_16 : decode cX5_firstMisplaced 16 = .ok (.getfield 14, 3) := by decide +kernel
theorem dX5_firstMisplaced_19 : decode cX5_firstMisplaced 19 = .ok (.getfield 24, 3) := by decide +kernel
theorem dX5_firstMisplaced_22 : decode cX5_firstMisplaced 22 = .ok (.if_icmp .ge 27, 3) := by decide +kernel
theorem dX5_firstMisplaced_25 : decode cX5_firstMisplaced 25 = .ok (.aload_n 0, 1) := by decide +kernel
theorem dX5_firstMisplaced_26 : decode cX5_firstMisplaced 26 = .ok (.iload_n 1, 1) := by decide +kernel
theorem dX5_firstMisplaced_27 : decode cX5_firstMisplaced 27 = .ok (.invokevirtual 28, 3) := by decide +kernel
theorem dX5_firstMisplaced_30 : decode cX5_firstMisplaced 30 = .ok (.istore_n 3, 1) := by decide +kernel
theorem dX5_firstMisplaced_31 : decode cX5_firstMisplaced 31 = .ok (.iload_n 3, 1) := by decide +kernel
theorem dX5_firstMisplaced_32 : decode cX5_firstMisplaced 32 = .ok (.ifCond .ge 7, 3) := by decide +kernel
theorem dX5_firstMisplaced_35 : decode cX5_firstMisplaced 35 = .ok (.iconst (-1), 1) := by decide +kernel
theorem dX5_firstMisplaced_36 : decode cX5_firstMisplaced 36 = .ok (.iload_n 3, 1) := by decide +kernel
theorem dX5_firstMisplaced_37 : decode cX5_firstMisplaced 37 = .ok (.isub, 1) := by decide +kernel
theorem dX5_firstMisplaced_38 : decode cX5_firstMisplaced 38 = .ok (.ireturn, 1) := by decide +kernel
theorem dX5_firstMisplaced_39 : decode cX5_firstMisplaced 39 = .ok (.iload_n 3, 1) := by decide +kernel
theorem dX5_firstMisplaced_40 : decode cX5_firstMisplaced 40 = .ok (.iconst 1, 1) := by decide +kernel
theorem dX5_firstMisplaced_41 : decode cX5_firstMisplaced 41 = .ok (.iadd, 1) := by decide +kernel
theorem dX5_firstMisplaced_42 : decode cX5_firstMisplaced 42 = .ok (.istore_n 1, 1) := by decide +kernel
theorem dX5_firstMisplaced_43 : decode cX5_firstMisplaced 43 = .ok (.iinc 2 1, 3) := by decide +kernel
theorem dX5_firstMisplaced_46 : decode cX5_firstMisplaced 46 = .ok (.goto (-42), 3) := by decide +kernel
theorem dX5_firstMisplaced_49 : decode cX5_firstMisplaced 49 = .ok (.bipush (-9), 2) := by decide +kernel
theorem dX5_firstMisplaced_51 : decode cX5_firstMisplaced 51 = .ok (.ireturn, 1) := by decide +kernel
theorem dX5_tell_0 : decode cX5_tell 0 = .ok (.iconst 0, 1) := by decide +kernel
theorem dX5_tell_1 : decode cX5_tell 1 = .ok (.istore_n 2, 1) := by decide +kernel
theorem dX5_tell_2 : decode cX5_tell 2 = .ok (.iconst 0, 1) := by decide +kernel
theorem dX5_tell_3 : decode cX5_tell 3 = .ok (.istore_n 3, 1) := by decide +kernel
theorem dX5_tell_4 : decode cX5_tell 4 = .ok (.iload_n 2, 1) := by decide +kernel
theorem dX5_tell_5 : decode cX5_tell 5 = .ok (.bipush 96, 2) := by decide +kernel
theorem dX5_tell_7 : decode cX5_tell 7 = .ok (.if_icmp .ge 49, 3) := by decide +kernel
theorem dX5_tell_10 : decode cX5_tell 10 = .ok (.iload_n 3, 1) := by decide +kernel
theorem dX5_tell_11 : decode cX5_tell 11 = .ok (.aload_n 0, 1) := by decide +kernel
theorem dX5_tell_12 : decode cX5_tell 12 = .ok (.getfield 14, 3) := by decide +kernel
theorem dX5_tell_15 : decode cX5_tell 15 = .ok (.getfield 24, 3) := by decide +kernel
theorem dX5_tell_18 : decode cX5_tell 18 = .ok (.if_icmp .ge 38, 3) := by decide +kernel
theorem dX5_tell_21 : decode cX5_tell 21 = .ok (.aload_n 0, 1) := by decide +kernel
theorem dX5_tell_22 : decode cX5_tell 22 = .ok (.iload_n 3, 1) := by decide +kernel
theorem dX5_tell_23 : decode cX5_tell 23 = .ok (.invokevirtual 28, 3) := by decide +kernel
theorem dX5_tell_26 : decode cX5_tell 26 = .ok (.istore 4, 2) := by decide +kernel
theorem dX5_tell_28 : decode cX5_tell 28 = .ok (.aload_n 0, 1) := by decide +kernel
theorem dX5_tell_29 : decode cX5_tell 29 = .ok (.iload_n 3, 1) := by decide +kernel
theorem dX5_tell_30 : decode cX5_tell 30 = .ok (.iload 4, 2) := by decide +kernel
theorem dX5_tell_32 : decode cX5_tell 32 = .ok (.aload_n 1, 1) := by decide +kernel
theorem dX5_tell_33 : decode cX5_tell 33 = .ok (.invokevirtual 31, 3) := by decide +kernel
theorem dX5_tell_36 : decode cX5_tell 36 = .ok (.ifCond .ne 9, 3) := by decide +kernel
theorem dX5_tell_39 : decode cX5_tell 39 = .ok (.sipush (-2000), 3) := by decide +kernel
theorem dX5_tell_42 : decode cX5_tell 42 = .ok (.iload_n 3, 1) := by decide +kernel
theorem dX5_tell_43 : decode cX5_tell 43 = .ok (.isub, 1) := by decide +kernel
theorem dX5_tell_44 : decode cX5_tell 44 = .ok (.ireturn, 1) := by decide +kernel
theorem dX5_tell_45 : decode cX5_tell 45 = .ok (.iload 4, 2) := by decide +kernel
theorem dX5_tell_47 : decode cX5_tell 47 = .ok (.iconst 1, 1) := by decide +kernel
theorem dX5_tell_48 : decode cX5_tell 48 = .ok (.iadd, 1) := by decide +kernel
theorem dX5_tell_49 : decode cX5_tell 49 = .ok (.istore_n 3, 1) := by decide +kernel
theorem dX5_tell_50 : decode cX5_tell 50 = .ok (.iinc 2 1, 3) := by decide +kernel
theorem dX5_tell_53 : decode cX5_tell 53 = .ok (.goto (-49), 3) := by decide +kernel
theorem dX5_tell_56 : decode cX5_tell 56 = .ok (.iload_n 2, 1) := by decide +kernel
theorem dX5_tell_57 : decode cX5_tell 57 = .ok (.ireturn, 1) := by decide +kernel
theorem dX5_endOf_0 : decode cX5_endOf 0 = .ok (.aload_n 0, 1) := by decide +kernel
theorem dX5_endOf_1 : decode cX5_endOf 1 = .ok (.getfield 14, 3) := by decide +kernel
theorem dX5_endOf_4 : decode cX5_endOf 4 = .ok (.iload_n 1, 1) := by decide +kernel
theorem dX5_endOf_5 : decode cX5_endOf 5 = .ok (.invokevirtual 20, 3) := by decide +kernel
theorem dX5_endOf_8 : decode cX5_endOf 8 = .ok (.tableswitch 177 97 119 #[166, 136, 177, 177, 177, 114, 177, 146, 177, 177, 177, 156, 177, 177, 177, 177, 177, 126, 177, 177, 177, 177, 108], 108) := by decide +kernel
theorem dX5_endOf_116 : decode cX5_endOf 116 = .ok (.aload_n 0, 1) := by decide +kernel
theorem dX5_endOf_117 : decode cX5_endOf 117 = .ok (.iload_n 1, 1) := by decide +kernel
theorem dX5_endOf_118 : decode cX5_endOf 118 = .ok (.invokevirtual 35, 3) := by decide +kernel
theorem dX5_endOf_121 : decode cX5_endOf 121 = .ok (.ireturn, 1) := by decide +kernel
theorem dX5_endOf_122 : decode cX5_endOf 122 = .ok (.aload_n 0, 1) := by decide +kernel
theorem dX5_endOf_123 : decode cX5_endOf 123 = .ok (.iload_n 1, 1) := by decide +kernel
theorem dX5_endOf_124 : decode cX5_endOf 124 = .ok (.iconst 1, 1) := by decide +kernel
theorem dX5_endOf_125 : decode cX5_endOf 125 = .ok (.iadd, 1) := by decide +kernel
theorem dX5_endOf_126 : decode cX5_endOf 126 = .ok (.bipush 10, 2) := by decide +kernel
theorem dX5_endOf_128 : decode cX5_endOf 128 = .ok (.bipush 10, 2) := by decide +kernel
theorem dX5_endOf_130 : decode cX5_endOf 130 = .ok (.invokevirtual 38, 3) := by decide +kernel
theorem dX5_endOf_133 : decode cX5_endOf 133 = .ok (.ireturn, 1) := by decide +kernel
theorem dX5_endOf_134 : decode cX5_endOf 134 = .ok (.aload_n 0, 1) := by decide +kernel
theorem dX5_endOf_135 : decode cX5_endOf 135 = .ok (.iload_n 1, 1) := by decide +kernel
theorem dX5_endOf_136 : decode cX5_endOf 136 = .ok (.iconst 1, 1) := by decide +kernel
theorem dX5_endOf_137 : decode cX5_endOf 137 = .ok (.iadd, 1) := by decide +kernel
theorem dX5_endOf_138 : decode cX5_endOf 138 = .ok (.iconst 4, 1) := by decide +kernel
theorem dX5_endOf_139 : decode cX5_endOf 139 = .ok (.iconst 4, 1) := by decide +kernel
theorem dX5_endOf_140 : decode cX5_endOf 140 = .ok (.invokevirtual 38, 3) := by decide +kernel
theorem dX5_endOf_143 : decode cX5_endOf 143 = .ok (.ireturn, 1) := by decide +kernel
theorem dX5_endOf_144 : decode cX5_endOf 144 = .ok (.aload_n 0, 1) := by decide +kernel
theorem dX5_endOf_145 : decode cX5_endOf 145 = .ok (.iload_n 1, 1) := by decide +kernel
theorem dX5_endOf_146 : decode cX5_endOf 146 = .ok (.iconst 1, 1) := by decide +kernel
theorem dX5_endOf_147 : decode cX5_endOf 147 = .ok (.iadd, 1) := by decide +kernel
theorem dX5_endOf_148 : decode cX5_endOf 148 = .ok (.iconst 5, 1) := by decide +kernel
theorem dX5_endOf_149 : decode cX5_endOf 149 = .ok (.iconst 5, 1) := by decide +kernel
theorem dX5_endOf_150 : decode cX5_endOf 150 = .ok (.invokevirtual 38, 3) := by decide +kernel
theorem dX5_endOf_153 : decode cX5_endOf 153 = .ok (.ireturn, 1) := by decide +kernel
theorem dX5_endOf_154 : decode cX5_endOf 154 = .ok (.aload_n 0, 1) := by decide +kernel
theorem dX5_endOf_155 : decode cX5_endOf 155 = .ok (.iload_n 1, 1) := by decide +kernel
theorem dX5_endOf_156 : decode cX5_endOf 156 = .ok (.iconst 1, 1) := by decide +kernel
theorem dX5_endOf_157 : decode cX5_endOf 157 = .ok (.iadd, 1) := by decide +kernel
theorem dX5_endOf_158 : decode cX5_endOf 158 = .ok (.iconst 2, 1) := by decide +kernel
theorem dX5_endOf_159 : decode cX5_endOf 159 = .ok (.iconst 2, 1) := by decide +kernel
theorem dX5_endOf_160 : decode cX5_endOf 160 = .ok (.invokevirtual 38, 3) := by decide +kernel
theorem dX5_endOf_163 : decode cX5_endOf 163 = .ok (.ireturn, 1) := by decide +kernel
theorem dX5_endOf_164 : decode cX5_endOf 164 = .ok (.aload_n 0, 1) := by decide +kernel
theorem dX5_endOf_165 : decode cX5_endOf 165 = .ok (.iload_n 1, 1) := by decide +kernel
theorem dX5_endOf_166 : decode cX5_endOf 166 = .ok (.iconst 1, 1) := by decide +kernel
theorem dX5_endOf_167 : decode cX5_endOf 167 = .ok (.iadd, 1) := by decide +kernel
theorem dX5_endOf_168 : decode cX5_endOf 168 = .ok (.iconst 1, 1) := by decide +kernel
theorem dX5_endOf_169 : decode cX5_endOf 169 = .ok (.iconst 1, 1) := by decide +kernel
theorem dX5_endOf_170 : decode cX5_endOf 170 = .ok (.invokevirtual 38, 3) := by decide +kernel
theorem dX5_endOf_173 : decode cX5_endOf 173 = .ok (.ireturn, 1) := by decide +kernel
theorem dX5_endOf_174 : decode cX5_endOf 174 = .ok (.aload_n 0, 1) := by decide +kernel
theorem dX5_endOf_175 : decode cX5_endOf 175 = .ok (.iload_n 1, 1) := by decide +kernel
theorem dX5_endOf_176 : decode cX5_endOf 176 = .ok (.iconst 1, 1) := by decide +kernel
theorem dX5_endOf_177 : decode cX5_endOf 177 = .ok (.iadd, 1) := by decide +kernel
theorem dX5_endOf_178 : decode cX5_endOf 178 = .ok (.iconst 1, 1) := by decide +kernel
theorem dX5_endOf_179 : decode cX5_endOf 179 = .ok (.bipush 9, 2) := by decide +kernel
theorem dX5_endOf_181 : decode cX5_endOf 181 = .ok (.invokevirtual 38, 3) := by decide +kernel
theorem dX5_endOf_184 : decode cX5_endOf 184 = .ok (.ireturn, 1) := by decide +kernel
theorem dX5_endOf_185 : decode cX5_endOf 185 = .ok (.iconst (-1), 1) := by decide +kernel
theorem dX5_endOf_186 : decode cX5_endOf 186 = .ok (.iload_n 1, 1) := by decide +kernel
theorem dX5_endOf_187 : decode cX5_endOf 187 = .ok (.isub, 1) := by decide +kernel
theorem dX5_endOf_188 : decode cX5_endOf 188 = .ok (.ireturn, 1) := by decide +kernel
theorem dX5_endOfWind_0 : decode cX5_endOfWind 0 = .ok (.aload_n 0, 1) := by decide +kernel
theorem dX5_endOfWind_1 : decode cX5_endOfWind 1 = .ok (.iload_n 1, 1) := by decide +kernel
theorem dX5_endOfWind_2 : decode cX5_endOfWind 2 = .ok (.iconst 1, 1) := by decide +kernel
theorem dX5_endOfWind_3 : decode cX5_endOfWind 3 = .ok (.iadd, 1) := by decide +kernel
theorem dX5_endOfWind_4 : decode cX5_endOfWind 4 = .ok (.invokevirtual 42, 3) := by decide +kernel
theorem dX5_endOfWind_7 : decode cX5_endOfWind 7 = .ok (.ifCond .ne 9, 3) := by decide +kernel
theorem dX5_endOfWind_10 : decode cX5_endOfWind 10 = .ok (.iconst (-1), 1) := by decide +kernel
theorem dX5_endOfWind_11 : decode cX5_endOfWind 11 = .ok (.iload_n 1, 1) := by decide +kernel
theorem dX5_endOfWind_12 : decode cX5_endOfWind 12 = .ok (.iconst 1, 1) := by decide +kernel
theorem dX5_endOfWind_13 : decode cX5_endOfWind 13 = .ok (.iadd, 1) := by decide +kernel
theorem dX5_endOfWind_14 : decode cX5_endOfWind 14 = .ok (.isub, 1) := by decide +kernel
theorem dX5_endOfWind_15 : decode cX5_endOfWind 15 = .ok (.ireturn, 1) := by decide +kernel
theorem dX5_endOfWind_16 : decode cX5_endOfWind 16 = .ok (.aload_n 0, 1) := by decide +kernel
theorem dX5_endOfWind_17 : decode cX5_endOfWind 17 = .ok (.getfield 14, 3) := by decide +kernel
theorem dX5_endOfWind_20 : decode cX5_endOfWind 20 = .ok (.iload_n 1, 1) := by decide +kernel
theorem dX5_endOfWind_21 : decode cX5_endOfWind 21 = .ok (.iconst 2, 1) := by decide +kernel
theorem dX5_endOfWind_22 : decode cX5_endOfWind 22 = .ok (.iadd, 1) := by decide +kernel
theorem dX5_endOfWind_23 : decode cX5_endOfWind 23 = .ok (.invokevirtual 20, 3) := by decide +kernel
theorem dX5_endOfWind_26 : decode cX5_endOfWind 26 = .ok (.istore_n 2, 1) := by decide +kernel
theorem dX5_endOfWind_27 : decode cX5_endOfWind 27 = .ok (.iload_n 2, 1) := by decide +kernel
theorem dX5_endOfWind_28 : decode cX5_endOfWind 28 = .ok (.bipush 43, 2) := by decide +kernel
theorem dX5_endOfWind_30 : decode cX5_endOfWind 30 = .ok (.if_icmp .eq 15, 3) := by decide +kernel
theorem dX5_endOfWind_33 : decode cX5_endOfWind 33 = .ok (.iload_n 2, 1) := by decide +kernel
theorem dX5_endOfWind_34 : decode cX5_endOfWind 34 = .ok (.bipush 45, 2) := by decide +kernel
theorem dX5_endOfWind_36 : decode cX5_endOfWind 36 = .ok (.if_icmp .eq 9, 3) := by decide +kernel
theorem dX5_endOfWind_39 : decode cX5_endOfWind 39 = .ok (.iconst (-1), 1) := by decide +kernel
theorem dX5_endOfWind_40 : decode cX5_endOfWind 40 = .ok (.iload_n 1, 1) := by decide +kernel
theorem dX5_endOfWind_41 : decode cX5_endOfWind 41 = .ok (.iconst 2, 1) := by decide +kernel
theorem dX5_endOfWind_42 : decode cX5_endOfWind 42 = .ok (.iadd, 1) := by decide +kernel
theorem dX5_endOfWind_43 : decode cX5_endOfWind 43 = .ok (.isub, 1) := by decide +kernel
theorem dX5_endOfWind_44 : decode cX5_endOfWind 44 = .ok (.ireturn, 1) := by decide +kernel
theorem dX5_endOfWind_45 : decode cX5_endOfWind 45 = .ok (.aload_n 0, 1) := by decide +kernel
theorem dX5_endOfWind_46 : decode cX5_endOfWind 46 = .ok (.iload_n 1, 1) := by decide +kernel
theorem dX5_endOfWind_47 : decode cX5_endOfWind 47 = .ok (.iconst 3, 1) := by decide +kernel
theorem dX5_endOfWind_48 : decode cX5_endOfWind 48 = .ok (.iadd, 1) := by decide +kernel
theorem dX5_endOfWind_49 : decode cX5_endOfWind 49 = .ok (.iconst 2, 1) := by decide +kernel
theorem dX5_endOfWind_50 : decode cX5_endOfWind 50 = .ok (.iconst 2, 1) := by decide +kernel
theorem dX5_endOfWind_51 : decode cX5_endOfWind 51 = .ok (.invokevirtual 38, 3) := by decide +kernel
theorem dX5_endOfWind_54 : decode cX5_endOfWind 54 = .ok (.ireturn, 1) := by decide +kernel
theorem dX5_endOfDigits_0 : decode cX5_endOfDigits 0 = .ok (.iload_n 1, 1) := by decide +kernel
theorem dX5_endOfDigits_1 : decode cX5_endOfDigits 1 = .ok (.istore 4, 2) := by decide +kernel
theorem dX5_endOfDigits_3 : decode cX5_endOfDigits 3 = .ok (.iload 4, 2) := by decide +kernel
theorem dX5_endOfDigits_5 : decode cX5_endOfDigits 5 = .ok (.iload_n 1, 1) := by decide +kernel
theorem dX5_endOfDigits_6 : decode cX5_endOfDigits 6 = .ok (.iload_n 3, 1) := by decide +kernel
theorem dX5_endOfDigits_7 : decode cX5_endOfDigits 7 = .ok (.iadd, 1) := by decide +kernel
theorem dX5_endOfDigits_8 : decode cX5_endOfDigits 8 = .ok (.if_icmp .ge 18, 3) := by decide +kernel
theorem dX5_endOfDigits_11 : decode cX5_endOfDigits 11 = .ok (.aload_n 0, 1) := by decide +kernel
theorem dX5_endOfDigits_12 : decode cX5_endOfDigits 12 = .ok (.iload 4, 2) := by decide +kernel
theorem dX5_endOfDigits_14 : decode cX5_endOfDigits 14 = .ok (.invokevirtual 42, 3) := by decide +kernel
theorem dX5_endOfDigits_17 : decode cX5_endOfDigits 17 = .ok (.ifCond .eq 9, 3) := by decide +kernel
theorem dX5_endOfDigits_20 : decode cX5_endOfDigits 20 = .ok (.iinc 4 1, 3) := by decide +kernel
theorem dX5_endOfDigits_23 : decode cX5_endOfDigits 23 = .ok (.goto (-20), 3) := by decide +kernel
theorem dX5_endOfDigits_26 : decode cX5_endOfDigits 26 = .ok (.iload 4, 2) := by decide +kernel
theorem dX5_endOfDigits_28 : decode cX5_endOfDigits 28 = .ok (.iload_n 1, 1) := by decide +kernel
theorem dX5_endOfDigits_29 : decode cX5_endOfDigits 29 = .ok (.iload_n 2, 1) := by decide +kernel
theorem dX5_endOfDigits_30 : decode cX5_endOfDigits 30 = .ok (.iadd, 1) := by decide +kernel
theorem dX5_endOfDigits_31 : decode cX5_endOfDigits 31 = .ok (.if_icmp .lt 22, 3) := by decide +kernel
theorem dX5_endOfDigits_34 : decode cX5_endOfDigits 34 = .ok (.aload_n 0, 1) := by decide +kernel
theorem dX5_endOfDigits_35 : decode cX5_endOfDigits 35 = .ok (.getfield 14, 3) := by decide +kernel
theorem dX5_endOfDigits_38 : decode cX5_endOfDigits 38 = .ok (.iload 4, 2) := by decide +kernel
theorem dX5_endOfDigits_40 : decode cX5_endOfDigits 40 = .ok (.invokevirtual 20, 3) := by decide +kernel
theorem dX5_endOfDigits_43 : decode cX5_endOfDigits 43 = .ok (.bipush 59, 2) := by decide +kernel
theorem dX5_endOfDigits_45 : decode cX5_endOfDigits 45 = .ok (.if_icmp .ne 8, 3) := by decide +kernel
theorem dX5_endOfDigits_48 : decode cX5_endOfDigits 48 = .ok (.iload 4, 2) := by decide +kernel
theorem dX5_endOfDigits_50 : decode cX5_endOfDigits 50 = .ok (.goto 7, 3) := by decide +kernel
theorem dX5_endOfDigits_53 : decode cX5_endOfDigits 53 = .ok (.iconst (-1), 1) := by decide +kernel
theorem dX5_endOfDigits_54 : decode cX5_endOfDigits 54 = .ok (.iload 4, 2) := by decide +kernel
theorem dX5_endOfDigits_56 : decode cX5_endOfDigits 56 = .ok (.isub, 1) := by decide +kernel
theorem dX5_endOfDigits_57 : decode cX5_endOfDigits 57 = .ok (.ireturn, 1) := by decide +kernel
theorem dX5_tellStatement_0 : decode cX5_tellStatement 0 = .ok (.aload_n 0, 1) := by decide +kernel
theorem dX5_tellStatement_1 : decode cX5_tellStatement 1 = .ok (.getfield 14, 3) := by decide +kernel
theorem dX5_tellStatement_4 : decode cX5_tellStatement 4 = .ok (.iload_n 1, 1) := by decide +kernel
theorem dX5_tellStatement_5 : decode cX5_tellStatement 5 = .ok (.invokevirtual 20, 3) := by decide +kernel
theorem dX5_tellStatement_8 : decode cX5_tellStatement 8 = .ok (.lookupswitch 120 #[(98, 90), (102, 70), (104, 100), (108, 110), (114, 80), (119, 60)], 60) := by decide +kernel
theorem dX5_tellStatement_68 : decode cX5_tellStatement 68 = .ok (.aload_n 0, 1) := by decide +kernel
theorem dX5_tellStatement_69 : decode cX5_tellStatement 69 = .ok (.iload_n 1, 1) := by decide +kernel
theorem dX5_tellStatement_70 : decode cX5_tellStatement 70 = .ok (.aload_n 3, 1) := by decide +kernel
theorem dX5_tellStatement_71 : decode cX5_tellStatement 71 = .ok (.getfield 46, 3) := by decide +kernel
theorem dX5_tellStatement_74 : decode cX5_tellStatement 74 = .ok (.invokevirtual 52, 3) := by decide +kernel
theorem dX5_tellStatement_77 : decode cX5_tellStatement 77 = .ok (.ireturn, 1) := by decide +kernel
theorem dX5_tellStatement_78 : decode cX5_tellStatement 78 = .ok (.aload_n 0, 1) := by decide +kernel
theorem dX5_tellStatement_79 : decode cX5_tellStatement 79 = .ok (.iload_n 1, 1) := by decide +kernel
theorem dX5_tellStatement_80 : decode cX5_tellStatement 80 = .ok (.aload_n 3, 1) := by decide +kernel
theorem dX5_tellStatement_81 : decode cX5_tellStatement 81 = .ok (.getfield 56, 3) := by decide +kernel
theorem dX5_tellStatement_84 : decode cX5_tellStatement 84 = .ok (.invokevirtual 60, 3) := by decide +kernel
theorem dX5_tellStatement_87 : decode cX5_tellStatement 87 = .ok (.ireturn, 1) := by decide +kernel
theorem dX5_tellStatement_88 : decode cX5_tellStatement 88 = .ok (.aload_n 0, 1) := by decide +kernel
theorem dX5_tellStatement_89 : decode cX5_tellStatement 89 = .ok (.iload_n 1, 1) := by decide +kernel
theorem dX5_tellStatement_90 : decode cX5_tellStatement 90 = .ok (.aload_n 3, 1) := by decide +kernel
theorem dX5_tellStatement_91 : decode cX5_tellStatement 91 = .ok (.getfield 64, 3) := by decide +kernel
theorem dX5_tellStatement_94 : decode cX5_tellStatement 94 = .ok (.invokevirtual 68, 3) := by decide +kernel
theorem dX5_tellStatement_97 : decode cX5_tellStatement 97 = .ok (.ireturn, 1) := by decide +kernel
theorem dX5_tellStatement_98 : decode cX5_tellStatement 98 = .ok (.aload_n 0, 1) := by decide +kernel
theorem dX5_tellStatement_99 : decode cX5_tellStatement 99 = .ok (.iload_n 1, 1) := by decide +kernel
theorem dX5_tellStatement_100 : decode cX5_tellStatement 100 = .ok (.aload_n 3, 1) := by decide +kernel
theorem dX5_tellStatement_101 : decode cX5_tellStatement 101 = .ok (.getfield 72, 3) := by decide +kernel
theorem dX5_tellStatement_104 : decode cX5_tellStatement 104 = .ok (.invokevirtual 76, 3) := by decide +kernel
theorem dX5_tellStatement_107 : decode cX5_tellStatement 107 = .ok (.ireturn, 1) := by decide +kernel
theorem dX5_tellStatement_108 : decode cX5_tellStatement 108 = .ok (.aload_n 0, 1) := by decide +kernel
theorem dX5_tellStatement_109 : decode cX5_tellStatement 109 = .ok (.iload_n 1, 1) := by decide +kernel
theorem dX5_tellStatement_110 : decode cX5_tellStatement 110 = .ok (.aload_n 3, 1) := by decide +kernel
theorem dX5_tellStatement_111 : decode cX5_tellStatement 111 = .ok (.getfield 72, 3) := by decide +kernel
theorem dX5_tellStatement_114 : decode cX5_tellStatement 114 = .ok (.invokevirtual 80, 3) := by decide +kernel
theorem dX5_tellStatement_117 : decode cX5_tellStatement 117 = .ok (.ireturn, 1) := by decide +kernel
theorem dX5_tellStatement_118 : decode cX5_tellStatement 118 = .ok (.aload_n 0, 1) := by decide +kernel
theorem dX5_tellStatement_119 : decode cX5_tellStatement 119 = .ok (.iload_n 1, 1) := by decide +kernel
theorem dX5_tellStatement_120 : decode cX5_tellStatement 120 = .ok (.aload_n 3, 1) := by decide +kernel
theorem dX5_tellStatement_121 : decode cX5_tellStatement 121 = .ok (.getfield 72, 3) := by decide +kernel
theorem dX5_tellStatement_124 : decode cX5_tellStatement 124 = .ok (.invokevirtual 83, 3) := by decide +kernel
theorem dX5_tellStatement_127 : decode cX5_tellStatement 127 = .ok (.ireturn, 1) := by decide +kernel
theorem dX5_tellStatement_128 : decode cX5_tellStatement 128 = .ok (.aload_n 0, 1) := by decide +kernel
theorem dX5_tellStatement_129 : decode cX5_tellStatement 129 = .ok (.iload_n 1, 1) := by decide +kernel
theorem dX5_tellStatement_130 : decode cX5_tellStatement 130 = .ok (.iload_n 2, 1) := by decide +kernel
theorem dX5_tellStatement_131 : decode cX5_tellStatement 131 = .ok (.aload_n 3, 1) := by decide +kernel
theorem dX5_tellStatement_132 : decode cX5_tellStatement 132 = .ok (.invokevirtual 86, 3) := by decide +kernel
theorem dX5_tellStatement_135 : decode cX5_tellStatement 135 = .ok (.ireturn, 1) := by decide +kernel
theorem dX5_tellWind_0 : decode cX5_tellWind 0 = .ok (.aload_n 0, 1) := by decide +kernel
theorem dX5_tellWind_1 : decode cX5_tellWind 1 = .ok (.iload_n 1, 1) := by decide +kernel
theorem dX5_tellWind_2 : decode cX5_tellWind 2 = .ok (.iconst 1, 1) := by decide +kernel
theorem dX5_tellWind_3 : decode cX5_tellWind 3 = .ok (.iadd, 1) := by decide +kernel
theorem dX5_tellWind_4 : decode cX5_tellWind 4 = .ok (.iconst 1, 1) := by decide +kernel
theorem dX5_tellWind_5 : decode cX5_tellWind 5 = .ok (.invokevirtual 89, 3) := by decide +kernel
theorem dX5_tellWind_8 : decode cX5_tellWind 8 = .ok (.istore_n 3, 1) := by decide +kernel
theorem dX5_tellWind_9 : decode cX5_tellWind 9 = .ok (.iload_n 3, 1) := by decide +kernel
theorem dX5_tellWind_10 : decode cX5_tellWind 10 = .ok (.invokestatic 93, 3) := by decide +kernel
theorem dX5_tellWind_13 : decode cX5_tellWind 13 = .ok (.ifCond .ne 5, 3) := by decide +kernel
theorem dX5_tellWind_16 : decode cX5_tellWind 16 = .ok (.iconst 0, 1) := by decide +kernel
theorem dX5_tellWind_17 : decode cX5_tellWind 17 = .ok (.ireturn, 1) := by decide +kernel
theorem dX5_tellWind_18 : decode cX5_tellWind 18 = .ok (.aload_n 0, 1) := by decide +kernel
theorem dX5_tellWind_19 : decode cX5_tellWind 19 = .ok (.iload_n 1, 1) := by decide +kernel
theorem dX5_tellWind_20 : decode cX5_tellWind 20 = .ok (.iconst 3, 1) := by decide +kernel
theorem dX5_tellWind_21 : decode cX5_tellWind 21 = .ok (.iadd, 1) := by decide +kernel
theorem dX5_tellWind_22 : decode cX5_tellWind 22 = .ok (.iconst 1, 1) := by decide +kernel
theorem dX5_tellWind_23 : decode cX5_tellWind 23 = .ok (.invokevirtual 89, 3) := by decide +kernel
theorem dX5_tellWind_26 : decode cX5_tellWind 26 = .ok (.istore 4, 2) := by decide +kernel
theorem dX5_tellWind_28 : decode cX5_tellWind 28 = .ok (.aload_n 2, 1) := by decide +kernel
theorem dX5_tellWind_29 : decode cX5_tellWind 29 = .ok (.iload_n 3, 1) := by decide +kernel
theorem dX5_tellWind_30 : decode cX5_tellWind 30 = .ok (.aload_n 0, 1) := by decide +kernel
theorem dX5_tellWind_31 : decode cX5_tellWind 31 = .ok (.getfield 14, 3) := by decide +kernel
theorem dX5_tellWind_34 : decode cX5_tellWind 34 = .ok (.iload_n 1, 1) := by decide +kernel
theorem dX5_tellWind_35 : decode cX5_tellWind 35 = .ok (.iconst 2, 1) := by decide +kernel
theorem dX5_tellWind_36 : decode cX5_tellWind 36 = .ok (.iadd, 1) := by decide +kernel
theorem dX5_tellWind_37 : decode cX5_tellWind 37 = .ok (.invokevirtual 20, 3) := by decide +kernel
theorem dX5_tellWind_40 : decode cX5_tellWind 40 = .ok (.bipush 45, 2) := by decide +kernel
theorem dX5_tellWind_42 : decode cX5_tellWind 42 = .ok (.if_icmp .ne 9, 3) := by decide +kernel
theorem dX5_tellWind_45 : decode cX5_tellWind 45 = .ok (.iload 4, 2) := by decide +kernel
theorem dX5_tellWind_47 : decode cX5_tellWind 47 = .ok (.ineg, 1) := by decide +kernel
theorem dX5_tellWind_48 : decode cX5_tellWind 48 = .ok (.goto 5, 3) := by decide +kernel
theorem dX5_tellWind_51 : decode cX5_tellWind 51 = .ok (.iload 4, 2) := by decide +kernel
theorem dX5_tellWind_53 : decode cX5_tellWind 53 = .ok (.aload_n 0, 1) := by decide +kernel
theorem dX5_tellWind_54 : decode cX5_tellWind 54 = .ok (.iload_n 1, 1) := by decide +kernel
theorem dX5_tellWind_55 : decode cX5_tellWind 55 = .ok (.iconst 4, 1) := by decide +kernel
theorem dX5_tellWind_56 : decode cX5_tellWind 56 = .ok (.iadd, 1) := by decide +kernel
theorem dX5_tellWind_57 : decode cX5_tellWind 57 = .ok (.iconst 1, 1) := by decide +kernel
theorem dX5_tellWind_58 : decode cX5_tellWind 58 = .ok (.invokevirtual 89, 3) := by decide +kernel
theorem dX5_tellWind_61 : decode cX5_tellWind 61 = .ok (.invokevirtual 96, 3) := by decide +kernel
theorem dX5_tellWind_64 : decode cX5_tellWind 64 = .ok (.iconst 1, 1) := by decide +kernel
theorem dX5_tellWind_65 : decode cX5_tellWind 65 = .ok (.ireturn, 1) := by decide +kernel
theorem dX5_tellField_0 : decode cX5_tellField 0 = .ok (.aload_n 0, 1) := by decide +kernel
theorem dX5_tellField_1 : decode cX5_tellField 1 = .ok (.iload_n 1, 1) := by decide +kernel
theorem dX5_tellField_2 : decode cX5_tellField 2 = .ok (.iconst 1, 1) := by decide +kernel
theorem dX5_tellField_3 : decode cX5_tellField 3 = .ok (.iadd, 1) := by decide +kernel
theorem dX5_tellField_4 : decode cX5_tellField 4 = .ok (.iconst 1, 1) := by decide +kernel
theorem dX5_tellField_5 : decode cX5_tellField 5 = .ok (.invokevirtual 89, 3) := by decide +kernel
theorem dX5_tellField_8 : decode cX5_tellField 8 = .ok (.istore_n 3, 1) := by decide +kernel
theorem dX5_tellField_9 : decode cX5_tellField 9 = .ok (.aload_n 0, 1) := by decide +kernel
theorem dX5_tellField_10 : decode cX5_tellField 10 = .ok (.iload_n 1, 1) := by decide +kernel
theorem dX5_tellField_11 : decode cX5_tellField 11 = .ok (.bipush 9, 2) := by decide +kernel
theorem dX5_tellField_13 : decode cX5_tellField 13 = .ok (.iadd, 1) := by decide +kernel
theorem dX5_tellField_14 : decode cX5_tellField 14 = .ok (.iconst 2, 1) := by decide +kernel
theorem dX5_tellField_15 : decode cX5_tellField 15 = .ok (.invokevirtual 89, 3) := by decide +kernel
theorem dX5_tellField_18 : decode cX5_tellField 18 = .ok (.istore 4, 2) := by decide +kernel
theorem dX5_tellField_20 : decode cX5_tellField 20 = .ok (.iload_n 3, 1) := by decide +kernel
theorem dX5_tellField_21 : decode cX5_tellField 21 = .ok (.iconst 5, 1) := by decide +kernel
theorem dX5_tellField_22 : decode cX5_tellField 22 = .ok (.if_icmp .gt 23, 3) := by decide +kernel
theorem dX5_tellField_25 : decode cX5_tellField 25 = .ok (.iload 4, 2) := by decide +kernel
theorem dX5_tellField_27 : decode cX5_tellField 27 = .ok (.iconst 1, 1) := by decide +kernel
theorem dX5_tellField_28 : decode cX5_tellField 28 = .ok (.if_icmp .lt 17, 3) := by decide +kernel
theorem dX5_tellField_31 : decode cX5_tellField 31 = .ok (.iload 4, 2) := by decide +kernel
theorem dX5_tellField_33 : decode cX5_tellField 33 = .ok (.bipush 30, 2) := by decide +kernel
theorem dX5_tellField_35 : decode cX5_tellField 35 = .ok (.if_icmp .gt 10, 3) := by decide +kernel
theorem dX5_tellField_38 : decode cX5_tellField 38 = .ok (.aload_n 2, 1) := by decide +kernel
theorem dX5_tellField_39 : decode cX5_tellField 39 = .ok (.invokevirtual 102, 3) := by decide +kernel
theorem dX5_tellField_42 : decode cX5_tellField 42 = .ok (.ifCond .eq 5, 3) := by decide +kernel
theorem dX5_tellField_45 : decode cX5_tellField 45 = .ok (.iconst 0, 1) := by decide +kernel
theorem dX5_tellField_46 : decode cX5_tellField 46 = .ok (.ireturn, 1) := by decide +kernel
theorem dX5_tellField_47 : decode cX5_tellField 47 = .ok (.aload_n 2, 1) := by decide +kernel
theorem dX5_tellField_48 : decode cX5_tellField 48 = .ok (.iload_n 3, 1) := by decide +kernel
theorem dX5_tellField_49 : decode cX5_tellField 49 = .ok (.aload_n 0, 1) := by decide +kernel
theorem dX5_tellField_50 : decode cX5_tellField 50 = .ok (.iload_n 1, 1) := by decide +kernel
theorem dX5_tellField_51 : decode cX5_tellField 51 = .ok (.iconst 2, 1) := by decide +kernel
theorem dX5_tellField_52 : decode cX5_tellField 52 = .ok (.iadd, 1) := by decide +kernel
theorem dX5_tellField_53 : decode cX5_tellField 53 = .ok (.iconst 1, 1) := by decide +kernel
theorem dX5_tellField_54 : decode cX5_tellField 54 = .ok (.invokevirtual 89, 3) := by decide +kernel
theorem dX5_tellField_57 : decode cX5_tellField 57 = .ok (.aload_n 0, 1) := by decide +kernel
theorem dX5_tellField_58 : decode cX5_tellField 58 = .ok (.iload_n 1, 1) := by decide +kernel
theorem dX5_tellField_59 : decode cX5_tellField 59 = .ok (.iconst 3, 1) := by decide +kernel
theorem dX5_tellField_60 : decode cX5_tellField 60 = .ok (.iadd, 1) := by decide +kernel
theorem dX5_tellField_61 : decode cX5_tellField 61 = .ok (.iconst 3, 1) := by decide +kernel
theorem dX5_tellField_62 : decode cX5_tellField 62 = .ok (.invokevirtual 89, 3) := by decide +kernel
theorem dX5_tellField_65 : decode cX5_tellField 65 = .ok (.aload_n 0, 1) := by decide +kernel
theorem dX5_tellField_66 : decode cX5_tellField 66 = .ok (.iload_n 1, 1) := by decide +kernel
theorem dX5_tellField_67 : decode cX5_tellField 67 = .ok (.bipush 6, 2) := by decide +kernel
theorem dX5_tellField_69 : decode cX5_tellField 69 = .ok (.iadd, 1) := by decide +kernel
theorem dX5_tellField_70 : decode cX5_tellField 70 = .ok (.iconst 3, 1) := by decide +kernel
theorem dX5_tellField_71 : decode cX5_tellField 71 = .ok (.invokevirtual 89, 3) := by decide +kernel
theorem dX5_tellField_74 : decode cX5_tellField 74 = .ok (.iload 4, 2) := by decide +kernel
theorem dX5_tellField_76 : decode cX5_tellField 76 = .ok (.invokevirtual 108, 3) := by decide +kernel
theorem dX5_tellField_79 : decode cX5_tellField 79 = .ok (.iconst 1, 1) := by decide +kernel
theorem dX5_tellField_80 : decode cX5_tellField 80 = .ok (.ireturn, 1) := by decide +kernel
theorem dX5_tellRoad_0 : decode cX5_tellRoad 0 = .ok (.aload_n 0, 1) := by decide +kernel
theorem dX5_tellRoad_1 : decode cX5_tellRoad 1 = .ok (.iload_n 1, 1) := by decide +kernel
theorem dX5_tellRoad_2 : decode cX5_tellRoad 2 = .ok (.iconst 1, 1) := by decide +kernel
theorem dX5_tellRoad_3 : decode cX5_tellRoad 3 = .ok (.iadd, 1) := by decide +kernel
theorem dX5_tellRoad_4 : decode cX5_tellRoad 4 = .ok (.iconst 1, 1) := by decide +kernel
theorem dX5_tellRoad_5 : decode cX5_tellRoad 5 = .ok (.invokevirtual 89, 3) := by decide +kernel
theorem dX5_tellRoad_8 : decode cX5_tellRoad 8 = .ok (.istore_n 3, 1) := by decide +kernel
theorem dX5_tellRoad_9 : decode cX5_tellRoad 9 = .ok (.aload_n 0, 1) := by decide +kernel
theorem dX5_tellRoad_10 : decode cX5_tellRoad 10 = .ok (.iload_n 1, 1) := by decide +kernel
theorem dX5_tellRoad_11 : decode cX5_tellRoad 11 = .ok (.iconst 2, 1) := by decide +kernel
theorem dX5_tellRoad_12 : decode cX5_tellRoad 12 = .ok (.iadd, 1) := by decide +kernel
theorem dX5_tellRoad_13 : decode cX5_tellRoad 13 = .ok (.iconst 1, 1) := by decide +kernel
theorem dX5_tellRoad_14 : decode cX5_tellRoad 14 = .ok (.invokevirtual 89, 3) := by decide +kernel
theorem dX5_tellRoad_17 : decode cX5_tellRoad 17 = .ok (.istore 4, 2) := by decide +kernel
theorem dX5_tellRoad_19 : decode cX5_tellRoad 19 = .ok (.iload_n 3, 1) := by decide +kernel
theorem dX5_tellRoad_20 : decode cX5_tellRoad 20 = .ok (.iload 4, 2) := by decide +kernel
theorem dX5_tellRoad_22 : decode cX5_tellRoad 22 = .ok (.invokestatic 112, 3) := by decide +kernel
theorem dX5_tellRoad_25 : decode cX5_tellRoad 25 = .ok (.ifCond .ne 5, 3) := by decide +kernel
theorem dX5_tellRoad_28 : decode cX5_tellRoad 28 = .ok (.iconst 0, 1) := by decide +kernel
theorem dX5_tellRoad_29 : decode cX5_tellRoad 29 = .ok (.ireturn, 1) := by decide +kernel
theorem dX5_tellRoad_30 : decode cX5_tellRoad 30 = .ok (.aload_n 2, 1) := by decide +kernel
theorem dX5_tellRoad_31 : decode cX5_tellRoad 31 = .ok (.iload_n 3, 1) := by decide +kernel
theorem dX5_tellRoad_32 : decode cX5_tellRoad 32 = .ok (.iload 4, 2) := by decide +kernel
theorem dX5_tellRoad_34 : decode cX5_tellRoad 34 = .ok (.aload_n 0, 1) := by decide +kernel
theorem dX5_tellRoad_35 : decode cX5_tellRoad 35 = .ok (.iload_n 1, 1) := by decide +kernel
theorem dX5_tellRoad_36 : decode cX5_tellRoad 36 = .ok (.iconst 3, 1) := by decide +kernel
theorem dX5_tellRoad_37 : decode cX5_tellRoad 37 = .ok (.iadd, 1) := by decide +kernel
theorem dX5_tellRoad_38 : decode cX5_tellRoad 38 = .ok (.iconst 2, 1) := by decide +kernel
theorem dX5_tellRoad_39 : decode cX5_tellRoad 39 = .ok (.invokevirtual 89, 3) := by decide +kernel
theorem dX5_tellRoad_42 : decode cX5_tellRoad 42 = .ok (.invokevirtual 116, 3) := by decide +kernel
theorem dX5_tellRoad_45 : decode cX5_tellRoad 45 = .ok (.iconst 1, 1) := by decide +kernel
theorem dX5_tellRoad_46 : decode cX5_tellRoad 46 = .ok (.ireturn, 1) := by decide +kernel
theorem dX5_tellBalloon_0 : decode cX5_tellBalloon 0 = .ok (.aload_n 0, 1) := by decide +kernel
theorem dX5_tellBalloon_1 : decode cX5_tellBalloon 1 = .ok (.iload_n 1, 1) := by decide +kernel
theorem dX5_tellBalloon_2 : decode cX5_tellBalloon 2 = .ok (.iconst 1, 1) := by decide +kernel
theorem dX5_tellBalloon_3 : decode cX5_tellBalloon 3 = .ok (.iadd, 1) := by decide +kernel
theorem dX5_tellBalloon_4 : decode cX5_tellBalloon 4 = .ok (.iconst 2, 1) := by decide +kernel
theorem dX5_tellBalloon_5 : decode cX5_tellBalloon 5 = .ok (.invokevirtual 89, 3) := by decide +kernel
theorem dX5_tellBalloon_8 : decode cX5_tellBalloon 8 = .ok (.istore_n 3, 1) := by decide +kernel
theorem dX5_tellBalloon_9 : decode cX5_tellBalloon 9 = .ok (.aload_n 0, 1) := by decide +kernel
theorem dX5_tellBalloon_10 : decode cX5_tellBalloon 10 = .ok (.iload_n 1, 1) := by decide +kernel
theorem dX5_tellBalloon_11 : decode cX5_tellBalloon 11 = .ok (.iconst 3, 1) := by decide +kernel
theorem dX5_tellBalloon_12 : decode cX5_tellBalloon 12 = .ok (.iadd, 1) := by decide +kernel
theorem dX5_tellBalloon_13 : decode cX5_tellBalloon 13 = .ok (.iconst 2, 1) := by decide +kernel
theorem dX5_tellBalloon_14 : decode cX5_tellBalloon 14 = .ok (.invokevirtual 89, 3) := by decide +kernel
theorem dX5_tellBalloon_17 : decode cX5_tellBalloon 17 = .ok (.istore 4, 2) := by decide +kernel
theorem dX5_tellBalloon_19 : decode cX5_tellBalloon 19 = .ok (.aload_n 0, 1) := by decide +kernel
theorem dX5_tellBalloon_20 : decode cX5_tellBalloon 20 = .ok (.iload_n 1, 1) := by decide +kernel
theorem dX5_tellBalloon_21 : decode cX5_tellBalloon 21 = .ok (.iconst 5, 1) := by decide +kernel
theorem dX5_tellBalloon_22 : decode cX5_tellBalloon 22 = .ok (.iadd, 1) := by decide +kernel
theorem dX5_tellBalloon_23 : decode cX5_tellBalloon 23 = .ok (.iconst 1, 1) := by decide +kernel
theorem dX5_tellBalloon_24 : decode cX5_tellBalloon 24 = .ok (.invokevirtual 89, 3) := by decide +kernel
theorem dX5_tellBalloon_27 : decode cX5_tellBalloon 27 = .ok (.istore 5, 2) := by decide +kernel
theorem dX5_tellBalloon_29 : decode cX5_tellBalloon 29 = .ok (.iload_n 3, 1) := by decide +kernel
theorem dX5_tellBalloon_30 : decode cX5_tellBalloon 30 = .ok (.bipush 60, 2) := by decide +kernel
theorem dX5_tellBalloon_32 : decode cX5_tellBalloon 32 = .ok (.if_icmp .gt 23, 3) := by decide +kernel
theorem dX5_tellBalloon_35 : decode cX5_tellBalloon 35 = .ok (.iload 4, 2) := by decide +kernel
theorem dX5_tellBalloon_37 : decode cX5_tellBalloon 37 = .ok (.bipush 60, 2) := by decide +kernel
theorem dX5_tellBalloon_39 : decode cX5_tellBalloon 39 = .ok (.if_icmp .gt 16, 3) := by decide +kernel
theorem dX5_tellBalloon_42 : decode cX5_tellBalloon 42 = .ok (.iload 5, 2) := by decide +kernel
theorem dX5_tellBalloon_44 : decode cX5_tellBalloon 44 = .ok (.iconst 1, 1) := by decide +kernel
theorem dX5_tellBalloon_45 : decode cX5_tellBalloon 45 = .ok (.if_icmp .lt 10, 3) := by decide +kernel
theorem dX5_tellBalloon_48 : decode cX5_tellBalloon 48 = .ok (.iload 5, 2) := by decide +kernel
theorem dX5_tellBalloon_50 : decode cX5_tellBalloon 50 = .ok (.bipush 6, 2) := by decide +kernel
theorem dX5_tellBalloon_52 : decode cX5_tellBalloon 52 = .ok (.if_icmp .le 5, 3) := by decide +kernel
theorem dX5_tellBalloon_55 : decode cX5_tellBalloon 55 = .ok (.iconst 0, 1) := by decide +kernel
theorem dX5_tellBalloon_56 : decode cX5_tellBalloon 56 = .ok (.ireturn, 1) := by decide +kernel
theorem dX5_tellBalloon_57 : decode cX5_tellBalloon 57 = .ok (.aload_n 2, 1) := by decide +kernel
theorem dX5_tellBalloon_58 : decode cX5_tellBalloon 58 = .ok (.iload_n 3, 1) := by decide +kernel
theorem dX5_tellBalloon_59 : decode cX5_tellBalloon 59 = .ok (.putfield 121, 3) := by decide +kernel
theorem dX5_tellBalloon_62 : decode cX5_tellBalloon 62 = .ok (.aload_n 2, 1) := by decide +kernel
theorem dX5_tellBalloon_63 : decode cX5_tellBalloon 63 = .ok (.iload 4, 2) := by decide +kernel
theorem dX5_tellBalloon_65 : decode cX5_tellBalloon 65 = .ok (.putfield 126, 3) := by decide +kernel
theorem dX5_tellBalloon_68 : decode cX5_tellBalloon 68 = .ok (.aload_n 2, 1) := by decide +kernel
theorem dX5_tellBalloon_69 : decode cX5_tellBalloon 69 = .ok (.iload 5, 2) := by decide +kernel
theorem dX5_tellBalloon_71 : decode cX5_tellBalloon 71 = .ok (.putfield 129, 3) := by decide +kernel
theorem dX5_tellBalloon_74 : decode cX5_tellBalloon 74 = .ok (.iconst 1, 1) := by decide +kernel
theorem dX5_tellBalloon_75 : decode cX5_tellBalloon 75 = .ok (.ireturn, 1) := by decide +kernel
theorem dX5_tellHeight_0 : decode cX5_tellHeight 0 = .ok (.aload_n 0, 1) := by decide +kernel
theorem dX5_tellHeight_1 : decode cX5_tellHeight 1 = .ok (.iload_n 1, 1) := by decide +kernel
theorem dX5_tellHeight_2 : decode cX5_tellHeight 2 = .ok (.iconst 1, 1) := by decide +kernel
theorem dX5_tellHeight_3 : decode cX5_tellHeight 3 = .ok (.iadd, 1) := by decide +kernel
theorem dX5_tellHeight_4 : decode cX5_tellHeight 4 = .ok (.iconst 2, 1) := by decide +kernel
theorem dX5_tellHeight_5 : decode cX5_tellHeight 5 = .ok (.invokevirtual 89, 3) := by decide +kernel
theorem dX5_tellHeight_8 : decode cX5_tellHeight 8 = .ok (.istore_n 3, 1) := by decide +kernel
theorem dX5_tellHeight_9 : decode cX5_tellHeight 9 = .ok (.iload_n 3, 1) := by decide +kernel
theorem dX5_tellHeight_10 : decode cX5_tellHeight 10 = .ok (.bipush 39, 2) := by decide +kernel
theorem dX5_tellHeight_12 : decode cX5_tellHeight 12 = .ok (.if_icmp .le 5, 3) := by decide +kernel
theorem dX5_tellHeight_15 : decode cX5_tellHeight 15 = .ok (.iconst 0, 1) := by decide +kernel
theorem dX5_tellHeight_16 : decode cX5_tellHeight 16 = .ok (.ireturn, 1) := by decide +kernel
theorem dX5_tellHeight_17 : decode cX5_tellHeight 17 = .ok (.aload_n 2, 1) := by decide +kernel
theorem dX5_tellHeight_18 : decode cX5_tellHeight 18 = .ok (.iload_n 3, 1) := by decide +kernel
theorem dX5_tellHeight_19 : decode cX5_tellHeight 19 = .ok (.putfield 132, 3) := by decide +kernel
theorem dX5_tellHeight_22 : decode cX5_tellHeight 22 = .ok (.iconst 1, 1) := by decide +kernel
theorem dX5_tellHeight_23 : decode cX5_tellHeight 23 = .ok (.ireturn, 1) := by decide +kernel
theorem dX5_tellLag_0 : decode cX5_tellLag 0 = .ok (.aload_n 0, 1) := by decide +kernel
theorem dX5_tellLag_1 : decode cX5_tellLag 1 = .ok (.iload_n 1, 1) := by decide +kernel
theorem dX5_tellLag_2 : decode cX5_tellLag 2 = .ok (.iconst 1, 1) := by decide +kernel
theorem dX5_tellLag_3 : decode cX5_tellLag 3 = .ok (.iadd, 1) := by decide +kernel
theorem dX5_tellLag_4 : decode cX5_tellLag 4 = .ok (.iconst 1, 1) := by decide +kernel
theorem dX5_tellLag_5 : decode cX5_tellLag 5 = .ok (.invokevirtual 89, 3) := by decide +kernel
theorem dX5_tellLag_8 : decode cX5_tellLag 8 = .ok (.istore_n 3, 1) := by decide +kernel
theorem dX5_tellLag_9 : decode cX5_tellLag 9 = .ok (.iload_n 3, 1) := by decide +kernel
theorem dX5_tellLag_10 : decode cX5_tellLag 10 = .ok (.iconst 5, 1) := by decide +kernel
theorem dX5_tellLag_11 : decode cX5_tellLag 11 = .ok (.if_icmp .le 5, 3) := by decide +kernel
theorem dX5_tellLag_14 : decode cX5_tellLag 14 = .ok (.iconst 0, 1) := by decide +kernel
theorem dX5_tellLag_15 : decode cX5_tellLag 15 = .ok (.ireturn, 1) := by decide +kernel
theorem dX5_tellLag_16 : decode cX5_tellLag 16 = .ok (.aload_n 2, 1) := by decide +kernel
theorem dX5_tellLag_17 : decode cX5_tellLag 17 = .ok (.iload_n 3, 1) := by decide +kernel
theorem dX5_tellLag_18 : decode cX5_tellLag 18 = .ok (.putfield 135, 3) := by decide +kernel
theorem dX5_tellLag_21 : decode cX5_tellLag 21 = .ok (.aload_n 2, 1) := by decide +kernel
theorem dX5_tellLag_22 : decode cX5_tellLag 22 = .ok (.invokevirtual 138, 3) := by decide +kernel
theorem dX5_tellLag_25 : decode cX5_tellLag 25 = .ok (.iconst 1, 1) := by decide +kernel
theorem dX5_tellLag_26 : decode cX5_tellLag 26 = .ok (.ireturn, 1) := by decide +kernel
theorem dX5_tellActs_0 : decode cX5_tellActs 0 = .ok (.aload_n 3, 1) := by decide +kernel
theorem dX5_tellActs_1 : decode cX5_tellActs 1 = .ok (.getfield 72, 3) := by decide +kernel
theorem dX5_tellActs_4 : decode cX5_tellActs 4 = .ok (.astore 4, 2) := by decide +kernel
theorem dX5_tellActs_6 : decode cX5_tellActs 6 = .ok (.iload_n 1, 1) := by decide +kernel
theorem dX5_tellActs_7 : decode cX5_tellActs 7 = .ok (.iconst 1, 1) := by decide +kernel
theorem dX5_tellActs_8 : decode cX5_tellActs 8 = .ok (.iadd, 1) := by decide +kernel
theorem dX5_tellActs_9 : decode cX5_tellActs 9 = .ok (.istore 5, 2) := by decide +kernel
theorem dX5_tellActs_11 : decode cX5_tellActs 11 = .ok (.iload 5, 2) := by decide +kernel
theorem dX5_tellActs_13 : decode cX5_tellActs 13 = .ok (.iload_n 2, 1) := by decide +kernel
theorem dX5_tellActs_14 : decode cX5_tellActs 14 = .ok (.if_icmp .ge 60, 3) := by decide +kernel
theorem dX5_tellActs_17 : decode cX5_tellActs 17 = .ok (.aload_n 0, 1) := by decide +kernel
theorem dX5_tellActs_18 : decode cX5_tellActs 18 = .ok (.iload 5, 2) := by decide +kernel
theorem dX5_tellActs_20 : decode cX5_tellActs 20 = .ok (.iconst 1, 1) := by decide +kernel
theorem dX5_tellActs_21 : decode cX5_tellActs 21 = .ok (.invokevirtual 89, 3) := by decide +kernel
theorem dX5_tellActs_24 : decode cX5_tellActs 24 = .ok (.istore 6, 2) := by decide +kernel
theorem dX5_tellActs_26 : decode cX5_tellActs 26 = .ok (.iload 6, 2) := by decide +kernel
theorem dX5_tellActs_28 : decode cX5_tellActs 28 = .ok (.iconst 2, 1) := by decide +kernel
theorem dX5_tellActs_29 : decode cX5_tellActs 29 = .ok (.if_icmp .gt 26, 3) := by decide +kernel
theorem dX5_tellActs_32 : decode cX5_tellActs 32 = .ok (.aload 4, 2) := by decide +kernel
theorem dX5_tellActs_34 : decode cX5_tellActs 34 = .ok (.iload 6, 2) := by decide +kernel
theorem dX5_tellActs_36 : decode cX5_tellActs 36 = .ok (.invokevirtual 141, 3) := by decide +kernel
theorem dX5_tellActs_39 : decode cX5_tellActs 39 = .ok (.iload 6, 2) := by decide +kernel
theorem dX5_tellActs_41 : decode cX5_tellActs 41 = .ok (.if_icmp .ne 14, 3) := by decide +kernel
theorem dX5_tellActs_44 : decode cX5_tellActs 44 = .ok (.aload 4, 2) := by decide +kernel
theorem dX5_tellActs_46 : decode cX5_tellActs 46 = .ok (.getfield 144, 3) := by decide +kernel
theorem dX5_tellActs_49 : decode cX5_tellActs 49 = .ok (.sipush 999, 3) := by decide +kernel
theorem dX5_tellActs_52 : decode cX5_tellActs 52 = .ok (.if_icmp .lt 5, 3) := by decide +kernel
theorem dX5_tellActs_55 : decode cX5_tellActs 55 = .ok (.iconst 0, 1) := by decide +kernel
theorem dX5_tellActs_56 : decode cX5_tellActs 56 = .ok (.ireturn, 1) := by decide +kernel
theorem dX5_tellActs_57 : decode cX5_tellActs 57 = .ok (.aload 4, 2) := by decide +kernel
theorem dX5_tellActs_59 : decode cX5_tellActs 59 = .ok (.iload 6, 2) := by decide +kernel
theorem dX5_tellActs_61 : decode cX5_tellActs 61 = .ok (.aload_n 3, 1) := by decide +kernel
theorem dX5_tellActs_62 : decode cX5_tellActs 62 = .ok (.getfield 46, 3) := by decide +kernel
theorem dX5_tellActs_65 : decode cX5_tellActs 65 = .ok (.invokevirtual 147, 3) := by decide +kernel
theorem dX5_tellActs_68 : decode cX5_tellActs 68 = .ok (.iinc 5 1, 3) := by decide +kernel
theorem dX5_tellActs_71 : decode cX5_tellActs 71 = .ok (.goto (-60), 3) := by decide +kernel
theorem dX5_tellActs_74 : decode cX5_tellActs 74 = .ok (.iconst 1, 1) := by decide +kernel
theorem dX5_tellActs_75 : decode cX5_tellActs 75 = .ok (.ireturn, 1) := by decide +kernel
theorem dX6_init_0 : decode cX6_init 0 = .ok (.aload_n 0, 1) := by decide +kernel
theorem dX6_init_1 : decode cX6_init 1 = .ok (.invokespecial 3, 3) := by decide +kernel
theorem dX6_init_4 : decode cX6_init 4 = .ok (.aload_n 0, 1) := by decide +kernel
theorem dX6_init_5 : decode cX6_init 5 = .ok (.bipush 64, 2) := by decide +kernel
theorem dX6_init_7 : decode cX6_init 7 = .ok (.newarray .int, 2) := by decide +kernel
theorem dX6_init_9 : decode cX6_init 9 = .ok (.putfield 9, 3) := by decide +kernel
theorem dX6_init_12 : decode cX6_init 12 = .ok (.return_, 1) := by decide +kernel
theorem dX6_copyFrom_0 : decode cX6_copyFrom 0 = .ok (.aload_n 0, 1) := by decide +kernel
theorem dX6_copyFrom_1 : decode cX6_copyFrom 1 = .ok (.aload_n 1, 1) := by decide +kernel
theorem dX6_copyFrom_2 : decode cX6_copyFrom 2 = .ok (.getfield 15, 3) := by decide +kernel
theorem dX6_copyFrom_5 : decode cX6_copyFrom 5 = .ok (.putfield 15, 3) := by decide +kernel
theorem dX6_copyFrom_8 : decode cX6_copyFrom 8 = .ok (.iconst 0, 1) := by decide +kernel
theorem dX6_copyFrom_9 : decode cX6_copyFrom 9 = .ok (.istore_n 2, 1) := by decide +kernel
theorem dX6_copyFrom_10 : decode cX6_copyFrom 10 = .ok (.iload_n 2, 1) := by decide +kernel
theorem dX6_copyFrom_11 : decode cX6_copyFrom 11 = .ok (.bipush 64, 2) := by decide +kernel
theorem dX6_copyFrom_13 : decode cX6_copyFrom 13 = .ok (.if_icmp .ge 21, 3) := by decide +kernel
theorem dX6_copyFrom_16 : decode cX6_copyFrom 16 = .ok (.aload_n 0, 1) := by decide +kernel
theorem dX6_copyFrom_17 : decode cX6_copyFrom 17 = .ok (.getfield 9, 3) := by decide +kernel
theorem dX6_copyFrom_20 : decode cX6_copyFrom 20 = .ok (.iload_n 2, 1) := by decide +kernel
theorem dX6_copyFrom_21 : decode cX6_copyFrom 21 = .ok (.aload_n 1, 1) := by decide +kernel
theorem dX6_copyFrom_22 : decode cX6_copyFrom 22 = .ok (.getfield 9, 3) := by decide +kernel
theorem dX6_copyFrom_25 : decode cX6_copyFrom 25 = .ok (.iload_n 2, 1) := by decide +kernel
theorem dX6_copyFrom_26 : decode cX6_copyFrom 26 = .ok (.iaload, 1) := by decide +kernel
theorem dX6_copyFrom_27 : decode cX6_copyFrom 27 = .ok (.iastore, 1) := by decide +kernel
theorem dX6_copyFrom_28 : decode cX6_copyFrom 28 = .ok (.iinc 2 1, 3) := by decide +kernel
theorem dX6_copyFrom_31 : decode cX6_copyFrom 31 = .ok (.goto (-21), 3) := by decide +kernel
theorem dX6_copyFrom_34 : decode cX6_copyFrom 34 = .ok (.return_, 1) := by decide +kernel
theorem dX6_between_0 : decode cX6_between 0 = .ok (.iload_n 1, 1) := by decide +kernel
theorem dX6_between_1 : decode cX6_between 1 = .ok (.invokestatic 19, 3) := by decide +kernel
theorem dX6_between_4 : decode cX6_between 4 = .ok (.ifCond .eq 24, 3) := by decide +kernel
theorem dX6_between_7 : decode cX6_between 7 = .ok (.iload_n 2, 1) := by decide +kernel
theorem dX6_between_8 : decode cX6_between 8 = .ok (.invokestatic 19, 3) := by decide +kernel
theorem dX6_between_11 : decode cX6_between 11 = .ok (.ifCond .eq 17, 3) := by decide +kernel
theorem dX6_between_14 : decode cX6_between 14 = .ok (.aload_n 0, 1) := by decide +kernel
theorem dX6_between_15 : decode cX6_between 15 = .ok (.getfield 9, 3) := by decide +kernel
theorem dX6_between_18 : decode cX6_between 18 = .ok (.iload_n 1, 1) := by decide +kernel
theorem dX6_between_19 : decode cX6_between 19 = .ok (.bipush 8, 2) := by decide +kernel
theorem dX6_between_21 : decode cX6_between 21 = .ok (.imul, 1) := by decide +kernel
theorem dX6_between_22 : decode cX6_between 22 = .ok (.iload_n 2, 1) := by decide +kernel
theorem dX6_between_23 : decode cX6_between 23 = .ok (.iadd, 1) := by decide +kernel
theorem dX6_between_24 : decode cX6_between 24 = .ok (.iaload, 1) := by decide +kernel
theorem dX6_between_25 : decode cX6_between 25 = .ok (.goto 4, 3) := by decide +kernel
theorem dX6_between_28 : decode cX6_between 28 = .ok (.iconst 0, 1) := by decide +kernel
theorem dX6_between_29 : decode cX6_between 29 = .ok (.ireturn, 1) := by decide +kernel
theorem dX6_lay_0 : decode cX6_lay 0 = .ok (.iload_n 1, 1) := by decide +kernel
theorem dX6_lay_1 : decode cX6_lay 1 = .ok (.invokestatic 19, 3) := by decide +kernel
theorem dX6_lay_4 : decode cX6_lay 4 = .ok (.ifCond .eq 34, 3) := by decide +kernel
theorem dX6_lay_7 : decode cX6_lay 7 = .ok (.iload_n 2, 1) := by decide +kernel
theorem dX6_lay_8 : decode cX6_lay 8 = .ok (.invokestatic 19, 3) := by decide +kernel
theorem dX6_lay_11 : decode cX6_lay 11 = .ok (.ifCond .eq 27, 3) := by decide +kernel
theorem dX6_lay_14 : decode cX6_lay 14 = .ok (.aload_n 0, 1) := by decide +kernel
theorem dX6_lay_15 : decode cX6_lay 15 = .ok (.getfield 9, 3) := by decide +kernel
theorem dX6_lay_18 : decode cX6_lay 18 = .ok (.iload_n 1, 1) := by decide +kernel
theorem dX6_lay_19 : decode cX6_lay 19 = .ok (.bipush 8, 2) := by decide +kernel
theorem dX6_lay_21 : decode cX6_lay 21 = .ok (.imul, 1) := by decide +kernel
theorem dX6_lay_22 : decode cX6_lay 22 = .ok (.iload_n 2, 1) := by decide +kernel
theorem dX6_lay_23 : decode cX6_lay 23 = .ok (.iadd, 1) := by decide +kernel
theorem dX6_lay_24 : decode cX6_lay 24 = .ok (.iload_n 3, 1) := by decide +kernel
theorem dX6_lay_25 : decode cX6_lay 25 = .ok (.iastore, 1) := by decide +kernel
theorem dX6_lay_26 : decode cX6_lay 26 = .ok (.aload_n 0, 1) := by decide +kernel
theorem dX6_lay_27 : decode cX6_lay 27 = .ok (.getfield 9, 3) := by decide +kernel
theorem dX6_lay_30 : decode cX6_lay 30 = .ok (.iload_n 2, 1) := by decide +kernel
theorem dX6_lay_31 : decode cX6_lay 31 = .ok (.bipush 8, 2) := by decide +kernel
theorem dX6_lay_33 : decode cX6_lay 33 = .ok (.imul, 1) := by decide +kernel
theorem dX6_lay_34 : decode cX6_lay 34 = .ok (.iload_n 1, 1) := by decide +kernel
theorem dX6_lay_35 : decode cX6_lay 35 = .ok (.iadd, 1) := by decide +kernel
theorem dX6_lay_36 : decode cX6_lay 36 = .ok (.iload_n 3, 1) := by decide +kernel
theorem dX6_lay_37 : decode cX6_lay 37 = .ok (.iastore, 1) := by decide +kernel
theorem dX6_lay_38 : decode cX6_lay 38 = .ok (.return_, 1) := by decide +kernel
theorem dX6_nearestTo_0 : decode cX6_nearestTo 0 = .ok (.iconst 0, 1) := by decide +kernel
theorem dX6_nearestTo_1 : decode cX6_nearestTo 1 = .ok (.istore_n 1, 1) := by decide +kernel
theorem dX6_nearestTo_2 : decode cX6_nearestTo 2 = .ok (.iconst 1, 1) := by decide +kernel
theorem dX6_nearestTo_3 : decode cX6_nearestTo 3 = .ok (.istore_n 2, 1) := by decide +kernel
theorem dX6_nearestTo_4 : decode cX6_nearestTo 4 = .ok (.iload_n 2, 1) := by decide +kernel
theorem dX6_nearestTo_5 : decode cX6_nearestTo 5 = .ok (.bipush 8, 2) := by decide +kernel
theorem dX6_nearestTo_7 : decode cX6_nearestTo 7 = .ok (.if_icmp .ge 36, 3) := by decide +kernel
theorem dX6_nearestTo_10 : decode cX6_nearestTo 10 = .ok (.iload_n 0, 1) := by decide +kernel
theorem dX6_nearestTo_11 : decode cX6_nearestTo 11 = .ok (.bipush 100, 2) := by decide +kernel
theorem dX6_nearestTo_13 : decode cX6_nearestTo 13 = .ok (.iload_n 2, 1) := by decide +kernel
theorem dX6_nearestTo_14 : decode cX6_nearestTo 14 = .ok (.imul, 1) := by decide +kernel
theorem dX6_nearestTo_15 : decode cX6_nearestTo 15 = .ok (.isub, 1) := by decide +kernel
theorem dX6_nearestTo_16 : decode cX6_nearestTo 16 = .ok (.invokestatic 23, 3) := by decide +kernel
theorem dX6_nearestTo_19 : decode cX6_nearestTo 19 = .ok (.iload_n 0, 1) := by decide +kernel
theorem dX6_nearestTo_20 : decode cX6_nearestTo 20 = .ok (.bipush 100, 2) := by decide +kernel
theorem dX6_nearestTo_22 : decode cX6_nearestTo 22 = .ok (.iload_n 1, 1) := by decide +kernel
theorem dX6_nearestTo_23 : decode cX6_nearestTo 23 = .ok (.imul, 1) := by decide +kernel
theorem dX6_nearestTo_24 : decode cX6_nearestTo 24 = .ok (.isub, 1) := by decide +kernel
theorem dX6_nearestTo_25 : decode cX6_nearestTo 25 = .ok (.invokestatic 23, 3) := by decide +kernel
theorem dX6_nearestTo_28 : decode cX6_nearestTo 28 = .ok (.if_icmp .ge 7, 3) := by decide +kernel
theorem dX6_nearestTo_31 : decode cX6_nearestTo 31 = .ok (.iload_n 2, 1) := by decide +kernel
theorem dX6_nearestTo_32 : decode cX6_nearestTo 32 = .ok (.goto 4, 3) := by decide +kernel
theorem dX6_nearestTo_35 : decode cX6_nearestTo 35 = .ok (.iload_n 1, 1) := by decide +kernel
theorem dX6_nearestTo_36 : decode cX6_nearestTo 36 = .ok (.istore_n 1, 1) := by decide +kernel
theorem dX6_nearestTo_37 : decode cX6_nearestTo 37 = .ok (.iinc 2 1, 3) := by decide +kernel
theorem dX6_nearestTo_40 : decode cX6_nearestTo 40 = .ok (.goto (-36), 3) := by decide +kernel
theorem dX6_nearestTo_43 : decode cX6_nearestTo 43 = .ok (.iload_n 1, 1) := by decide +kernel
theorem dX6_nearestTo_44 : decode cX6_nearestTo 44 = .ok (.ireturn, 1) := by decide +kernel
theorem dX7_init_0 : decode cX7_init 0 = .ok (.aload_n 0, 1) := by decide +kernel
theorem dX7_init_1 : decode cX7_init 1 = .ok (.invokespecial 1, 3) := by decide +kernel
theorem dX7_init_4 : decode cX7_init 4 = .ok (.aload_n 0, 1) := by decide +kernel
theorem dX7_init_5 : decode cX7_init 5 = .ok (.iload_n 1, 1) := by decide +kernel
theorem dX7_init_6 : decode cX7_init 6 = .ok (.ifCond .ge 7, 3) := by decide +kernel
theorem dX7_init_9 : decode cX7_init 9 = .ok (.iconst 0, 1) := by decide +kernel
theorem dX7_init_10 : decode cX7_init 10 = .ok (.goto 4, 3) := by decide +kernel
theorem dX7_init_13 : decode cX7_init 13 = .ok (.iload_n 1, 1) := by decide +kernel
theorem dX7_init_14 : decode cX7_init 14 = .ok (.newarray .int, 2) := by decide +kernel
theorem dX7_init_16 : decode cX7_init 16 = .ok (.putfield 7, 3) := by decide +kernel
theorem dX7_init_19 : decode cX7_init 19 = .ok (.return_, 1) := by decide +kernel
theorem dX7_isFull_0 : decode cX7_isFull 0 = .ok (.aload_n 0, 1) := by decide +kernel
theorem dX7_isFull_1 : decode cX7_isFull 1 = .ok (.getfield 13, 3) := by decide +kernel
theorem dX7_isFull_4 : decode cX7_isFull 4 = .ok (.aload_n 0, 1) := by decide +kernel
theorem dX7_isFull_5 : decode cX7_isFull 5 = .ok (.getfield 7, 3) := by decide +kernel
theorem dX7_isFull_8 : decode cX7_isFull 8 = .ok (.arraylength, 1) := by decide +kernel
theorem dX7_isFull_9 : decode cX7_isFull 9 = .ok (.if_icmp .lt 7, 3) := by decide +kernel
theorem dX7_isFull_12 : decode cX7_isFull 12 = .ok (.iconst 1, 1) := by decide +kernel
theorem dX7_isFull_13 : decode cX7_isFull 13 = .ok (.goto 4, 3) := by decide +kernel
theorem dX7_isFull_16 : decode cX7_isFull 16 = .ok (.iconst 0, 1) := by decide +kernel
theorem dX7_isFull_17 : decode cX7_isFull 17 = .ok (.ireturn, 1) := by decide +kernel
theorem dX7_add_0 : decode cX7_add 0 = .ok (.aload_n 0, 1) := by decide +kernel
theorem dX7_add_1 : decode cX7_add 1 = .ok (.getfield 13, 3) := by decide +kernel
theorem dX7_add_4 : decode cX7_add 4 = .ok (.ifCond .lt 35, 3) := by decide +kernel
theorem dX7_add_7 : decode cX7_add 7 = .ok (.aload_n 0, 1) := by decide +kernel
theorem dX7_add_8 : decode cX7_add 8 = .ok (.getfield 13, 3) := by decide +kernel
theorem dX7_add_11 : decode cX7_add 11 = .ok (.aload_n 0, 1) := by decide +kernel
theorem dX7_add_12 : decode cX7_add 12 = .ok (.getfield 7, 3) := by decide +kernel
theorem dX7_add_15 : decode cX7_add 15 = .ok (.arraylength, 1) := by decide +kernel
theorem dX7_add_16 : decode cX7_add 16 = .ok (.if_icmp .ge 23, 3) := by decide +kernel
theorem dX7_add_19 : decode cX7_add 19 = .ok (.aload_n 0, 1) := by decide +kernel
theorem dX7_add_20 : decode cX7_add 20 = .ok (.getfield 7, 3) := by decide +kernel
theorem dX7_add_23 : decode cX7_add 23 = .ok (.aload_n 0, 1) := by decide +kernel
theorem dX7_add_24 : decode cX7_add 24 = .ok (.getfield 13, 3) := by decide +kernel
theorem dX7_add_27 : decode cX7_add 27 = .ok (.iload_n 1, 1) := by decide +kernel
theorem dX7_add_28 : decode cX7_add 28 = .ok (.iastore, 1) := by decide +kernel
theorem dX7_add_29 : decode cX7_add 29 = .ok (.aload_n 0, 1) := by decide +kernel
theorem dX7_add_30 : decode cX7_add 30 = .ok (.dup, 1) := by decide +kernel
theorem dX7_add_31 : decode cX7_add 31 = .ok (.getfield 13, 3) := by decide +kernel
theorem dX7_add_34 : decode cX7_add 34 = .ok (.iconst 1, 1) := by decide +kernel
theorem dX7_add_35 : decode cX7_add 35 = .ok (.iadd, 1) := by decide +kernel
theorem dX7_add_36 : decode cX7_add 36 = .ok (.putfield 13, 3) := by decide +kernel
theorem dX7_add_39 : decode cX7_add 39 = .ok (.aload_n 0, 1) := by decide +kernel
theorem dX7_add_40 : decode cX7_add 40 = .ok (.getfield 13, 3) := by decide +kernel
theorem dX7_add_43 : decode cX7_add 43 = .ok (.ireturn, 1) := by decide +kernel
theorem dX7_at_0 : decode cX7_at 0 = .ok (.iload_n 1, 1) := by decide +kernel
theorem dX7_at_1 : decode cX7_at 1 = .ok (.ifCond .lt 29, 3) := by decide +kernel
theorem dX7_at_4 : decode cX7_at 4 = .ok (.iload_n 1, 1) := by decide +kernel
theorem dX7_at_5 : decode cX7_at 5 = .ok (.aload_n 0, 1) := by decide +kernel
theorem dX7_at_6 : decode cX7_at 6 = .ok (.getfield 13, 3) := by decide +kernel
theorem dX7_at_9 : decode cX7_at 9 = .ok (.if_icmp .ge 21, 3) := by decide +kernel
theorem dX7_at_12 : decode cX7_at 12 = .ok (.iload_n 1, 1) := by decide +kernel
theorem dX7_at_13 : decode cX7_at 13 = .ok (.aload_n 0, 1) := by decide +kernel
theorem dX7_at_14 : decode cX7_at 14 = .ok (.getfield 7, 3) := by decide +kernel
theorem dX7_at_17 : decode cX7_at 17 = .ok (.arraylength, 1) := by decide +kernel
theorem dX7_at_18 : decode cX7_at 18 = .ok (.if_icmp .ge 12, 3) := by decide +kernel
theorem dX7_at_21 : decode cX7_at 21 = .ok (.aload_n 0, 1) := by decide +kernel
theorem dX7_at_22 : decode cX7_at 22 = .ok (.getfield 7, 3) := by decide +kernel
theorem dX7_at_25 : decode cX7_at 25 = .ok (.iload_n 1, 1) := by decide +kernel
theorem dX7_at_26 : decode cX7_at 26 = .ok (.iaload, 1) := by decide +kernel
theorem dX7_at_27 : decode cX7_at 27 = .ok (.goto 4, 3) := by decide +kernel
theorem dX7_at_30 : decode cX7_at 30 = .ok (.iconst (-1), 1) := by decide +kernel
theorem dX7_at_31 : decode cX7_at 31 = .ok (.ireturn, 1) := by decide +kernel
theorem dX7_sum_0 : decode cX7_sum 0 = .ok (.iconst 0, 1) := by decide +kernel
theorem dX7_sum_1 : decode cX7_sum 1 = .ok (.istore_n 1, 1) := by decide +kernel
theorem dX7_sum_2 : decode cX7_sum 2 = .ok (.iconst 0, 1) := by decide +kernel
theorem dX7_sum_3 : decode cX7_sum 3 = .ok (.istore_n 2, 1) := by decide +kernel
theorem dX7_sum_4 : decode cX7_sum 4 = .ok (.iload_n 2, 1) := by decide +kernel
theorem dX7_sum_5 : decode cX7_sum 5 = .ok (.aload_n 0, 1) := by decide +kernel
theorem dX7_sum_6 : decode cX7_sum 6 = .ok (.getfield 13, 3) := by decide +kernel
theorem dX7_sum_9 : decode cX7_sum 9 = .ok (.if_icmp .ge 17, 3) := by decide +kernel
theorem dX7_sum_12 : decode cX7_sum 12 = .ok (.iload_n 1, 1) := by decide +kernel
theorem dX7_sum_13 : decode cX7_sum 13 = .ok (.aload_n 0, 1) := by decide +kernel
theorem dX7_sum_14 : decode cX7_sum 14 = .ok (.iload_n 2, 1) := by decide +kernel
theorem dX7_sum_15 : decode cX7_sum 15 = .ok (.invokevirtual 17, 3) := by decide +kernel
theorem dX7_sum_18 : decode cX7_sum 18 = .ok (.iadd, 1) := by decide +kernel
theorem dX7_sum_19 : decode cX7_sum 19 = .ok (.istore_n 1, 1) := by decide +kernel
theorem dX7_sum_20 : decode cX7_sum 20 = .ok (.iinc 2 1, 3) := by decide +kernel
theorem dX7_sum_23 : decode cX7_sum 23 = .ok (.goto (-19), 3) := by decide +kernel
theorem dX7_sum_26 : decode cX7_sum 26 = .ok (.iload_n 1, 1) := by decide +kernel
theorem dX7_sum_27 : decode cX7_sum 27 = .ok (.ireturn, 1) := by decide +kernel
theorem dX7_drop_0 : decode cX7_drop 0 = .ok (.aload_n 0, 1) := by decide +kernel
theorem dX7_drop_1 : decode cX7_drop 1 = .ok (.iconst 0, 1) := by decide +kernel
theorem dX7_drop_2 : decode cX7_drop 2 = .ok (.putfield 13, 3) := by decide +kernel
theorem dX7_drop_5 : decode cX7_drop 5 = .ok (.return_, 1) := by decide +kernel
theorem dX8_init_0 : decode cX8_init 0 = .ok (.aload_n 0, 1) := by decide +kernel
theorem dX8_init_1 : decode cX8_init 1 = .ok (.invokespecial 3, 3) := by decide +kernel
theorem dX8_init_4 : decode cX8_init 4 = .ok (.aload_n 0, 1) := by decide +kernel
theorem dX8_init_5 : decode cX8_init 5 = .ok (.bipush 64, 2) := by decide +kernel
theorem dX8_init_7 : decode cX8_init 7 = .ok (.newarray .int, 2) := by decide +kernel
theorem dX8_init_9 : decode cX8_init 9 = .ok (.putfield 9, 3) := by decide +kernel
theorem dX8_init_12 : decode cX8_init 12 = .ok (.aload_n 0, 1) := by decide +kernel
theorem dX8_init_13 : decode cX8_init 13 = .ok (.sipush 2048, 3) := by decide +kernel
theorem dX8_init_16 : decode cX8_init 16 = .ok (.newarray .int, 2) := by decide +kernel
theorem dX8_init_18 : decode cX8_init 18 = .ok (.putfield 15, 3) := by decide +kernel
theorem dX8_init_21 : decode cX8_init 21 = .ok (.return_, 1) := by decide +kernel
theorem dX8_measure_0 : decode cX8_measure 0 = .ok (.aload_n 0, 1) := by decide +kernel
theorem dX8_measure_1 : decode cX8_measure 1 = .ok (.aload_n 1, 1) := by decide +kernel
theorem dX8_measure_2 : decode cX8_measure 2 = .ok (.invokevirtual 18, 3) := by decide +kernel
theorem dX8_measure_5 : decode cX8_measure 5 = .ok (.aload_n 0, 1) := by decide +kernel
theorem dX8_measure_6 : decode cX8_measure 6 = .ok (.invokevirtual 22, 3) := by decide +kernel
theorem dX8_measure_9 : decode cX8_measure 9 = .ok (.return_, 1) := by decide +kernel
theorem dX8_measureWithout_0 : decode cX8_measureWithout 0 = .ok (.aload_n 0, 1) := by decide +kernel
theorem dX8_measureWithout_1 : decode cX8_measureWithout 1 = .ok (.aload_n 1, 1) := by decide +kernel
theorem dX8_measureWithout_2 : decode cX8_measureWithout 2 = .ok (.invokevirtual 18, 3) := by decide +kernel
theorem dX8_measureWithout_5 : decode cX8_measureWithout 5 = .ok (.iload_n 2, 1) := by decide +kernel
theorem dX8_measureWithout_6 : decode cX8_measureWithout 6 = .ok (.iload_n 3, 1) := by decide +kernel
theorem dX8_measureWithout_7 : decode cX8_measureWithout 7 = .ok (.invokestatic 25, 3) := by decide +kernel
theorem dX8_measureWithout_10 : decode cX8_measureWithout 10 = .ok (.ifCond .eq 29, 3) := by decide +kernel
theorem dX8_measureWithout_13 : decode cX8_measureWithout 13 = .ok (.aload_n 0, 1) := by decide +kernel
theorem dX8_measureWithout_14 : decode cX8_measureWithout 14 = .ok (.getfield 9, 3) := by decide +kernel
theorem dX8_measureWithout_17 : decode cX8_measureWithout 17 = .ok (.iload_n 2, 1) := by decide +kernel
theorem dX8_measureWithout_18 : decode cX8_measureWithout 18 = .ok (.bipush 8, 2) := by decide +kernel
theorem dX8_measureWithout_20 : decode cX8_measureWithout 20 = .ok (.imul, 1) := by decide +kernel
theorem dX8_measureWithout_21 : decode cX8_measureWithout 21 = .ok (.iload_n 3, 1) := by decide +kernel
theorem dX8_measureWithout_22 : decode cX8_measureWithout 22 = .ok (.iadd, 1) := by decide +kernel
theorem dX8_measureWithout_23 : decode cX8_measureWithout 23 = .ok (.ldc 29, 2) := by decide +kernel
theorem dX8_measureWithout_25 : decode cX8_measureWithout 25 = .ok (.iastore, 1) := by decide +kernel
theorem dX8_measureWithout_26 : decode cX8_measureWithout 26 = .ok (.aload_n 0, 1) := by decide +kernel
theorem dX8_measureWithout_27 : decode cX8_measureWithout 27 = .ok (.getfield 9, 3) := by decide +kernel
theorem dX8_measureWithout_30 : decode cX8_measureWithout 30 = .ok (.iload_n 3, 1) := by decide +kernel
theorem dX8_measureWithout_31 : decode cX8_measureWithout 31 = .ok (.bipush 8, 2) := by decide +kernel
theorem dX8_measureWithout_33 : decode cX8_measureWithout 33 = .ok (.imul, 1) := by decide +kernel
theorem dX8_measureWithout_34 : decode cX8_measureWithout 34 = .ok (.iload_n 2, 1) := by decide +kernel
theorem dX8_measureWithout_35 : decode cX8_measureWithout 35 = .ok (.iadd, 1) := by decide +kernel
theorem dX8_measureWithout_36 : decode cX8_measureWithout 36 = .ok (.ldc 29, 2) := by decide +kernel
theorem dX8_measureWithout_38 : decode cX8_measureWithout 38 = .ok (.iastore, 1) := by decide +kernel
theorem dX8_measureWithout_39 : decode cX8_measureWithout 39 = .ok (.aload_n 0, 1) := by decide +kernel
theorem dX8_measureWithout_40 : decode cX8_measureWithout 40 = .ok (.invokevirtual 22, 3) := by decide +kernel
theorem dX8_measureWithout_43 : decode cX8_measureWithout 43 = .ok (.return_, 1) := by decide +kernel
theorem dX8_takeRoads_0 : decode cX8_takeRoads 0 = .ok (.iconst 0, 1) := by decide +kernel
theorem dX8_takeRoads_1 : decode cX8_takeRoads 1 = .ok (.istore_n 2, 1) := by decide +kernel
theorem dX8_takeRoads_2 : decode cX8_takeRoads 2 = .ok (.iload_n 2, 1) := by decide +kernel
theorem dX8_takeRoads_3 : decode cX8_takeRoads 3 = .ok (.bipush 8, 2) := by decide +kernel
theorem dX8_takeRoads_5 : decode cX8_takeRoads 5 = .ok (.if_icmp .ge 63, 3) := by decide +kernel
theorem dX8_takeRoads_8 : decode cX8_takeRoads 8 = .ok (.iconst 0, 1) := by decide +kernel
theorem dX8_takeRoads_9 : decode cX8_takeRoads 9 = .ok (.istore_n 3, 1) := by decide +kernel
theorem dX8_takeRoads_10 : decode cX8_takeRoads 10 = .ok (.iload_n 3, 1) := by decide +kernel
theorem dX8_takeRoads_11 : decode cX8_takeRoads 11 = .ok (.bipush 8, 2) := by decide +kernel
theorem dX8_takeRoads_13 : decode cX8_takeRoads 13 = .ok (.if_icmp .ge 49, 3) := by decide +kernel
theorem dX8_takeRoads_16 : decode cX8_takeRoads 16 = .ok (.aload_n 1, 1) := by decide +kernel
theorem dX8_takeRoads_17 : decode cX8_takeRoads 17 = .ok (.iload_n 2, 1) := by decide +kernel
theorem dX8_takeRoads_18 : decode cX8_takeRoads 18 = .ok (.iload_n 3, 1) := by decide +kernel
theorem dX8_takeRoads_19 : decode cX8_takeRoads 19 = .ok (.invokevirtual 30, 3) := by decide +kernel
theorem dX8_takeRoads_22 : decode cX8_takeRoads 22 = .ok (.istore 4, 2) := by decide +kernel
theorem dX8_takeRoads_24 : decode cX8_takeRoads 24 = .ok (.aload_n 0, 1) := by decide +kernel
theorem dX8_takeRoads_25 : decode cX8_takeRoads 25 = .ok (.getfield 9, 3) := by decide +kernel
theorem dX8_takeRoads_28 : decode cX8_takeRoads 28 = .ok (.iload_n 2, 1) := by decide +kernel
theorem dX8_takeRoads_29 : decode cX8_takeRoads 29 = .ok (.bipush 8, 2) := by decide +kernel
theorem dX8_takeRoads_31 : decode cX8_takeRoads 31 = .ok (.imul, 1) := by decide +kernel
theorem dX8_takeRoads_32 : decode cX8_takeRoads 32 = .ok (.iload_n 3, 1) := by decide +kernel
theorem dX8_takeRoads_33 : decode cX8_takeRoads 33 = .ok (.iadd, 1) := by decide +kernel
theorem dX8_takeRoads_34 : decode cX8_takeRoads 34 = .ok (.iload_n 2, 1) := by decide +kernel
theorem dX8_takeRoads_35 : decode cX8_takeRoads 35 = .ok (.iload_n 3, 1) := by decide +kernel
theorem dX8_takeRoads_36 : decode cX8_takeRoads 36 = .ok (.if_icmp .ne 7, 3) := by decide +kernel
theorem dX8_takeRoads_39 : decode cX8_takeRoads 39 = .ok (.iconst 0, 1) := by decide +kernel
theorem dX8_takeRoads_40 : decode cX8_takeRoads 40 = .ok (.goto 15, 3) := by decide +kernel
theorem dX8_takeRoads_43 : decode cX8_takeRoads 43 = .ok (.iload 4, 2) := by decide +kernel
theorem dX8_takeRoads_45 : decode cX8_takeRoads 45 = .ok (.ifCond .le 8, 3) := by decide +kernel
theorem dX8_takeRoads_48 : decode cX8_takeRoads 48 = .ok (.iload 4, 2) := by decide +kernel
theorem dX8_takeRoads_50 : decode cX8_takeRoads 50 = .ok (.goto 5, 3) := by decide +kernel
theorem dX8_takeRoads_53 : decode cX8_takeRoads 53 = .ok (.ldc 29, 2) := by decide +kernel
theorem dX8_takeRoads_55 : decode cX8_takeRoads 55 = .ok (.iastore, 1) := by decide +kernel
theorem dX8_takeRoads_56 : decode cX8_takeRoads 56 = .ok (.iinc 3 1, 3) := by decide +kernel
theorem dX8_takeRoads_59 : decode cX8_takeRoads 59 = .ok (.goto (-49), 3) := by decide +kernel
theorem dX8_takeRoads_62 : decode cX8_takeRoads 62 = .ok (.iinc 2 1, 3) := by decide +kernel
theorem dX8_takeRoads_65 : decode cX8_takeRoads 65 = .ok (.goto (-63), 3) := by decide +kernel
theorem dX8_takeRoads_68 : decode cX8_takeRoads 68 = .ok (.return_, 1) := by decide +kernel
theorem dX8_joinRoads_0 : decode cX8_joinRoads 0 = .ok (.iconst 0, 1) := by decide +kernel
theorem dX8_joinRoads_1 : decode cX8_joinRoads 1 = .ok (.istore_n 1, 1) := by decide +kernel
theorem dX8_joinRoads_2 : decode cX8_joinRoads 2 = .ok (.iload_n 1, 1) := by decide +kernel
theorem dX8_joinRoads_3 : decode cX8_joinRoads 3 = .ok (.bipush 8, 2) := by decide +kernel
theorem dX8_joinRoads_5 : decode cX8_joinRoads 5 = .ok (.if_icmp .ge 104, 3) := by decide +kernel
theorem dX8_joinRoads_8 : decode cX8_joinRoads 8 = .ok (.iconst 0, 1) := by decide +kernel
theorem dX8_joinRoads_9 : decode cX8_joinRoads 9 = .ok (.istore_n 2, 1) := by decide +kernel
theorem dX8_joinRoads_10 : decode cX8_joinRoads 10 = .ok (.iload_n 2, 1) := by decide +kernel
theorem dX8_joinRoads_11 : decode cX8_joinRoads 11 = .ok (.bipush 8, 2) := by decide +kernel
theorem dX8_joinRoads_13 : decode cX8_joinRoads 13 = .ok (.if_icmp .ge 90, 3) := by decide +kernel
theorem dX8_joinRoads_16 : decode cX8_joinRoads 16 = .ok (.aload_n 0, 1) := by decide +kernel
theorem dX8_joinRoads_17 : decode cX8_joinRoads 17 = .ok (.getfield 9, 3) := by decide +kernel
theorem dX8_joinRoads_20 : decode cX8_joinRoads 20 = .ok (.iload_n 2, 1) := by decide +kernel
theorem dX8_joinRoads_21 : decode cX8_joinRoads 21 = .ok (.bipush 8, 2) := by decide +kernel
theorem dX8_joinRoads_23 : decode cX8_joinRoads 23 = .ok (.imul, 1) := by decide +kernel
theorem dX8_joinRoads_24 : decode cX8_joinRoads 24 = .ok (.iload_n 1, 1) := by decide +kernel
theorem dX8_joinRoads_25 : decode cX8_joinRoads 25 = .ok (.iadd, 1) := by decide +kernel
theorem dX8_joinRoads_26 : decode cX8_joinRoads 26 = .ok (.iaload, 1) := by decide +kernel
theorem dX8_joinRoads_27 : decode cX8_joinRoads 27 = .ok (.istore_n 3, 1) := by decide +kernel
theorem dX8_joinRoads_28 : decode cX8_joinRoads 28 = .ok (.iconst 0, 1) := by decide +kernel
theorem dX8_joinRoads_29 : decode cX8_joinRoads 29 = .ok (.istore 4, 2) := by decide +kernel
theorem dX8_joinRoads_31 : decode cX8_joinRoads 31 = .ok (.iload 4, 2) := by decide +kernel
theorem dX8_joinRoads_33 : decode cX8_joinRoads 33 = .ok (.bipush 8, 2) := by decide +kernel
theorem dX8_joinRoads_35 : decode cX8_joinRoads 35 = .ok (.if_icmp .ge 62, 3) := by decide +kernel
theorem dX8_joinRoads_38 : decode cX8_joinRoads 38 = .ok (.iload_n 3, 1) := by decide +kernel
theorem dX8_joinRoads_39 : decode cX8_joinRoads 39 = .ok (.ldc 29, 2) := by decide +kernel
theorem dX8_joinRoads_41 : decode cX8_joinRoads 41 = .ok (.if_icmp .ge 56, 3) := by decide +kernel
theorem dX8_joinRoads_44 : decode cX8_joinRoads 44 = .ok (.iload_n 3, 1) := by decide +kernel
theorem dX8_joinRoads_45 : decode cX8_joinRoads 45 = .ok (.aload_n 0, 1) := by decide +kernel
theorem dX8_joinRoads_46 : decode cX8_joinRoads 46 = .ok (.getfield 9, 3) := by decide +kernel
theorem dX8_joinRoads_49 : decode cX8_joinRoads 49 = .ok (.iload_n 1, 1) := by decide +kernel
theorem dX8_joinRoads_50 : decode cX8_joinRoads 50 = .ok (.bipush 8, 2) := by decide +kernel
theorem dX8_joinRoads_52 : decode cX8_joinRoads 52 = .ok (.imul, 1) := by decide +kernel
theorem dX8_joinRoads_53 : decode cX8_joinRoads 53 = .ok (.iload 4, 2) := by decide +kernel
theorem dX8_joinRoads_55 : decode cX8_joinRoads 55 = .ok (.iadd, 1) := by decide +kernel
theorem dX8_joinRoads_56 : decode cX8_joinRoads 56 = .ok (.iaload, 1) := by decide +kernel
theorem dX8_joinRoads_57 : decode cX8_joinRoads 57 = .ok (.iadd, 1) := by decide +kernel
theorem dX8_joinRoads_58 : decode cX8_joinRoads 58 = .ok (.istore 5, 2) := by decide +kernel
theorem dX8_joinRoads_60 : decode cX8_joinRoads 60 = .ok (.iload 5, 2) := by decide +kernel
theorem dX8_joinRoads_62 : decode cX8_joinRoads 62 = .ok (.aload_n 0, 1) := by decide +kernel
theorem dX8_joinRoads_63 : decode cX8_joinRoads 63 = .ok (.getfield 9, 3) := by decide +kernel
theorem dX8_joinRoads_66 : decode cX8_joinRoads 66 = .ok (.iload_n 2, 1) := by decide +kernel
theorem dX8_joinRoads_67 : decode cX8_joinRoads 67 = .ok (.bipush 8, 2) := by decide +kernel
theorem dX8_joinRoads_69 : decode cX8_joinRoads 69 = .ok (.imul, 1) := by decide +kernel
theorem dX8_joinRoads_70 : decode cX8_joinRoads 70 = .ok (.iload 4, 2) := by decide +kernel
theorem dX8_joinRoads_72 : decode cX8_joinRoads 72 = .ok (.iadd, 1) := by decide +kernel
theorem dX8_joinRoads_73 : decode cX8_joinRoads 73 = .ok (.iaload, 1) := by decide +kernel
theorem dX8_joinRoads_74 : decode cX8_joinRoads 74 = .ok (.if_icmp .ge 17, 3) := by decide +kernel
theorem dX8_joinRoads_77 : decode cX8_joinRoads 77 = .ok (.aload_n 0, 1) := by decide +kernel
theorem dX8_joinRoads_78 : decode cX8_joinRoads 78 = .ok (.getfield 9, 3) := by decide +kernel
theorem dX8_joinRoads_81 : decode cX8_joinRoads 81 = .ok (.iload_n 2, 1) := by decide +kernel
theorem dX8_joinRoads_82 : decode cX8_joinRoads 82 = .ok (.bipush 8, 2) := by decide +kernel
theorem dX8_joinRoads_84 : decode cX8_joinRoads 84 = .ok (.imul, 1) := by decide +kernel
theorem dX8_joinRoads_85 : decode cX8_joinRoads 85 = .ok (.iload 4, 2) := by decide +kernel
theorem dX8_joinRoads_87 : decode cX8_joinRoads 87 = .ok (.iadd, 1) := by decide +kernel
theorem dX8_joinRoads_88 : decode cX8_joinRoads 88 = .ok (.iload 5, 2) := by decide +kernel
theorem dX8_joinRoads_90 : decode cX8_joinRoads 90 = .ok (.iastore, 1) := by decide +kernel
theorem dX8_joinRoads_91 : decode cX8_joinRoads 91 = .ok (.iinc 4 1, 3) := by decide +kernel
theorem dX8_joinRoads_94 : decode cX8_joinRoads 94 = .ok (.goto (-63), 3) := by decide +kernel
theorem dX8_joinRoads_97 : decode cX8_joinRoads 97 = .ok (.iinc 2 1, 3) := by decide +kernel
theorem dX8_joinRoads_100 : decode cX8_joinRoads 100 = .ok (.goto (-90), 3) := by decide +kernel
theorem dX8_joinRoads_103 : decode cX8_joinRoads 103 = .ok (.iinc 1 1, 3) := by decide +kernel
theorem dX8_joinRoads_106 : decode cX8_joinRoads 106 = .ok (.goto (-104), 3) := by decide +kernel
theorem dX8_joinRoads_109 : decode cX8_joinRoads 109 = .ok (.return_, 1) := by decide +kernel
theorem dX8_minutes_0 : decode cX8_minutes 0 = .ok (.iload_n 1, 1) := by decide +kernel
theorem dX8_minutes_1 : decode cX8_minutes 1 = .ok (.invokestatic 36, 3) := by decide +kernel
theorem dX8_minutes_4 : decode cX8_minutes 4 = .ok (.ifCond .eq 24, 3) := by decide +kernel
theorem dX8_minutes_7 : decode cX8_minutes 7 = .ok (.iload_n 2, 1) := by decide +kernel
theorem dX8_minutes_8 : decode cX8_minutes 8 = .ok (.invokestatic 36, 3) := by decide +kernel
theorem dX8_minutes_11 : decode cX8_minutes 11 = .ok (.ifCond .eq 17, 3) := by decide +kernel
theorem dX8_minutes_14 : decode cX8_minutes 14 = .ok (.aload_n 0, 1) := by decide +kernel
theorem dX8_minutes_15 : decode cX8_minutes 15 = .ok (.getfield 9, 3) := by decide +kernel
theorem dX8_minutes_18 : decode cX8_minutes 18 = .ok (.iload_n 1, 1) := by decide +kernel
theorem dX8_minutes_19 : decode cX8_minutes 19 = .ok (.bipush 8, 2) := by decide +kernel
theorem dX8_minutes_21 : decode cX8_minutes 21 = .ok (.imul, 1) := by decide +kernel
theorem dX8_minutes_22 : decode cX8_minutes 22 = .ok (.iload_n 2, 1) := by decide +kernel
theorem dX8_minutes_23 : decode cX8_minutes 23 = .ok (.iadd, 1) := by decide +kernel
theorem dX8_minutes_24 : decode cX8_minutes 24 = .ok (.iaload, 1) := by decide +kernel
theorem dX8_minutes_25 : decode cX8_minutes 25 = .ok (.goto 5, 3) := by decide +kernel
theorem dX8_minutes_28 : decode cX8_minutes 28 = .ok (.ldc 29, 2) := by decide +kernel
theorem dX8_minutes_30 : decode cX8_minutes 30 = .ok (.ireturn, 1) := by decide +kernel
theorem dX8_minutesOrNone_0 : decode cX8_minutesOrNone 0 = .ok (.aload_n 0, 1) := by decide +kernel
theorem dX8_minutesOrNone_1 : decode cX8_minutesOrNone 1 = .ok (.iload_n 1, 1) := by decide +kernel
theorem dX8_minutesOrNone_2 : decode cX8_minutesOrNone 2 = .ok (.iload_n 2, 1) := by decide +kernel
theorem dX8_minutesOrNone_3 : decode cX8_minutesOrNone 3 = .ok (.invokevirtual 40, 3) := by decide +kernel
theorem dX8_minutesOrNone_6 : decode cX8_minutesOrNone 6 = .ok (.istore_n 3, 1) := by decide +kernel
theorem dX8_minutesOrNone_7 : decode cX8_minutesOrNone 7 = .ok (.iload_n 3, 1) := by decide +kernel
theorem dX8_minutesOrNone_8 : decode cX8_minutesOrNone 8 = .ok (.ldc 29, 2) := by decide +kernel
theorem dX8_minutesOrNone_10 : decode cX8_minutesOrNone 10 = .ok (.if_icmp .lt 8, 3) := by decide +kernel
theorem dX8_minutesOrNone_13 : decode cX8_minutesOrNone 13 = .ok (.bipush (-9), 2) := by decide +kernel
theorem dX8_minutesOrNone_15 : decode cX8_minutesOrNone 15 = .ok (.goto 4, 3) := by decide +kernel
theorem dX8_minutesOrNone_18 : decode cX8_minutesOrNone 18 = .ok (.iload_n 3, 1) := by decide +kernel
theorem dX8_minutesOrNone_19 : decode cX8_minutesOrNone 19 = .ok (.ireturn, 1) := by decide +kernel
theorem dX8_waitFrom_0 : decode cX8_waitFrom 0 = .ok (.iconst 0, 1) := by decide +kernel
theorem dX8_waitFrom_1 : decode cX8_waitFrom 1 = .ok (.istore_n 3, 1) := by decide +kernel
theorem dX8_waitFrom_2 : decode cX8_waitFrom 2 = .ok (.iconst 0, 1) := by decide +kernel
theorem dX8_waitFrom_3 : decode cX8_waitFrom 3 = .ok (.istore 4, 2) := by decide +kernel
theorem dX8_waitFrom_5 : decode cX8_waitFrom 5 = .ok (.iload 4, 2) := by decide +kernel
theorem dX8_waitFrom_7 : decode cX8_waitFrom 7 = .ok (.bipush 8, 2) := by decide +kernel
theorem dX8_waitFrom_9 : decode cX8_waitFrom 9 = .ok (.if_icmp .ge 42, 3) := by decide +kernel
theorem dX8_waitFrom_12 : decode cX8_waitFrom 12 = .ok (.aload_n 0, 1) := by decide +kernel
theorem dX8_waitFrom_13 : decode cX8_waitFrom 13 = .ok (.iload_n 1, 1) := by decide +kernel
theorem dX8_waitFrom_14 : decode cX8_waitFrom 14 = .ok (.iload 4, 2) := by decide +kernel
theorem dX8_waitFrom_16 : decode cX8_waitFrom 16 = .ok (.invokevirtual 40, 3) := by decide +kernel
theorem dX8_waitFrom_19 : decode cX8_waitFrom 19 = .ok (.istore 5, 2) := by decide +kernel
theorem dX8_waitFrom_21 : decode cX8_waitFrom 21 = .ok (.iload_n 3, 1) := by decide +kernel
theorem dX8_waitFrom_22 : decode cX8_waitFrom 22 = .ok (.aload_n 2, 1) := by decide +kernel
theorem dX8_waitFrom_23 : decode cX8_waitFrom 23 = .ok (.iload 4, 2) := by decide +kernel
theorem dX8_waitFrom_25 : decode cX8_waitFrom 25 = .ok (.invokevirtual 43, 3) := by decide +kernel
theorem dX8_waitFrom_28 : decode cX8_waitFrom 28 = .ok (.iload 5, 2) := by decide +kernel
theorem dX8_waitFrom_30 : decode cX8_waitFrom 30 = .ok (.ldc 29, 2) := by decide +kernel
theorem dX8_waitFrom_32 : decode cX8_waitFrom 32 = .ok (.if_icmp .lt 8, 3) := by decide +kernel
theorem dX8_waitFrom_35 : decode cX8_waitFrom 35 = .ok (.bipush 99, 2) := by decide +kernel
theorem dX8_waitFrom_37 : decode cX8_waitFrom 37 = .ok (.goto 5, 3) := by decide +kernel
theorem dX8_waitFrom_40 : decode cX8_waitFrom 40 = .ok (.iload 5, 2) := by decide +kernel
theorem dX8_waitFrom_42 : decode cX8_waitFrom 42 = .ok (.imul, 1) := by decide +kernel
theorem dX8_waitFrom_43 : decode cX8_waitFrom 43 = .ok (.iadd, 1) := by decide +kernel
theorem dX8_waitFrom_44 : decode cX8_waitFrom 44 = .ok (.istore_n 3, 1) := by decide +kernel
theorem dX8_waitFrom_45 : decode cX8_waitFrom 45 = .ok (.iinc 4 1, 3) := by decide +kernel
theorem dX8_waitFrom_48 : decode cX8_waitFrom 48 = .ok (.goto (-43), 3) := by decide +kernel
theorem dX8_waitFrom_51 : decode cX8_waitFrom 51 = .ok (.iload_n 3, 1) := by decide +kernel
theorem dX8_waitFrom_52 : decode cX8_waitFrom 52 = .ok (.ireturn, 1) := by decide +kernel
theorem dX8_placeToWait_0 : decode cX8_placeToWait 0 = .ok (.iconst 0, 1) := by decide +kernel
theorem dX8_placeToWait_1 : decode cX8_placeToWait 1 = .ok (.istore_n 2, 1) := by decide +kernel
theorem dX8_placeToWait_2 : decode cX8_placeToWait 2 = .ok (.aload_n 0, 1) := by decide +kernel
theorem dX8_placeToWait_3 : decode cX8_placeToWait 3 = .ok (.iconst 0, 1) := by decide +kernel
theorem dX8_placeToWait_4 : decode cX8_placeToWait 4 = .ok (.aload_n 1, 1) := by decide +kernel
theorem dX8_placeToWait_5 : decode cX8_placeToWait 5 = .ok (.invokevirtual 49, 3) := by decide +kernel
theorem dX8_placeToWait_8 : decode cX8_placeToWait 8 = .ok (.istore_n 3, 1) := by decide +kernel
theorem dX8_placeToWait_9 : decode cX8_placeToWait 9 = .ok (.iconst 1, 1) := by decide +kernel
theorem dX8_placeToWait_10 : decode cX8_placeToWait 10 = .ok (.istore 4, 2) := by decide +kernel
theorem dX8_placeToWait_12 : decode cX8_placeToWait 12 = .ok (.iload 4, 2) := by decide +kernel
theorem dX8_placeToWait_14 : decode cX8_placeToWait 14 = .ok (.bipush 8, 2) := by decide +kernel
theorem dX8_placeToWait_16 : decode cX8_placeToWait 16 = .ok (.if_icmp .ge 30, 3) := by decide +kernel
theorem dX8_placeToWait_19 : decode cX8_placeToWait 19 = .ok (.aload_n 0, 1) := by decide +kernel
theorem dX8_placeToWait_20 : decode cX8_placeToWait 20 = .ok (.iload 4, 2) := by decide +kernel
theorem dX8_placeToWait_22 : decode cX8_placeToWait 22 = .ok (.aload_n 1, 1) := by decide +kernel
theorem dX8_placeToWait_23 : decode cX8_placeToWait 23 = .ok (.invokevirtual 49, 3) := by decide +kernel
theorem dX8_placeToWait_26 : decode cX8_placeToWait 26 = .ok (.istore 5, 2) := by decide +kernel
theorem dX8_placeToWait_28 : decode cX8_placeToWait 28 = .ok (.iload 5, 2) := by decide +kernel
theorem dX8_placeToWait_30 : decode cX8_placeToWait 30 = .ok (.iload_n 3, 1) := by decide +kernel
theorem dX8_placeToWait_31 : decode cX8_placeToWait 31 = .ok (.if_icmp .ge 9, 3) := by decide +kernel
theorem dX8_placeToWait_34 : decode cX8_placeToWait 34 = .ok (.iload 4, 2) := by decide +kernel
theorem dX8_placeToWait_36 : decode cX8_placeToWait 36 = .ok (.istore_n 2, 1) := by decide +kernel
theorem dX8_placeToWait_37 : decode cX8_placeToWait 37 = .ok (.iload 5, 2) := by decide +kernel
theorem dX8_placeToWait_39 : decode cX8_placeToWait 39 = .ok (.istore_n 3, 1) := by decide +kernel
theorem dX8_placeToWait_40 : decode cX8_placeToWait 40 = .ok (.iinc 4 1, 3) := by decide +kernel
theorem dX8_placeToWait_43 : decode cX8_placeToWait 43 = .ok (.goto (-31), 3) := by decide +kernel
theorem dX8_placeToWait_46 : decode cX8_placeToWait 46 = .ok (.iload_n 2, 1) := by decide +kernel
theorem dX8_placeToWait_47 : decode cX8_placeToWait 47 = .ok (.ireturn, 1) := by decide +kernel
theorem dX8_seekTours_0 : decode cX8_seekTours 0 = .ok (.iconst 0, 1) := by decide +kernel
theorem dX8_seekTours_1 : decode cX8_seekTours 1 = .ok (.istore_n 2, 1) := by decide +kernel
theorem dX8_seekTours_2 : decode cX8_seekTours 2 = .ok (.iload_n 2, 1) := by decide +kernel
theorem dX8_seekTours_3 : decode cX8_seekTours 3 = .ok (.sipush 256, 3) := by decide +kernel
theorem dX8_seekTours_6 : decode cX8_seekTours 6 = .ok (.if_icmp .ge 56, 3) := by decide +kernel
theorem dX8_seekTours_9 : decode cX8_seekTours 9 = .ok (.iconst 0, 1) := by decide +kernel
theorem dX8_seekTours_10 : decode cX8_seekTours 10 = .ok (.istore_n 3, 1) := by decide +kernel
theorem dX8_seekTours_11 : decode cX8_seekTours 11 = .ok (.iload_n 3, 1) := by decide +kernel
theorem dX8_seekTours_12 : decode cX8_seekTours 12 = .ok (.bipush 8, 2) := by decide +kernel
theorem dX8_seekTours_14 : decode cX8_seekTours 14 = .ok (.if_icmp .ge 42, 3) := by decide +kernel
theorem dX8_seekTours_17 : decode cX8_seekTours 17 = .ok (.iload_n 2, 1) := by decide +kernel
theorem dX8_seekTours_18 : decode cX8_seekTours 18 = .ok (.iload_n 1, 1) := by decide +kernel
theorem dX8_seekTours_19 : decode cX8_seekTours 19 = .ok (.iconst (-1), 1) := by decide +kernel
theorem dX8_seekTours_20 : decode cX8_seekTours 20 = .ok (.ixor, 1) := by decide +kernel
theorem dX8_seekTours_21 : decode cX8_seekTours 21 = .ok (.iand, 1) := by decide +kernel
theorem dX8_seekTours_22 : decode cX8_seekTours 22 = .ok (.ifCond .ne 34, 3) := by decide +kernel
theorem dX8_seekTours_25 : decode cX8_seekTours 25 = .ok (.aload_n 0, 1) := by decide +kernel
theorem dX8_seekTours_26 : decode cX8_seekTours 26 = .ok (.getfield 15, 3) := by decide +kernel
theorem dX8_seekTours_29 : decode cX8_seekTours 29 = .ok (.iload_n 2, 1) := by decide +kernel
theorem dX8_seekTours_30 : decode cX8_seekTours 30 = .ok (.bipush 8, 2) := by decide +kernel
theorem dX8_seekTours_32 : decode cX8_seekTours 32 = .ok (.imul, 1) := by decide +kernel
theorem dX8_seekTours_33 : decode cX8_seekTours 33 = .ok (.iload_n 3, 1) := by decide +kernel
theorem dX8_seekTours_34 : decode cX8_seekTours 34 = .ok (.iadd, 1) := by decide +kernel
theorem dX8_seekTours_35 : decode cX8_seekTours 35 = .ok (.iload_n 2, 1) := by decide +kernel
theorem dX8_seekTours_36 : decode cX8_seekTours 36 = .ok (.ifCond .ne 7, 3) := by decide +kernel
theorem dX8_seekTours_39 : decode cX8_seekTours 39 = .ok (.iconst 0, 1) := by decide +kernel
theorem dX8_seekTours_40 : decode cX8_seekTours 40 = .ok (.goto 9, 3) := by decide +kernel
theorem dX8_seekTours_43 : decode cX8_seekTours 43 = .ok (.aload_n 0, 1) := by decide +kernel
theorem dX8_seekTours_44 : decode cX8_seekTours 44 = .ok (.iload_n 3, 1) := by decide +kernel
theorem dX8_seekTours_45 : decode cX8_seekTours 45 = .ok (.iload_n 2, 1) := by decide +kernel
theorem dX8_seekTours_46 : decode cX8_seekTours 46 = .ok (.invokevirtual 53, 3) := by decide +kernel
theorem dX8_seekTours_49 : decode cX8_seekTours 49 = .ok (.iastore, 1) := by decide +kernel
theorem dX8_seekTours_50 : decode cX8_seekTours 50 = .ok (.iinc 3 1, 3) := by decide +kernel
theorem dX8_seekTours_53 : decode cX8_seekTours 53 = .ok (.goto (-42), 3) := by decide +kernel
theorem dX8_seekTours_56 : decode cX8_seekTours 56 = .ok (.iinc 2 1, 3) := by decide +kernel
theorem dX8_seekTours_59 : decode cX8_seekTours 59 = .ok (.goto (-57), 3) := by decide +kernel
theorem dX8_seekTours_62 : decode cX8_seekTours 62 = .ok (.return_, 1) := by decide +kernel
theorem dX8_fewestFrom_0 : decode cX8_fewestFrom 0 = .ok (.ldc 29, 2) := by decide +kernel
theorem dX8_fewestFrom_2 : decode cX8_fewestFrom 2 = .ok (.istore_n 3, 1) := by decide +kernel
theorem dX8_fewestFrom_3 : decode cX8_fewestFrom 3 = .ok (.iconst 0, 1) := by decide +kernel
theorem dX8_fewestFrom_4 : decode cX8_fewestFrom 4 = .ok (.istore 4, 2) := by decide +kernel
theorem dX8_fewestFrom_6 : decode cX8_fewestFrom 6 = .ok (.iload 4, 2) := by decide +kernel
theorem dX8_fewestFrom_8 : decode cX8_fewestFrom 8 = .ok (.bipush 8, 2) := by decide +kernel
theorem dX8_fewestFrom_10 : decode cX8_fewestFrom 10 = .ok (.if_icmp .ge 32, 3) := by decide +kernel
theorem dX8_fewestFrom_13 : decode cX8_fewestFrom 13 = .ok (.iload_n 2, 1) := by decide +kernel
theorem dX8_fewestFrom_14 : decode cX8_fewestFrom 14 = .ok (.iload 4, 2) := by decide +kernel
theorem dX8_fewestFrom_16 : decode cX8_fewestFrom 16 = .ok (.ishr, 1) := by decide +kernel
theorem dX8_fewestFrom_17 : decode cX8_fewestFrom 17 = .ok (.iconst 1, 1) := by decide +kernel
theorem dX8_fewestFrom_18 : decode cX8_fewestFrom 18 = .ok (.iand, 1) := by decide +kernel
theorem dX8_fewestFrom_19 : decode cX8_fewestFrom 19 = .ok (.iconst 1, 1) := by decide +kernel
theorem dX8_fewestFrom_20 : decode cX8_fewestFrom 20 = .ok (.if_icmp .ne 16, 3) := by decide +kernel
theorem dX8_fewestFrom_23 : decode cX8_fewestFrom 23 = .ok (.iload_n 3, 1) := by decide +kernel
theorem dX8_fewestFrom_24 : decode cX8_fewestFrom 24 = .ok (.aload_n 0, 1) := by decide +kernel
theorem dX8_fewestFrom_25 : decode cX8_fewestFrom 25 = .ok (.iload_n 1, 1) := by decide +kernel
theorem dX8_fewestFrom_26 : decode cX8_fewestFrom 26 = .ok (.iload 4, 2) := by decide +kernel
theorem dX8_fewestFrom_28 : decode cX8_fewestFrom 28 = .ok (.iload_n 2, 1) := by decide +kernel
theorem dX8_fewestFrom_29 : decode cX8_fewestFrom 29 = .ok (.invokevirtual 56, 3) := by decide +kernel
theorem dX8_fewestFrom_32 : decode cX8_fewestFrom 32 = .ok (.invokestatic 60, 3) := by decide +kernel
theorem dX8_fewestFrom_35 : decode cX8_fewestFrom 35 = .ok (.istore_n 3, 1) := by decide +kernel
theorem dX8_fewestFrom_36 : decode cX8_fewestFrom 36 = .ok (.iinc 4 1, 3) := by decide +kernel
theorem dX8_fewestFrom_39 : decode cX8_fewestFrom 39 = .ok (.goto (-33), 3) := by decide +kernel
theorem dX8_fewestFrom_42 : decode cX8_fewestFrom 42 = .ok (.iload_n 3, 1) := by decide +kernel
theorem dX8_fewestFrom_43 : decode cX8_fewestFrom 43 = .ok (.ireturn, 1) := by decide +kernel
theorem dX8_throughFirst_0 : decode cX8_throughFirst 0 = .ok (.aload_n 0, 1) := by decide +kernel
theorem dX8_throughFirst_1 : decode cX8_throughFirst 1 = .ok (.iload_n 1, 1) := by decide +kernel
theorem dX8_throughFirst_2 : decode cX8_throughFirst 2 = .ok (.iload_n 2, 1) := by decide +kernel
theorem dX8_throughFirst_3 : decode cX8_throughFirst 3 = .ok (.invokevirtual 40, 3) := by decide +kernel
theorem dX8_throughFirst_6 : decode cX8_throughFirst 6 = .ok (.aload_n 0, 1) := by decide +kernel
theorem dX8_throughFirst_7 : decode cX8_throughFirst 7 = .ok (.iload_n 3, 1) := by decide +kernel
theorem dX8_throughFirst_8 : decode cX8_throughFirst 8 = .ok (.iconst 1, 1) := by decide +kernel
theorem dX8_throughFirst_9 : decode cX8_throughFirst 9 = .ok (.iload_n 2, 1) := by decide +kernel
theorem dX8_throughFirst_10 : decode cX8_throughFirst 10 = .ok (.ishl, 1) := by decide +kernel
theorem dX8_throughFirst_11 : decode cX8_throughFirst 11 = .ok (.iconst (-1), 1) := by decide +kernel
theorem dX8_throughFirst_12 : decode cX8_throughFirst 12 = .ok (.ixor, 1) := by decide +kernel
theorem dX8_throughFirst_13 : decode cX8_throughFirst 13 = .ok (.iand, 1) := by decide +kernel
theorem dX8_throughFirst_14 : decode cX8_throughFirst 14 = .ok (.iload_n 2, 1) := by decide +kernel
theorem dX8_throughFirst_15 : decode cX8_throughFirst 15 = .ok (.invokevirtual 65, 3) := by decide +kernel
theorem dX8_throughFirst_18 : decode cX8_throughFirst 18 = .ok (.iadd, 1) := by decide +kernel
theorem dX8_throughFirst_19 : decode cX8_throughFirst 19 = .ok (.ireturn, 1) := by decide +kernel
theorem dX8_restOf_0 : decode cX8_restOf 0 = .ok (.iload_n 1, 1) := by decide +kernel
theorem dX8_restOf_1 : decode cX8_restOf 1 = .ok (.ifCond .lt 31, 3) := by decide +kernel
theorem dX8_restOf_4 : decode cX8_restOf 4 = .ok (.iload_n 1, 1) := by decide +kernel
theorem dX8_restOf_5 : decode cX8_restOf 5 = .ok (.sipush 256, 3) := by decide +kernel
theorem dX8_restOf_8 : decode cX8_restOf 8 = .ok (.if_icmp .ge 24, 3) := by decide +kernel
theorem dX8_restOf_11 : decode cX8_restOf 11 = .ok (.iload_n 2, 1) := by decide +kernel
theorem dX8_restOf_12 : decode cX8_restOf 12 = .ok (.invokestatic 36, 3) := by decide +kernel
theorem dX8_restOf_15 : decode cX8_restOf 15 = .ok (.ifCond .eq 17, 3) := by decide +kernel
theorem dX8_restOf_18 : decode cX8_restOf 18 = .ok (.aload_n 0, 1) := by decide +kernel
theorem dX8_restOf_19 : decode cX8_restOf 19 = .ok (.getfield 15, 3) := by decide +kernel
theorem dX8_restOf_22 : decode cX8_restOf 22 = .ok (.iload_n 1, 1) := by decide +kernel
theorem dX8_restOf_23 : decode cX8_restOf 23 = .ok (.bipush 8, 2) := by decide +kernel
theorem dX8_restOf_25 : decode cX8_restOf 25 = .ok (.imul, 1) := by decide +kernel
theorem dX8_restOf_26 : decode cX8_restOf 26 = .ok (.iload_n 2, 1) := by decide +kernel
theorem dX8_restOf_27 : decode cX8_restOf 27 = .ok (.iadd, 1) := by decide +kernel
theorem dX8_restOf_28 : decode cX8_restOf 28 = .ok (.iaload, 1) := by decide +kernel
theorem dX8_restOf_29 : decode cX8_restOf 29 = .ok (.goto 5, 3) := by decide +kernel
theorem dX8_restOf_32 : decode cX8_restOf 32 = .ok (.ldc 29, 2) := by decide +kernel
theorem dX8_restOf_34 : decode cX8_restOf 34 = .ok (.ireturn, 1) := by decide +kernel
theorem dX8_tourMinutes_0 : decode cX8_tourMinutes 0 = .ok (.aload_n 0, 1) := by decide +kernel
theorem dX8_tourMinutes_1 : decode cX8_tourMinutes 1 = .ok (.iload_n 2, 1) := by decide +kernel
theorem dX8_tourMinutes_2 : decode cX8_tourMinutes 2 = .ok (.iload_n 1, 1) := by decide +kernel
theorem dX8_tourMinutes_3 : decode cX8_tourMinutes 3 = .ok (.invokevirtual 65, 3) := by decide +kernel
theorem dX8_tourMinutes_6 : decode cX8_tourMinutes 6 = .ok (.istore_n 3, 1) := by decide +kernel
theorem dX8_tourMinutes_7 : decode cX8_tourMinutes 7 = .ok (.iload_n 3, 1) := by decide +kernel
theorem dX8_tourMinutes_8 : decode cX8_tourMinutes 8 = .ok (.ldc 29, 2) := by decide +kernel
theorem dX8_tourMinutes_10 : decode cX8_tourMinutes 10 = .ok (.if_icmp .lt 8, 3) := by decide +kernel
theorem dX8_tourMinutes_13 : decode cX8_tourMinutes 13 = .ok (.bipush (-9), 2) := by decide +kernel
theorem dX8_tourMinutes_15 : decode cX8_tourMinutes 15 = .ok (.goto 4, 3) := by decide +kernel
theorem dX8_tourMinutes_18 : decode cX8_tourMinutes 18 = .ok (.iload_n 3, 1) := by decide +kernel
theorem dX8_tourMinutes_19 : decode cX8_tourMinutes 19 = .ok (.ireturn, 1) := by decide +kernel
theorem dX8_tourFirst_0 : decode cX8_tourFirst 0 = .ok (.aload_n 0, 1) := by decide +kernel
theorem dX8_tourFirst_1 : decode cX8_tourFirst 1 = .ok (.iload_n 2, 1) := by decide +kernel
theorem dX8_tourFirst_2 : decode cX8_tourFirst 2 = .ok (.iload_n 1, 1) := by decide +kernel
theorem dX8_tourFirst_3 : decode cX8_tourFirst 3 = .ok (.invokevirtual 65, 3) := by decide +kernel
theorem dX8_tourFirst_6 : decode cX8_tourFirst 6 = .ok (.istore_n 3, 1) := by decide +kernel
theorem dX8_tourFirst_7 : decode cX8_tourFirst 7 = .ok (.iconst 0, 1) := by decide +kernel
theorem dX8_tourFirst_8 : decode cX8_tourFirst 8 = .ok (.istore 4, 2) := by decide +kernel
theorem dX8_tourFirst_10 : decode cX8_tourFirst 10 = .ok (.iload 4, 2) := by decide +kernel
theorem dX8_tourFirst_12 : decode cX8_tourFirst 12 = .ok (.bipush 8, 2) := by decide +kernel
theorem dX8_tourFirst_14 : decode cX8_tourFirst 14 = .ok (.if_icmp .ge 40, 3) := by decide +kernel
theorem dX8_tourFirst_17 : decode cX8_tourFirst 17 = .ok (.iload_n 3, 1) := by decide +kernel
theorem dX8_tourFirst_18 : decode cX8_tourFirst 18 = .ok (.ldc 29, 2) := by decide +kernel
theorem dX8_tourFirst_20 : decode cX8_tourFirst 20 = .ok (.if_icmp .ge 34, 3) := by decide +kernel
theorem dX8_tourFirst_23 : decode cX8_tourFirst 23 = .ok (.iload_n 2, 1) := by decide +kernel
theorem dX8_tourFirst_24 : decode cX8_tourFirst 24 = .ok (.iload 4, 2) := by decide +kernel
theorem dX8_tourFirst_26 : decode cX8_tourFirst 26 = .ok (.ishr, 1) := by decide +kernel
theorem dX8_tourFirst_27 : decode cX8_tourFirst 27 = .ok (.iconst 1, 1) := by decide +kernel
theorem dX8_tourFirst_28 : decode cX8_tourFirst 28 = .ok (.iand, 1) := by decide +kernel
theorem dX8_tourFirst_29 : decode cX8_tourFirst 29 = .ok (.iconst 1, 1) := by decide +kernel
theorem dX8_tourFirst_30 : decode cX8_tourFirst 30 = .ok (.if_icmp .ne 18, 3) := by decide +kernel
theorem dX8_tourFirst_33 : decode cX8_tourFirst 33 = .ok (.aload_n 0, 1) := by decide +kernel
theorem dX8_tourFirst_34 : decode cX8_tourFirst 34 = .ok (.iload_n 1, 1) := by decide +kernel
theorem dX8_tourFirst_35 : decode cX8_tourFirst 35 = .ok (.iload 4, 2) := by decide +kernel
theorem dX8_tourFirst_37 : decode cX8_tourFirst 37 = .ok (.iload_n 2, 1) := by decide +kernel
theorem dX8_tourFirst_38 : decode cX8_tourFirst 38 = .ok (.invokevirtual 56, 3) := by decide +kernel
theorem dX8_tourFirst_41 : decode cX8_tourFirst 41 = .ok (.iload_n 3, 1) := by decide +kernel
theorem dX8_tourFirst_42 : decode cX8_tourFirst 42 = .ok (.if_icmp .ne 6, 3) := by decide +kernel
theorem dX8_tourFirst_45 : decode cX8_tourFirst 45 = .ok (.iload 4, 2) := by decide +kernel
theorem dX8_tourFirst_47 : decode cX8_tourFirst 47 = .ok (.ireturn, 1) := by decide +kernel
theorem dX8_tourFirst_48 : decode cX8_tourFirst 48 = .ok (.iinc 4 1, 3) := by decide +kernel
theorem dX8_tourFirst_51 : decode cX8_tourFirst 51 = .ok (.goto (-41), 3) := by decide +kernel
theorem dX8_tourFirst_54 : decode cX8_tourFirst 54 = .ok (.bipush (-9), 2) := by decide +kernel
theorem dX8_tourFirst_56 : decode cX8_tourFirst 56 = .ok (.ireturn, 1) := by decide +kernel
theorem dX9_init_0 : decode cX9_init 0 = .ok (.aload_n 0, 1) := by decide +kernel
theorem dX9_init_1 : decode cX9_init 1 = .ok (.invokespecial 1, 3) := by decide +kernel
theorem dX9_init_4 : decode cX9_init 4 = .ok (.aload_n 0, 1) := by decide +kernel
theorem dX9_init_5 : decode cX9_init 5 = .ok (.new 7, 3) := by decide +kernel
theorem dX9_init_8 : decode cX9_init 8 = .ok (.dup, 1) := by decide +kernel
theorem dX9_init_9 : decode cX9_init 9 = .ok (.invokespecial 9, 3) := by decide +kernel
theorem dX9_init_12 : decode cX9_init 12 = .ok (.putfield 10, 3) := by decide +kernel
theorem dX9_init_15 : decode cX9_init 15 = .ok (.aload_n 0, 1) := by decide +kernel
theorem dX9_init_16 : decode cX9_init 16 = .ok (.new 16, 3) := by decide +kernel
theorem dX9_init_19 : decode cX9_init 19 = .ok (.dup, 1) := by decide +kernel
theorem dX9_init_20 : decode cX9_init 20 = .ok (.invokespecial 18, 3) := by decide +kernel
theorem dX9_init_23 : decode cX9_init 23 = .ok (.putfield 19, 3) := by decide +kernel
theorem dX9_init_26 : decode cX9_init 26 = .ok (.aload_n 0, 1) := by decide +kernel
theorem dX9_init_27 : decode cX9_init 27 = .ok (.new 23, 3) := by decide +kernel
theorem dX9_init_30 : decode cX9_init 30 = .ok (.dup, 1) := by decide +kernel
theorem dX9_init_31 : decode cX9_init 31 = .ok (.invokespecial 25, 3) := by decide +kernel
theorem dX9_init_34 : decode cX9_init 34 = .ok (.putfield 26, 3) := by decide +kernel
theorem dX9_init_37 : decode cX9_init 37 = .ok (.aload_n 0, 1) := by decide +kernel
theorem dX9_init_38 : decode cX9_init 38 = .ok (.new 30, 3) := by decide +kernel
theorem dX9_init_41 : decode cX9_init 41 = .ok (.dup, 1) := by decide +kernel
theorem dX9_init_42 : decode cX9_init 42 = .ok (.invokespecial 32, 3) := by decide +kernel
theorem dX9_init_45 : decode cX9_init 45 = .ok (.putfield 33, 3) := by decide +kernel
theorem dX9_init_48 : decode cX9_init 48 = .ok (.return_, 1) := by decide +kernel
theorem dX9_copyFrom_0 : decode cX9_copyFrom 0 = .ok (.aload_n 0, 1) := by decide +kernel
theorem dX9_copyFrom_1 : decode cX9_copyFrom 1 = .ok (.getfield 10, 3) := by decide +kernel
theorem dX9_copyFrom_4 : decode cX9_copyFrom 4 = .ok (.aload_n 1, 1) := by decide +kernel
theorem dX9_copyFrom_5 : decode cX9_copyFrom 5 = .ok (.getfield 10, 3) := by decide +kernel
theorem dX9_copyFrom_8 : decode cX9_copyFrom 8 = .ok (.invokevirtual 37, 3) := by decide +kernel
theorem dX9_copyFrom_11 : decode cX9_copyFrom 11 = .ok (.aload_n 0, 1) := by decide +kernel
theorem dX9_copyFrom_12 : decode cX9_copyFrom 12 = .ok (.getfield 19, 3) := by decide +kernel
theorem dX9_copyFrom_15 : decode cX9_copyFrom 15 = .ok (.aload_n 1, 1) := by decide +kernel
theorem dX9_copyFrom_16 : decode cX9_copyFrom 16 = .ok (.getfield 19, 3) := by decide +kernel
theorem dX9_copyFrom_19 : decode cX9_copyFrom 19 = .ok (.invokevirtual 41, 3) := by decide +kernel
theorem dX9_copyFrom_22 : decode cX9_copyFrom 22 = .ok (.aload_n 0, 1) := by decide +kernel
theorem dX9_copyFrom_23 : decode cX9_copyFrom 23 = .ok (.getfield 26, 3) := by decide +kernel
theorem dX9_copyFrom_26 : decode cX9_copyFrom 26 = .ok (.aload_n 1, 1) := by decide +kernel
theorem dX9_copyFrom_27 : decode cX9_copyFrom 27 = .ok (.getfield 26, 3) := by decide +kernel
theorem dX9_copyFrom_30 : decode cX9_copyFrom 30 = .ok (.invokevirtual 44, 3) := by decide +kernel
theorem dX9_copyFrom_33 : decode cX9_copyFrom 33 = .ok (.aload_n 0, 1) := by decide +kernel
theorem dX9_copyFrom_34 : decode cX9_copyFrom 34 = .ok (.getfield 33, 3) := by decide +kernel
theorem dX9_copyFrom_37 : decode cX9_copyFrom 37 = .ok (.aload_n 1, 1) := by decide +kernel
theorem dX9_copyFrom_38 : decode cX9_copyFrom 38 = .ok (.getfield 33, 3) := by decide +kernel
theorem dX9_copyFrom_41 : decode cX9_copyFrom 41 = .ok (.invokevirtual 47, 3) := by decide +kernel
theorem dX9_copyFrom_44 : decode cX9_copyFrom 44 = .ok (.return_, 1) := by decide +kernel
theorem dX10_init_0 : decode cX10_init 0 = .ok (.aload_n 0, 1) := by decide +kernel
theorem dX10_init_1 : decode cX10_init 1 = .ok (.invokespecial 1, 3) := by decide +kernel
theorem dX10_init_4 : decode cX10_init 4 = .ok (.aload_n 0, 1) := by decide +kernel
theorem dX10_init_5 : decode cX10_init 5 = .ok (.new 7, 3) := by decide +kernel
theorem dX10_init_8 : decode cX10_init 8 = .ok (.dup, 1) := by decide +kernel
theorem dX10_init_9 : decode cX10_init 9 = .ok (.invokespecial 9, 3) := by decide +kernel
theorem dX10_init_12 : decode cX10_init 12 = .ok (.putfield 10, 3) := by decide +kernel
theorem dX10_init_15 : decode cX10_init 15 = .ok (.aload_n 0, 1) := by decide +kernel
theorem dX10_init_16 : decode cX10_init 16 = .ok (.new 7, 3) := by decide +kernel
theorem dX10_init_19 : decode cX10_init 19 = .ok (.dup, 1) := by decide +kernel
theorem dX10_init_20 : decode cX10_init 20 = .ok (.invokespecial 9, 3) := by decide +kernel
theorem dX10_init_23 : decode cX10_init 23 = .ok (.putfield 16, 3) := by decide +kernel
theorem dX10_init_26 : decode cX10_init 26 = .ok (.aload_n 0, 1) := by decide +kernel
theorem dX10_init_27 : decode cX10_init 27 = .ok (.new 7, 3) := by decide +kernel
theorem dX10_init_30 : decode cX10_init 30 = .ok (.dup, 1) := by decide +kernel
theorem dX10_init_31 : decode cX10_init 31 = .ok (.invokespecial 9, 3) := by decide +kernel
theorem dX10_init_34 : decode cX10_init 34 = .ok (.putfield 19, 3) := by decide +kernel
theorem dX10_init_37 : decode cX10_init 37 = .ok (.aload_n 0, 1) := by decide +kernel
theorem dX10_init_38 : decode cX10_init 38 = .ok (.new 22, 3) := by decide +kernel
theorem dX10_init_41 : decode cX10_init 41 = .ok (.dup, 1) := by decide +kernel
theorem dX10_init_42 : decode cX10_init 42 = .ok (.invokespecial 24, 3) := by decide +kernel
theorem dX10_init_45 : decode cX10_init 45 = .ok (.putfield 25, 3) := by decide +kernel
theorem dX10_init_48 : decode cX10_init 48 = .ok (.aload_n 0, 1) := by decide +kernel
theorem dX10_init_49 : decode cX10_init 49 = .ok (.new 29, 3) := by decide +kernel
theorem dX10_init_52 : decode cX10_init 52 = .ok (.dup, 1) := by decide +kernel
theorem dX10_init_53 : decode cX10_init 53 = .ok (.invokespecial 31, 3) := by decide +kernel
theorem dX10_init_56 : decode cX10_init 56 = .ok (.putfield 32, 3) := by decide +kernel
theorem dX10_init_59 : decode cX10_init 59 = .ok (.aload_n 0, 1) := by decide +kernel
theorem dX10_init_60 : decode cX10_init 60 = .ok (.new 36, 3) := by decide +kernel
theorem dX10_init_63 : decode cX10_init 63 = .ok (.dup, 1) := by decide +kernel
theorem dX10_init_64 : decode cX10_init 64 = .ok (.bipush 12, 2) := by decide +kernel
theorem dX10_init_66 : decode cX10_init 66 = .ok (.invokespecial 38, 3) := by decide +kernel
theorem dX10_init_69 : decode cX10_init 69 = .ok (.putfield 41, 3) := by decide +kernel
theorem dX10_init_72 : decode cX10_init 72 = .ok (.aload_n 0, 1) := by decide +kernel
theorem dX10_init_73 : decode cX10_init 73 = .ok (.bipush 7, 2) := by decide +kernel
theorem dX10_init_75 : decode cX10_init 75 = .ok (.newarray .int, 2) := by decide +kernel
theorem dX10_init_77 : decode cX10_init 77 = .ok (.putfield 45, 3) := by decide +kernel
theorem dX10_init_80 : decode cX10_init 80 = .ok (.aload_n 0, 1) := by decide +kernel
theorem dX10_init_81 : decode cX10_init 81 = .ok (.new 49, 3) := by decide +kernel
theorem dX10_init_84 : decode cX10_init 84 = .ok (.dup, 1) := by decide +kernel
theorem dX10_init_85 : decode cX10_init 85 = .ok (.invokespecial 51, 3) := by decide +kernel
theorem dX10_init_88 : decode cX10_init 88 = .ok (.putfield 52, 3) := by decide +kernel
theorem dX10_init_91 : decode cX10_init 91 = .ok (.aload_n 0, 1) := by decide +kernel
theorem dX10_init_92 : decode cX10_init 92 = .ok (.new 56, 3) := by decide +kernel
theorem dX10_init_95 : decode cX10_init 95 = .ok (.dup, 1) := by decide +kernel
theorem dX10_init_96 : decode cX10_init 96 = .ok (.invokespecial 58, 3) := by decide +kernel
theorem dX10_init_99 : decode cX10_init 99 = .ok (.putfield 59, 3) := by decide +kernel
theorem dX10_init_102 : decode cX10_init 102 = .ok (.return_, 1) := by decide +kernel
theorem dX10_feed_0 : decode cX10_feed 0 = .ok (.iload_n 1, 1) := by decide +kernel
theorem dX10_feed_1 : decode cX10_feed 1 = .ok (.ifCond .ge 10, 3) := by decide +kernel
theorem dX10_feed_4 : decode cX10_feed 4 = .ok (.aload_n 0, 1) := by decide +kernel
theorem dX10_feed_5 : decode cX10_feed 5 = .ok (.bipush (-4), 2) := by decide +kernel
theorem dX10_feed_7 : decode cX10_feed 7 = .ok (.invokevirtual 63, 3) := by decide +kernel
theorem dX10_feed_10 : decode cX10_feed 10 = .ok (.ireturn, 1) := by decide +kernel
theorem dX10_feed_11 : decode cX10_feed 11 = .ok (.iload_n 1, 1) := by decide +kernel
theorem dX10_feed_12 : decode cX10_feed 12 = .ok (.sipush 255, 3) := by decide +kernel
theorem dX10_feed_15 : decode cX10_feed 15 = .ok (.if_icmp .gt 16, 3) := by decide +kernel
theorem dX10_feed_18 : decode cX10_feed 18 = .ok (.aload_n 0, 1) := by decide +kernel
theorem dX10_feed_19 : decode cX10_feed 19 = .ok (.getfield 32, 3) := by decide +kernel
theorem dX10_feed_22 : decode cX10_feed 22 = .ok (.getfield 67, 3) := by decide +kernel
theorem dX10_feed_25 : decode cX10_feed 25 = .ok (.invokevirtual 70, 3) := by decide +kernel
theorem dX10_feed_28 : decode cX10_feed 28 = .ok (.ifCond .eq 10, 3) := by decide +kernel
theorem dX10_feed_31 : decode cX10_feed 31 = .ok (.aload_n 0, 1) := by decide +kernel
theorem dX10_feed_32 : decode cX10_feed 32 = .ok (.bipush (-6), 2) := by decide +kernel
theorem dX10_feed_34 : decode cX10_feed 34 = .ok (.invokevirtual 63, 3) := by decide +kernel
theorem dX10_feed_37 : decode cX10_feed 37 = .ok (.ireturn, 1) := by decide +kernel
theorem dX10_feed_38 : decode cX10_feed 38 = .ok (.aload_n 0, 1) := by decide +kernel
theorem dX10_feed_39 : decode cX10_feed 39 = .ok (.getfield 32, 3) := by decide +kernel
theorem dX10_feed_42 : decode cX10_feed 42 = .ok (.getfield 67, 3) := by decide +kernel
theorem dX10_feed_45 : decode cX10_feed 45 = .ok (.iload_n 1, 1) := by decide +kernel
theorem dX10_feed_46 : decode cX10_feed 46 = .ok (.invokevirtual 74, 3) := by decide +kernel
theorem dX10_feed_49 : decode cX10_feed 49 = .ok (.ireturn, 1) := by decide +kernel
theorem dX10_land_0 : decode cX10_land 0 = .ok (.aload_n 0, 1) := by decide +kernel
theorem dX10_land_1 : decode cX10_land 1 = .ok (.getfield 16, 3) := by decide +kernel
theorem dX10_land_4 : decode cX10_land 4 = .ok (.aload_n 0, 1) := by decide +kernel
theorem dX10_land_5 : decode cX10_land 5 = .ok (.getfield 10, 3) := by decide +kernel
theorem dX10_land_8 : decode cX10_land 8 = .ok (.invokevirtual 77, 3) := by decide +kernel
theorem dX10_land_11 : decode cX10_land 11 = .ok (.aload_n 0, 1) := by decide +kernel
theorem dX10_land_12 : decode cX10_land 12 = .ok (.getfield 32, 3) := by decide +kernel
theorem dX10_land_15 : decode cX10_land 15 = .ok (.invokevirtual 81, 3) := by decide +kernel
theorem dX10_land_18 : decode cX10_land 18 = .ok (.istore_n 1, 1) := by decide +kernel
theorem dX10_land_19 : decode cX10_land 19 = .ok (.iload_n 1, 1) := by decide +kernel
theorem dX10_land_20 : decode cX10_land 20 = .ok (.bipush (-9), 2) := by decide +kernel
theorem dX10_land_22 : decode cX10_land 22 = .ok (.if_icmp .ne 17, 3) := by decide +kernel
theorem dX10_land_25 : decode cX10_land 25 = .ok (.aload_n 0, 1) := by decide +kernel
theorem dX10_land_26 : decode cX10_land 26 = .ok (.getfield 32, 3) := by decide +kernel
theorem dX10_land_29 : decode cX10_land 29 = .ok (.aload_n 0, 1) := by decide +kernel
theorem dX10_land_30 : decode cX10_land 30 = .ok (.getfield 16, 3) := by decide +kernel
theorem dX10_land_33 : decode cX10_land 33 = .ok (.invokevirtual 85, 3) := by decide +kernel
theorem dX10_land_36 : decode cX10_land 36 = .ok (.goto 8, 3) := by decide +kernel
theorem dX10_land_39 : decode cX10_land 39 = .ok (.sipush (-1000), 3) := by decide +kernel
theorem dX10_land_42 : decode cX10_land 42 = .ok (.iload_n 1, 1) := by decide +kernel
theorem dX10_land_43 : decode cX10_land 43 = .ok (.isub, 1) := by decide +kernel
theorem dX10_land_44 : decode cX10_land 44 = .ok (.istore_n 2, 1) := by decide +kernel
theorem dX10_land_45 : decode cX10_land 45 = .ok (.aload_n 0, 1) := by decide +kernel
theorem dX10_land_46 : decode cX10_land 46 = .ok (.getfield 32, 3) := by decide +kernel
theorem dX10_land_49 : decode cX10_land 49 = .ok (.getfield 67, 3) := by decide +kernel
theorem dX10_land_52 : decode cX10_land 52 = .ok (.invokevirtual 89, 3) := by decide +kernel
theorem dX10_land_55 : decode cX10_land 55 = .ok (.iload_n 2, 1) := by decide +kernel
theorem dX10_land_56 : decode cX10_land 56 = .ok (.ifCond .lt 21, 3) := by decide +kernel
theorem dX10_land_59 : decode cX10_land 59 = .ok (.aload_n 0, 1) := by decide +kernel
theorem dX10_land_60 : decode cX10_land 60 = .ok (.getfield 10, 3) := by decide +kernel
theorem dX10_land_63 : decode cX10_land 63 = .ok (.aload_n 0, 1) := by decide +kernel
theorem dX10_land_64 : decode cX10_land 64 = .ok (.getfield 16, 3) := by decide +kernel
theorem dX10_land_67 : decode cX10_land 67 = .ok (.invokevirtual 77, 3) := by decide +kernel
theorem dX10_land_70 : decode cX10_land 70 = .ok (.aload_n 0, 1) := by decide +kernel
theorem dX10_land_71 : decode cX10_land 71 = .ok (.getfield 25, 3) := by decide +kernel
theorem dX10_land_74 : decode cX10_land 74 = .ok (.invokevirtual 92, 3) := by decide +kernel
theorem dX10_land_77 : decode cX10_land 77 = .ok (.iload_n 2, 1) := by decide +kernel
theorem dX10_land_78 : decode cX10_land 78 = .ok (.ireturn, 1) := by decide +kernel
theorem dX10_layer_0 : decode cX10_layer 0 = .ok (.iload_n 1, 1) := by decide +kernel
theorem dX10_layer_1 : decode cX10_layer 1 = .ok (.invokestatic 95, 3) := by decide +kernel
theorem dX10_layer_4 : decode cX10_layer 4 = .ok (.ifCond .ne 12, 3) := by decide +kernel
theorem dX10_layer_7 : decode cX10_layer 7 = .ok (.ldc 99, 2) := by decide +kernel
theorem dX10_layer_9 : decode cX10_layer 9 = .ok (.aload_n 0, 1) := by decide +kernel
theorem dX10_layer_10 : decode cX10_layer 10 = .ok (.iconst (-1), 1) := by decide +kernel
theorem dX10_layer_11 : decode cX10_layer 11 = .ok (.invokevirtual 63, 3) := by decide +kernel
theorem dX10_layer_14 : decode cX10_layer 14 = .ok (.isub, 1) := by decide +kernel
theorem dX10_layer_15 : decode cX10_layer 15 = .ok (.ireturn, 1) := by decide +kernel
theorem dX10_layer_16 : decode cX10_layer 16 = .ok (.iload_n 2, 1) := by decide +kernel
theorem dX10_layer_17 : decode cX10_layer 17 = .ok (.ifCond .lt 8, 3) := by decide +kernel
theorem dX10_layer_20 : decode cX10_layer 20 = .ok (.iload_n 2, 1) := by decide +kernel
theorem dX10_layer_21 : decode cX10_layer 21 = .ok (.iconst 1, 1) := by decide +kernel
theorem dX10_layer_22 : decode cX10_layer 22 = .ok (.if_icmp .le 13, 3) := by decide +kernel
theorem dX10_layer_25 : decode cX10_layer 25 = .ok (.ldc 99, 2) := by decide +kernel
theorem dX10_layer_27 : decode cX10_layer 27 = .ok (.aload_n 0, 1) := by decide +kernel
theorem dX10_layer_28 : decode cX10_layer 28 = .ok (.bipush (-2), 2) := by decide +kernel
theorem dX10_layer_30 : decode cX10_layer 30 = .ok (.invokevirtual 63, 3) := by decide +kernel
theorem dX10_layer_33 : decode cX10_layer 33 = .ok (.isub, 1) := by decide +kernel
theorem dX10_layer_34 : decode cX10_layer 34 = .ok (.ireturn, 1) := by decide +kernel
theorem dX10_layer_35 : decode cX10_layer 35 = .ok (.iload_n 2, 1) := by decide +kernel
theorem dX10_layer_36 : decode cX10_layer 36 = .ok (.ifCond .ne 17, 3) := by decide +kernel
theorem dX10_layer_39 : decode cX10_layer 39 = .ok (.aload_n 0, 1) := by decide +kernel
theorem dX10_layer_40 : decode cX10_layer 40 = .ok (.getfield 10, 3) := by decide +kernel
theorem dX10_layer_43 : decode cX10_layer 43 = .ok (.getfield 100, 3) := by decide +kernel
theorem dX10_layer_46 : decode cX10_layer 46 = .ok (.iload_n 1, 1) := by decide +kernel
theorem dX10_layer_47 : decode cX10_layer 47 = .ok (.invokevirtual 104, 3) := by decide +kernel
theorem dX10_layer_50 : decode cX10_layer 50 = .ok (.goto 14, 3) := by decide +kernel
theorem dX10_layer_53 : decode cX10_layer 53 = .ok (.aload_n 0, 1) := by decide +kernel
theorem dX10_layer_54 : decode cX10_layer 54 = .ok (.getfield 10, 3) := by decide +kernel
theorem dX10_layer_57 : decode cX10_layer 57 = .ok (.getfield 100, 3) := by decide +kernel
theorem dX10_layer_60 : decode cX10_layer 60 = .ok (.iload_n 1, 1) := by decide +kernel
theorem dX10_layer_61 : decode cX10_layer 61 = .ok (.invokevirtual 109, 3) := by decide +kernel
theorem dX10_layer_64 : decode cX10_layer 64 = .ok (.ireturn, 1) := by decide +kernel
theorem dX10_wind_0 : decode cX10_wind 0 = .ok (.iload_n 1, 1) := by decide +kernel
theorem dX10_wind_1 : decode cX10_wind 1 = .ok (.invokestatic 95, 3) := by decide +kernel
theorem dX10_wind_4 : decode cX10_wind 4 = .ok (.ifCond .ne 9, 3) := by decide +kernel
theorem dX10_wind_7 : decode cX10_wind 7 = .ok (.aload_n 0, 1) := by decide +kernel
theorem dX10_wind_8 : decode cX10_wind 8 = .ok (.iconst (-1), 1) := by decide +kernel
theorem dX10_wind_9 : decode cX10_wind 9 = .ok (.invokevirtual 63, 3) := by decide +kernel
theorem dX10_wind_12 : decode cX10_wind 12 = .ok (.ireturn, 1) := by decide +kernel
theorem dX10_wind_13 : decode cX10_wind 13 = .ok (.iload_n 2, 1) := by decide +kernel
theorem dX10_wind_14 : decode cX10_wind 14 = .ok (.bipush (-9), 2) := by decide +kernel
theorem dX10_wind_16 : decode cX10_wind 16 = .ok (.if_icmp .lt 7, 3) := by decide +kernel
theorem dX10_wind_19 : decode cX10_wind 19 = .ok (.iload_n 3, 1) := by decide +kernel
theorem dX10_wind_20 : decode cX10_wind 20 = .ok (.ifCond .ge 10, 3) := by decide +kernel
theorem dX10_wind_23 : decode cX10_wind 23 = .ok (.aload_n 0, 1) := by decide +kernel
theorem dX10_wind_24 : decode cX10_wind 24 = .ok (.bipush (-4), 2) := by decide +kernel
theorem dX10_wind_26 : decode cX10_wind 26 = .ok (.invokevirtual 63, 3) := by decide +kernel
theorem dX10_wind_29 : decode cX10_wind 29 = .ok (.ireturn, 1) := by decide +kernel
theorem dX10_wind_30 : decode cX10_wind 30 = .ok (.iload_n 2, 1) := by decide +kernel
theorem dX10_wind_31 : decode cX10_wind 31 = .ok (.bipush 9, 2) := by decide +kernel
theorem dX10_wind_33 : decode cX10_wind 33 = .ok (.if_icmp .gt 9, 3) := by decide +kernel
theorem dX10_wind_36 : decode cX10_wind 36 = .ok (.iload_n 3, 1) := by decide +kernel
theorem dX10_wind_37 : decode cX10_wind 37 = .ok (.bipush 9, 2) := by decide +kernel
theorem dX10_wind_39 : decode cX10_wind 39 = .ok (.if_icmp .le 10, 3) := by decide +kernel
theorem dX10_wind_42 : decode cX10_wind 42 = .ok (.aload_n 0, 1) := by decide +kernel
theorem dX10_wind_43 : decode cX10_wind 43 = .ok (.bipush (-6), 2) := by decide +kernel
theorem dX10_wind_45 : decode cX10_wind 45 = .ok (.invokevirtual 63, 3) := by decide +kernel
theorem dX10_wind_48 : decode cX10_wind 48 = .ok (.ireturn, 1) := by decide +kernel
theorem dX10_wind_49 : decode cX10_wind 49 = .ok (.bipush 100, 2) := by decide +kernel
theorem dX10_wind_51 : decode cX10_wind 51 = .ok (.aload_n 0, 1) := by decide +kernel
theorem dX10_wind_52 : decode cX10_wind 52 = .ok (.getfield 10, 3) := by decide +kernel
theorem dX10_wind_55 : decode cX10_wind 55 = .ok (.getfield 100, 3) := by decide +kernel
theorem dX10_wind_58 : decode cX10_wind 58 = .ok (.iload_n 1, 1) := by decide +kernel
theorem dX10_wind_59 : decode cX10_wind 59 = .ok (.invokevirtual 104, 3) := by decide +kernel
theorem dX10_wind_62 : decode cX10_wind 62 = .ok (.bipush 9, 2) := by decide +kernel
theorem dX10_wind_64 : decode cX10_wind 64 = .ok (.iadd, 1) := by decide +kernel
theorem dX10_wind_65 : decode cX10_wind 65 = .ok (.imul, 1) := by decide +kernel
theorem dX10_wind_66 : decode cX10_wind 66 = .ok (.aload_n 0, 1) := by decide +kernel
theorem dX10_wind_67 : decode cX10_wind 67 = .ok (.getfield 10, 3) := by decide +kernel
theorem dX10_wind_70 : decode cX10_wind 70 = .ok (.getfield 100, 3) := by decide +kernel
theorem dX10_wind_73 : decode cX10_wind 73 = .ok (.iload_n 1, 1) := by decide +kernel
theorem dX10_wind_74 : decode cX10_wind 74 = .ok (.invokevirtual 109, 3) := by decide +kernel
theorem dX10_wind_77 : decode cX10_wind 77 = .ok (.iadd, 1) := by decide +kernel
theorem dX10_wind_78 : decode cX10_wind 78 = .ok (.istore 4, 2) := by decide +kernel
theorem dX10_wind_80 : decode cX10_wind 80 = .ok (.aload_n 0, 1) := by decide +kernel
theorem dX10_wind_81 : decode cX10_wind 81 = .ok (.getfield 10, 3) := by decide +kernel
theorem dX10_wind_84 : decode cX10_wind 84 = .ok (.getfield 100, 3) := by decide +kernel
theorem dX10_wind_87 : decode cX10_wind 87 = .ok (.iload_n 1, 1) := by decide +kernel
theorem dX10_wind_88 : decode cX10_wind 88 = .ok (.iload_n 2, 1) := by decide +kernel
theorem dX10_wind_89 : decode cX10_wind 89 = .ok (.iload_n 3, 1) := by decide +kernel
theorem dX10_wind_90 : decode cX10_wind 90 = .ok (.invokevirtual 112, 3) := by decide +kernel
theorem dX10_wind_93 : decode cX10_wind 93 = .ok (.aload_n 0, 1) := by decide +kernel
theorem dX10_wind_94 : decode cX10_wind 94 = .ok (.getfield 25, 3) := by decide +kernel
theorem dX10_wind_97 : decode cX10_wind 97 = .ok (.invokevirtual 92, 3) := by decide +kernel
theorem dX10_wind_100 : decode cX10_wind 100 = .ok (.iload 4, 2) := by decide +kernel
theorem dX10_wind_102 : decode cX10_wind 102 = .ok (.ireturn, 1) := by decide +kernel
theorem dX10_field_0 : decode cX10_field 0 = .ok (.aload_n 0, 1) := by decide +kernel
theorem dX10_field_1 : decode cX10_field 1 = .ok (.iload_n 1, 1) := by decide +kernel
theorem dX10_field_2 : decode cX10_field 2 = .ok (.invokevirtual 116, 3) := by decide +kernel
theorem dX10_field_5 : decode cX10_field 5 = .ok (.ifCond .ne 9, 3) := by decide +kernel
theorem dX10_field_8 : decode cX10_field 8 = .ok (.aload_n 0, 1) := by decide +kernel
theorem dX10_field_9 : decode cX10_field 9 = .ok (.iconst (-1), 1) := by decide +kernel
theorem dX10_field_10 : decode cX10_field 10 = .ok (.invokevirtual 63, 3) := by decide +kernel
theorem dX10_field_13 : decode cX10_field 13 = .ok (.ireturn, 1) := by decide +kernel
theorem dX10_field_14 : decode cX10_field 14 = .ok (.iload_n 2, 1) := by decide +kernel
theorem dX10_field_15 : decode cX10_field 15 = .ok (.ifCond .lt 8, 3) := by decide +kernel
theorem dX10_field_18 : decode cX10_field 18 = .ok (.iload_n 2, 1) := by decide +kernel
theorem dX10_field_19 : decode cX10_field 19 = .ok (.iconst 4, 1) := by decide +kernel
theorem dX10_field_20 : decode cX10_field 20 = .ok (.if_icmp .le 10, 3) := by decide +kernel
theorem dX10_field_23 : decode cX10_field 23 = .ok (.aload_n 0, 1) := by decide +kernel
theorem dX10_field_24 : decode cX10_field 24 = .ok (.bipush (-2), 2) := by decide +kernel
theorem dX10_field_26 : decode cX10_field 26 = .ok (.invokevirtual 63, 3) := by decide +kernel
theorem dX10_field_29 : decode cX10_field 29 = .ok (.ireturn, 1) := by decide +kernel
theorem dX10_field_30 : decode cX10_field 30 = .ok (.aload_n 0, 1) := by decide +kernel
theorem dX10_field_31 : decode cX10_field 31 = .ok (.getfield 10, 3) := by decide +kernel
theorem dX10_field_34 : decode cX10_field 34 = .ok (.getfield 119, 3) := by decide +kernel
theorem dX10_field_37 : decode cX10_field 37 = .ok (.iload_n 1, 1) := by decide +kernel
theorem dX10_field_38 : decode cX10_field 38 = .ok (.iload_n 2, 1) := by decide +kernel
theorem dX10_field_39 : decode cX10_field 39 = .ok (.invokevirtual 123, 3) := by decide +kernel
theorem dX10_field_42 : decode cX10_field 42 = .ok (.ireturn, 1) := by decide +kernel
theorem dX10_cost_0 : decode cX10_cost 0 = .ok (.aload_n 0, 1) := by decide +kernel
theorem dX10_cost_1 : decode cX10_cost 1 = .ok (.iload_n 1, 1) := by decide +kernel
theorem dX10_cost_2 : decode cX10_cost 2 = .ok (.invokevirtual 116, 3) := by decide +kernel
theorem dX10_cost_5 : decode cX10_cost 5 = .ok (.ifCond .ne 9, 3) := by decide +kernel
theorem dX10_cost_8 : decode cX10_cost 8 = .ok (.aload_n 0, 1) := by decide +kernel
theorem dX10_cost_9 : decode cX10_cost 9 = .ok (.iconst (-1), 1) := by decide +kernel
theorem dX10_cost_10 : decode cX10_cost 10 = .ok (.invokevirtual 63, 3) := by decide +kernel
theorem dX10_cost_13 : decode cX10_cost 13 = .ok (.ireturn, 1) := by decide +kernel
theorem dX10_cost_14 : decode cX10_cost 14 = .ok (.iload_n 2, 1) := by decide +kernel
theorem dX10_cost_15 : decode cX10_cost 15 = .ok (.ifCond .ge 10, 3) := by decide +kernel
theorem dX10_cost_18 : decode cX10_cost 18 = .ok (.aload_n 0, 1) := by decide +kernel
theorem dX10_cost_19 : decode cX10_cost 19 = .ok (.bipush (-4), 2) := by decide +kernel
theorem dX10_cost_21 : decode cX10_cost 21 = .ok (.invokevirtual 63, 3) := by decide +kernel
theorem dX10_cost_24 : decode cX10_cost 24 = .ok (.ireturn, 1) := by decide +kernel
theorem dX10_cost_25 : decode cX10_cost 25 = .ok (.iload_n 2, 1) := by decide +kernel
theorem dX10_cost_26 : decode cX10_cost 26 = .ok (.bipush 20, 2) := by decide +kernel
theorem dX10_cost_28 : decode cX10_cost 28 = .ok (.if_icmp .le 10, 3) := by decide +kernel
theorem dX10_cost_31 : decode cX10_cost 31 = .ok (.aload_n 0, 1) := by decide +kernel
theorem dX10_cost_32 : decode cX10_cost 32 = .ok (.bipush (-6), 2) := by decide +kernel
theorem dX10_cost_34 : decode cX10_cost 34 = .ok (.invokevirtual 63, 3) := by decide +kernel
theorem dX10_cost_37 : decode cX10_cost 37 = .ok (.ireturn, 1) := by decide +kernel
theorem dX10_cost_38 : decode cX10_cost 38 = .ok (.aload_n 0, 1) := by decide +kernel
theorem dX10_cost_39 : decode cX10_cost 39 = .ok (.getfield 10, 3) := by decide +kernel
theorem dX10_cost_42 : decode cX10_cost 42 = .ok (.getfield 119, 3) := by decide +kernel
theorem dX10_cost_45 : decode cX10_cost 45 = .ok (.iload_n 1, 1) := by decide +kernel
theorem dX10_cost_46 : decode cX10_cost 46 = .ok (.iload_n 2, 1) := by decide +kernel
theorem dX10_cost_47 : decode cX10_cost 47 = .ok (.aload_n 0, 1) := by decide +kernel
theorem dX10_cost_48 : decode cX10_cost 48 = .ok (.getfield 10, 3) := by decide +kernel
theorem dX10_cost_51 : decode cX10_cost 51 = .ok (.getfield 100, 3) := by decide +kernel
theorem dX10_cost_54 : decode cX10_cost 54 = .ok (.iload_n 2, 1) := by decide +kernel
theorem dX10_cost_55 : decode cX10_cost 55 = .ok (.aload_n 0, 1) := by decide +kernel
theorem dX10_cost_56 : decode cX10_cost 56 = .ok (.getfield 10, 3) := by decide +kernel
theorem dX10_cost_59 : decode cX10_cost 59 = .ok (.getfield 129, 3) := by decide +kernel
theorem dX10_cost_62 : decode cX10_cost 62 = .ok (.getfield 133, 3) := by decide +kernel
theorem dX10_cost_65 : decode cX10_cost 65 = .ok (.invokevirtual 139, 3) := by decide +kernel
theorem dX10_cost_68 : decode cX10_cost 68 = .ok (.invokevirtual 142, 3) := by decide +kernel
theorem dX10_cost_71 : decode cX10_cost 71 = .ok (.ireturn, 1) := by decide +kernel
theorem dX10_drag_0 : decode cX10_drag 0 = .ok (.iload_n 1, 1) := by decide +kernel
theorem dX10_drag_1 : decode cX10_drag 1 = .ok (.ifCond .ge 10, 3) := by decide +kernel
theorem dX10_drag_4 : decode cX10_drag 4 = .ok (.aload_n 0, 1) := by decide +kernel
theorem dX10_drag_5 : decode cX10_drag 5 = .ok (.bipush (-4), 2) := by decide +kernel
theorem dX10_drag_7 : decode cX10_drag 7 = .ok (.invokevirtual 63, 3) := by decide +kernel
theorem dX10_drag_10 : decode cX10_drag 10 = .ok (.ireturn, 1) := by decide +kernel
theorem dX10_drag_11 : decode cX10_drag 11 = .ok (.iload_n 1, 1) := by decide +kernel
theorem dX10_drag_12 : decode cX10_drag 12 = .ok (.bipush 20, 2) := by decide +kernel
theorem dX10_drag_14 : decode cX10_drag 14 = .ok (.if_icmp .le 10, 3) := by decide +kernel
theorem dX10_drag_17 : decode cX10_drag 17 = .ok (.aload_n 0, 1) := by decide +kernel
theorem dX10_drag_18 : decode cX10_drag 18 = .ok (.bipush (-6), 2) := by decide +kernel
theorem dX10_drag_20 : decode cX10_drag 20 = .ok (.invokevirtual 63, 3) := by decide +kernel
theorem dX10_drag_23 : decode cX10_drag 23 = .ok (.ireturn, 1) := by decide +kernel
theorem dX10_drag_24 : decode cX10_drag 24 = .ok (.aload_n 0, 1) := by decide +kernel
theorem dX10_drag_25 : decode cX10_drag 25 = .ok (.getfield 10, 3) := by decide +kernel
theorem dX10_drag_28 : decode cX10_drag 28 = .ok (.getfield 100, 3) := by decide +kernel
theorem dX10_drag_31 : decode cX10_drag 31 = .ok (.iload_n 1, 1) := by decide +kernel
theorem dX10_drag_32 : decode cX10_drag 32 = .ok (.aload_n 0, 1) := by decide +kernel
theorem dX10_drag_33 : decode cX10_drag 33 = .ok (.getfield 10, 3) := by decide +kernel
theorem dX10_drag_36 : decode cX10_drag 36 = .ok (.getfield 129, 3) := by decide +kernel
theorem dX10_drag_39 : decode cX10_drag 39 = .ok (.getfield 133, 3) := by decide +kernel
theorem dX10_drag_42 : decode cX10_drag 42 = .ok (.invokevirtual 139, 3) := by decide +kernel
theorem dX10_drag_45 : decode cX10_drag 45 = .ok (.ireturn, 1) := by decide +kernel
theorem dX10_set_0 : decode cX10_set 0 = .ok (.iload_n 1, 1) := by decide +kernel
theorem dX10_set_1 : decode cX10_set 1 = .ok (.ifCond .lt 8, 3) := by decide +kernel
theorem dX10_set_4 : decode cX10_set 4 = .ok (.iload_n 1, 1) := by decide +kernel
theorem dX10_set_5 : decode cX10_set 5 = .ok (.iconst 4, 1) := by decide +kernel
theorem dX10_set_6 : decode cX10_set 6 = .ok (.if_icmp .le 10, 3) := by decide +kernel
theorem dX10_set_9 : decode cX10_set 9 = .ok (.aload_n 0, 1) := by decide +kernel
theorem dX10_set_10 : decode cX10_set 10 = .ok (.bipush (-2), 2) := by decide +kernel
theorem dX10_set_12 : decode cX10_set 12 = .ok (.invokevirtual 63, 3) := by decide +kernel
theorem dX10_set_15 : decode cX10_set 15 = .ok (.ireturn, 1) := by decide +kernel
theorem dX10_set_16 : decode cX10_set 16 = .ok (.iload_n 2, 1) := by decide +kernel
theorem dX10_set_17 : decode cX10_set 17 = .ok (.iload_n 1, 1) := by decide +kernel
theorem dX10_set_18 : decode cX10_set 18 = .ok (.invokestatic 146, 3) := by decide +kernel
theorem dX10_set_21 : decode cX10_set 21 = .ok (.if_icmp .ge 10, 3) := by decide +kernel
theorem dX10_set_24 : decode cX10_set 24 = .ok (.aload_n 0, 1) := by decide +kernel
theorem dX10_set_25 : decode cX10_set 25 = .ok (.bipush (-4), 2) := by decide +kernel
theorem dX10_set_27 : decode cX10_set 27 = .ok (.invokevirtual 63, 3) := by decide +kernel
theorem dX10_set_30 : decode cX10_set 30 = .ok (.ireturn, 1) := by decide +kernel
theorem dX10_set_31 : decode cX10_set 31 = .ok (.iload_n 2, 1) := by decide +kernel
theorem dX10_set_32 : decode cX10_set 32 = .ok (.iload_n 1, 1) := by decide +kernel
theorem dX10_set_33 : decode cX10_set 33 = .ok (.invokestatic 149, 3) := by decide +kernel
theorem dX10_set_36 : decode cX10_set 36 = .ok (.if_icmp .le 10, 3) := by decide +kernel
theorem dX10_set_39 : decode cX10_set 39 = .ok (.aload_n 0, 1) := by decide +kernel
theorem dX10_set_40 : decode cX10_set 40 = .ok (.bipush (-6), 2) := by decide +kernel
theorem dX10_set_42 : decode cX10_set 42 = .ok (.invokevirtual 63, 3) := by decide +kernel
theorem dX10_set_45 : decode cX10_set 45 = .ok (.ireturn, 1) := by decide +kernel
theorem dX10_set_46 : decode cX10_set 46 = .ok (.aload_n 0, 1) := by decide +kernel
theorem dX10_set_47 : decode cX10_set 47 = .ok (.getfield 10, 3) := by decide +kernel
theorem dX10_set_50 : decode cX10_set 50 = .ok (.getfield 129, 3) := by decide +kernel
theorem dX10_set_53 : decode cX10_set 53 = .ok (.iload_n 1, 1) := by decide +kernel
theorem dX10_set_54 : decode cX10_set 54 = .ok (.invokevirtual 152, 3) := by decide +kernel
theorem dX10_set_57 : decode cX10_set 57 = .ok (.istore_n 3, 1) := by decide +kernel
theorem dX10_set_58 : decode cX10_set 58 = .ok (.aload_n 0, 1) := by decide +kernel
theorem dX10_set_59 : decode cX10_set 59 = .ok (.getfield 10, 3) := by decide +kernel
theorem dX10_set_62 : decode cX10_set 62 = .ok (.getfield 129, 3) := by decide +kernel
theorem dX10_set_65 : decode cX10_set 65 = .ok (.iload_n 1, 1) := by decide +kernel
theorem dX10_set_66 : decode cX10_set 66 = .ok (.iload_n 2, 1) := by decide +kernel
theorem dX10_set_67 : decode cX10_set 67 = .ok (.invokevirtual 155, 3) := by decide +kernel
theorem dX10_set_70 : decode cX10_set 70 = .ok (.aload_n 0, 1) := by decide +kernel
theorem dX10_set_71 : decode cX10_set 71 = .ok (.getfield 25, 3) := by decide +kernel
theorem dX10_set_74 : decode cX10_set 74 = .ok (.invokevirtual 92, 3) := by decide +kernel
theorem dX10_set_77 : decode cX10_set 77 = .ok (.iload_n 3, 1) := by decide +kernel
theorem dX10_set_78 : decode cX10_set 78 = .ok (.ireturn, 1) := by decide +kernel
theorem dX10_rising_0 : decode cX10_rising 0 = .ok (.aload_n 0, 1) := by decide +kernel
theorem dX10_rising_1 : decode cX10_rising 1 = .ok (.getfield 10, 3) := by decide +kernel
theorem dX10_rising_4 : decode cX10_rising 4 = .ok (.getfield 129, 3) := by decide +kernel
theorem dX10_rising_7 : decode cX10_rising 7 = .ok (.invokevirtual 159, 3) := by decide +kernel
theorem dX10_rising_10 : decode cX10_rising 10 = .ok (.ireturn, 1) := by decide +kernel
theorem dX10_go_0 : decode cX10_go 0 = .ok (.iload_n 1, 1) := by decide +kernel
theorem dX10_go_1 : decode cX10_go 1 = .ok (.ifCond .lt 8, 3) := by decide +kernel
theorem dX10_go_4 : decode cX10_go 4 = .ok (.iload_n 1, 1) := by decide +kernel
theorem dX10_go_5 : decode cX10_go 5 = .ok (.iconst 2, 1) := by decide +kernel
theorem dX10_go_6 : decode cX10_go 6 = .ok (.if_icmp .le 10, 3) := by decide +kernel
theorem dX10_go_9 : decode cX10_go 9 = .ok (.aload_n 0, 1) := by decide +kernel
theorem dX10_go_10 : decode cX10_go 10 = .ok (.bipush (-2), 2) := by decide +kernel
theorem dX10_go_12 : decode cX10_go 12 = .ok (.invokevirtual 63, 3) := by decide +kernel
theorem dX10_go_15 : decode cX10_go 15 = .ok (.ireturn, 1) := by decide +kernel
theorem dX10_go_16 : decode cX10_go 16 = .ok (.iload_n 1, 1) := by decide +kernel
theorem dX10_go_17 : decode cX10_go 17 = .ok (.iconst 1, 1) := by decide +kernel
theorem dX10_go_18 : decode cX10_go 18 = .ok (.if_icmp .ne 23, 3) := by decide +kernel
theorem dX10_go_21 : decode cX10_go 21 = .ok (.aload_n 0, 1) := by decide +kernel
theorem dX10_go_22 : decode cX10_go 22 = .ok (.getfield 10, 3) := by decide +kernel
theorem dX10_go_25 : decode cX10_go 25 = .ok (.getfield 129, 3) := by decide +kernel
theorem dX10_go_28 : decode cX10_go 28 = .ok (.getfield 162, 3) := by decide +kernel
theorem dX10_go_31 : decode cX10_go 31 = .ok (.ifCond .gt 10, 3) := by decide +kernel
theorem dX10_go_34 : decode cX10_go 34 = .ok (.aload_n 0, 1) := by decide +kernel
theorem dX10_go_35 : decode cX10_go 35 = .ok (.bipush (-3), 2) := by decide +kernel
theorem dX10_go_37 : decode cX10_go 37 = .ok (.invokevirtual 63, 3) := by decide +kernel
theorem dX10_go_40 : decode cX10_go 40 = .ok (.ireturn, 1) := by decide +kernel
theorem dX10_go_41 : decode cX10_go 41 = .ok (.aload_n 0, 1) := by decide +kernel
theorem dX10_go_42 : decode cX10_go 42 = .ok (.getfield 10, 3) := by decide +kernel
theorem dX10_go_45 : decode cX10_go 45 = .ok (.getfield 129, 3) := by decide +kernel
theorem dX10_go_48 : decode cX10_go 48 = .ok (.getfield 165, 3) := by decide +kernel
theorem dX10_go_51 : decode cX10_go 51 = .ok (.sipush 999, 3) := by decide +kernel
theorem dX10_go_54 : decode cX10_go 54 = .ok (.if_icmp .lt 10, 3) := by decide +kernel
theorem dX10_go_57 : decode cX10_go 57 = .ok (.aload_n 0, 1) := by decide +kernel
theorem dX10_go_58 : decode cX10_go 58 = .ok (.bipush (-6), 2) := by decide +kernel
theorem dX10_go_60 : decode cX10_go 60 = .ok (.invokevirtual 63, 3) := by decide +kernel
theorem dX10_go_63 : decode cX10_go 63 = .ok (.ireturn, 1) := by decide +kernel
theorem dX10_go_64 : decode cX10_go 64 = .ok (.aload_n 0, 1) := by decide +kernel
theorem dX10_go_65 : decode cX10_go 65 = .ok (.getfield 25, 3) := by decide +kernel
theorem dX10_go_68 : decode cX10_go 68 = .ok (.aload_n 0, 1) := by decide +kernel
theorem dX10_go_69 : decode cX10_go 69 = .ok (.getfield 10, 3) := by decide +kernel
theorem dX10_go_72 : decode cX10_go 72 = .ok (.getfield 129, 3) := by decide +kernel
theorem dX10_go_75 : decode cX10_go 75 = .ok (.invokevirtual 168, 3) := by decide +kernel
theorem dX10_go_78 : decode cX10_go 78 = .ok (.aload_n 0, 1) := by decide +kernel
theorem dX10_go_79 : decode cX10_go 79 = .ok (.getfield 10, 3) := by decide +kernel
theorem dX10_go_82 : decode cX10_go 82 = .ok (.getfield 129, 3) := by decide +kernel
theorem dX10_go_85 : decode cX10_go 85 = .ok (.iload_n 1, 1) := by decide +kernel
theorem dX10_go_86 : decode cX10_go 86 = .ok (.aload_n 0, 1) := by decide +kernel
theorem dX10_go_87 : decode cX10_go 87 = .ok (.getfield 10, 3) := by decide +kernel
theorem dX10_go_90 : decode cX10_go 90 = .ok (.getfield 100, 3) := by decide +kernel
theorem dX10_go_93 : decode cX10_go 93 = .ok (.invokevirtual 171, 3) := by decide +kernel
theorem dX10_go_96 : decode cX10_go 96 = .ok (.aload_n 0, 1) := by decide +kernel
theorem dX10_go_97 : decode cX10_go 97 = .ok (.getfield 10, 3) := by decide +kernel
theorem dX10_go_100 : decode cX10_go 100 = .ok (.getfield 129, 3) := by decide +kernel
theorem dX10_go_103 : decode cX10_go 103 = .ok (.getfield 175, 3) := by decide +kernel
theorem dX10_go_106 : decode cX10_go 106 = .ok (.ireturn, 1) := by decide +kernel
theorem dX10_back_0 : decode cX10_back 0 = .ok (.aload_n 0, 1) := by decide +kernel
theorem dX10_back_1 : decode cX10_back 1 = .ok (.getfield 25, 3) := by decide +kernel
theorem dX10_back_4 : decode cX10_back 4 = .ok (.getfield 178, 3) := by decide +kernel
theorem dX10_back_7 : decode cX10_back 7 = .ok (.ifCond .ne 10, 3) := by decide +kernel
theorem dX10_back_10 : decode cX10_back 10 = .ok (.aload_n 0, 1) := by decide +kernel
theorem dX10_back_11 : decode cX10_back 11 = .ok (.bipush (-3), 2) := by decide +kernel
theorem dX10_back_13 : decode cX10_back 13 = .ok (.invokevirtual 63, 3) := by decide +kernel
theorem dX10_back_16 : decode cX10_back 16 = .ok (.ireturn, 1) := by decide +kernel
theorem dX10_back_17 : decode cX10_back 17 = .ok (.aload_n 0, 1) := by decide +kernel
theorem dX10_back_18 : decode cX10_back 18 = .ok (.getfield 25, 3) := by decide +kernel
theorem dX10_back_21 : decode cX10_back 21 = .ok (.aload_n 0, 1) := by decide +kernel
theorem dX10_back_22 : decode cX10_back 22 = .ok (.getfield 10, 3) := by decide +kernel
theorem dX10_back_25 : decode cX10_back 25 = .ok (.getfield 129, 3) := by decide +kernel
theorem dX10_back_28 : decode cX10_back 28 = .ok (.invokevirtual 181, 3) := by decide +kernel
theorem dX10_back_31 : decode cX10_back 31 = .ok (.aload_n 0, 1) := by decide +kernel
theorem dX10_back_32 : decode cX10_back 32 = .ok (.getfield 10, 3) := by decide +kernel
theorem dX10_back_35 : decode cX10_back 35 = .ok (.getfield 129, 3) := by decide +kernel
theorem dX10_back_38 : decode cX10_back 38 = .ok (.getfield 165, 3) := by decide +kernel
theorem dX10_back_41 : decode cX10_back 41 = .ok (.ireturn, 1) := by decide +kernel
theorem dX10_plan_0 : decode cX10_plan 0 = .ok (.iload_n 1, 1) := by decide +kernel
theorem dX10_plan_1 : decode cX10_plan 1 = .ok (.iload_n 2, 1) := by decide +kernel
theorem dX10_plan_2 : decode cX10_plan 2 = .ok (.iload_n 3, 1) := by decide +kernel
theorem dX10_plan_3 : decode cX10_plan 3 = .ok (.iconst 5, 1) := by decide +kernel
theorem dX10_plan_4 : decode cX10_plan 4 = .ok (.invokestatic 184, 3) := by decide +kernel
theorem dX10_plan_7 : decode cX10_plan 7 = .ok (.istore 4, 2) := by decide +kernel
theorem dX10_plan_9 : decode cX10_plan 9 = .ok (.iload 4, 2) := by decide +kernel
theorem dX10_plan_11 : decode cX10_plan 11 = .ok (.ifCond .eq 10, 3) := by decide +kernel
theorem dX10_plan_14 : decode cX10_plan 14 = .ok (.aload_n 0, 1) := by decide +kernel
theorem dX10_plan_15 : decode cX10_plan 15 = .ok (.iload 4, 2) := by decide +kernel
theorem dX10_plan_17 : decode cX10_plan 17 = .ok (.invokevirtual 63, 3) := by decide +kernel
theorem dX10_plan_20 : decode cX10_plan 20 = .ok (.ireturn, 1) := by decide +kernel
theorem dX10_plan_21 : decode cX10_plan 21 = .ok (.aload_n 0, 1) := by decide +kernel
theorem dX10_plan_22 : decode cX10_plan 22 = .ok (.getfield 52, 3) := by decide +kernel
theorem dX10_plan_25 : decode cX10_plan 25 = .ok (.aload_n 0, 1) := by decide +kernel
theorem dX10_plan_26 : decode cX10_plan 26 = .ok (.getfield 10, 3) := by decide +kernel
theorem dX10_plan_29 : decode cX10_plan 29 = .ok (.invokevirtual 188, 3) := by decide +kernel
theorem dX10_plan_32 : decode cX10_plan 32 = .ok (.aload_n 0, 1) := by decide +kernel
theorem dX10_plan_33 : decode cX10_plan 33 = .ok (.getfield 52, 3) := by decide +kernel
theorem dX10_plan_36 : decode cX10_plan 36 = .ok (.iload_n 1, 1) := by decide +kernel
theorem dX10_plan_37 : decode cX10_plan 37 = .ok (.iload_n 2, 1) := by decide +kernel
theorem dX10_plan_38 : decode cX10_plan 38 = .ok (.invokevirtual 191, 3) := by decide +kernel
theorem dX10_plan_41 : decode cX10_plan 41 = .ok (.ifCond .ne 6, 3) := by decide +kernel
theorem dX10_plan_44 : decode cX10_plan 44 = .ok (.bipush (-9), 2) := by decide +kernel
theorem dX10_plan_46 : decode cX10_plan 46 = .ok (.ireturn, 1) := by decide +kernel
theorem dX10_plan_47 : decode cX10_plan 47 = .ok (.iload_n 3, 1) := by decide +kernel
theorem dX10_plan_48 : decode cX10_plan 48 = .ok (.tableswitch 85 0 4 #[36, 47, 58, 69, 77], 36) := by decide +kernel
theorem dX10_plan_84 : decode cX10_plan 84 = .ok (.aload_n 0, 1) := by decide +kernel
theorem dX10_plan_85 : decode cX10_plan 85 = .ok (.getfield 52, 3) := by decide +kernel
theorem dX10_plan_88 : decode cX10_plan 88 = .ok (.getfield 195, 3) := by decide +kernel
theorem dX10_plan_91 : decode cX10_plan 91 = .ok (.getfield 198, 3) := by decide +kernel
theorem dX10_plan_94 : decode cX10_plan 94 = .ok (.ireturn, 1) := by decide +kernel
theorem dX10_plan_95 : decode cX10_plan 95 = .ok (.aload_n 0, 1) := by decide +kernel
theorem dX10_plan_96 : decode cX10_plan 96 = .ok (.getfield 52, 3) := by decide +kernel
theorem dX10_plan_99 : decode cX10_plan 99 = .ok (.getfield 195, 3) := by decide +kernel
theorem dX10_plan_102 : decode cX10_plan 102 = .ok (.getfield 201, 3) := by decide +kernel
theorem dX10_plan_105 : decode cX10_plan 105 = .ok (.ireturn, 1) := by decide +kernel
theorem dX10_plan_106 : decode cX10_plan 106 = .ok (.aload_n 0, 1) := by decide +kernel
theorem dX10_plan_107 : decode cX10_plan 107 = .ok (.getfield 52, 3) := by decide +kernel
theorem dX10_plan_110 : decode cX10_plan 110 = .ok (.getfield 195, 3) := by decide +kernel
theorem dX10_plan_113 : decode cX10_plan 113 = .ok (.getfield 204, 3) := by decide +kernel
theorem dX10_plan_116 : decode cX10_plan 116 = .ok (.ireturn, 1) := by decide +kernel
theorem dX10_plan_117 : decode cX10_plan 117 = .ok (.aload_n 0, 1) := by decide +kernel
theorem dX10_plan_118 : decode cX10_plan 118 = .ok (.getfield 52, 3) := by decide +kernel
theorem dX10_plan_121 : decode cX10_plan 121 = .ok (.invokevirtual 207, 3) := by decide +kernel
theorem dX10_plan_124 : decode cX10_plan 124 = .ok (.ireturn, 1) := by decide +kernel
theorem dX10_plan_125 : decode cX10_plan 125 = .ok (.aload_n 0, 1) := by decide +kernel
theorem dX10_plan_126 : decode cX10_plan 126 = .ok (.getfield 52, 3) := by decide +kernel
theorem dX10_plan_129 : decode cX10_plan 129 = .ok (.invokevirtual 210, 3) := by decide +kernel
theorem dX10_plan_132 : decode cX10_plan 132 = .ok (.ireturn, 1) := by decide +kernel
theorem dX10_plan_133 : decode cX10_plan 133 = .ok (.aload_n 0, 1) := by decide +kernel
theorem dX10_plan_134 : decode cX10_plan 134 = .ok (.getfield 52, 3) := by decide +kernel
theorem dX10_plan_137 : decode cX10_plan 137 = .ok (.invokevirtual 213, 3) := by decide +kernel
theorem dX10_plan_140 : decode cX10_plan 140 = .ok (.ireturn, 1) := by decide +kernel
theorem dX10_had_0 : decode cX10_had 0 = .ok (.aload_n 0, 1) := by decide +kernel
theorem dX10_had_1 : decode cX10_had 1 = .ok (.iload_n 1, 1) := by decide +kernel
theorem dX10_had_2 : decode cX10_had 2 = .ok (.invokevirtual 116, 3) := by decide +kernel
theorem dX10_had_5 : decode cX10_had 5 = .ok (.ifCond .ne 9, 3) := by decide +kernel
theorem dX10_had_8 : decode cX10_had 8 = .ok (.aload_n 0, 1) := by decide +kernel
theorem dX10_had_9 : decode cX10_had 9 = .ok (.iconst (-1), 1) := by decide +kernel
theorem dX10_had_10 : decode cX10_had 10 = .ok (.invokevirtual 63, 3) := by decide +kernel
theorem dX10_had_13 : decode cX10_had 13 = .ok (.ireturn, 1) := by decide +kernel
theorem dX10_had_14 : decode cX10_had 14 = .ok (.iload_n 2, 1) := by decide +kernel
theorem dX10_had_15 : decode cX10_had 15 = .ok (.ifCond .lt 8, 3) := by decide +kernel
theorem dX10_had_18 : decode cX10_had 18 = .ok (.iload_n 2, 1) := by decide +kernel
theorem dX10_had_19 : decode cX10_had 19 = .ok (.iconst 2, 1) := by decide +kernel
theorem dX10_had_20 : decode cX10_had 20 = .ok (.if_icmp .le 10, 3) := by decide +kernel
theorem dX10_had_23 : decode cX10_had 23 = .ok (.aload_n 0, 1) := by decide +kernel
theorem dX10_had_24 : decode cX10_had 24 = .ok (.bipush (-2), 2) := by decide +kernel
theorem dX10_had_26 : decode cX10_had 26 = .ok (.invokevirtual 63, 3) := by decide +kernel
theorem dX10_had_29 : decode cX10_had 29 = .ok (.ireturn, 1) := by decide +kernel
theorem dX10_had_30 : decode cX10_had 30 = .ok (.aload_n 0, 1) := by decide +kernel
theorem dX10_had_31 : decode cX10_had 31 = .ok (.getfield 52, 3) := by decide +kernel
theorem dX10_had_34 : decode cX10_had 34 = .ok (.aload_n 0, 1) := by decide +kernel
theorem dX10_had_35 : decode cX10_had 35 = .ok (.getfield 10, 3) := by decide +kernel
theorem dX10_had_38 : decode cX10_had 38 = .ok (.invokevirtual 188, 3) := by decide +kernel
theorem dX10_had_41 : decode cX10_had 41 = .ok (.aload_n 0, 1) := by decide +kernel
theorem dX10_had_42 : decode cX10_had 42 = .ok (.getfield 52, 3) := by decide +kernel
theorem dX10_had_45 : decode cX10_had 45 = .ok (.iload_n 1, 1) := by decide +kernel
theorem dX10_had_46 : decode cX10_had 46 = .ok (.invokevirtual 216, 3) := by decide +kernel
theorem dX10_had_49 : decode cX10_had 49 = .ok (.iload_n 2, 1) := by decide +kernel
theorem dX10_had_50 : decode cX10_had 50 = .ok (.ifCond .ne 11, 3) := by decide +kernel
theorem dX10_had_53 : decode cX10_had 53 = .ok (.aload_n 0, 1) := by decide +kernel
theorem dX10_had_54 : decode cX10_had 54 = .ok (.getfield 52, 3) := by decide +kernel
theorem dX10_had_57 : decode cX10_had 57 = .ok (.getfield 219, 3) := by decide +kernel
theorem dX10_had_60 : decode cX10_had 60 = .ok (.ireturn, 1) := by decide +kernel
theorem dX10_had_61 : decode cX10_had 61 = .ok (.iload_n 2, 1) := by decide +kernel
theorem dX10_had_62 : decode cX10_had 62 = .ok (.iconst 1, 1) := by decide +kernel
theorem dX10_had_63 : decode cX10_had 63 = .ok (.if_icmp .ne 13, 3) := by decide +kernel
theorem dX10_had_66 : decode cX10_had 66 = .ok (.aload_n 0, 1) := by decide +kernel
theorem dX10_had_67 : decode cX10_had 67 = .ok (.getfield 52, 3) := by decide +kernel
theorem dX10_had_70 : decode cX10_had 70 = .ok (.getfield 222, 3) := by decide +kernel
theorem dX10_had_73 : decode cX10_had 73 = .ok (.goto 10, 3) := by decide +kernel
theorem dX10_had_76 : decode cX10_had 76 = .ok (.aload_n 0, 1) := by decide +kernel
theorem dX10_had_77 : decode cX10_had 77 = .ok (.getfield 52, 3) := by decide +kernel
theorem dX10_had_80 : decode cX10_had 80 = .ok (.getfield 225, 3) := by decide +kernel
theorem dX10_had_83 : decode cX10_had 83 = .ok (.ireturn, 1) := by decide +kernel
theorem dX10_best_0 : decode cX10_best 0 = .ok (.iload_n 1, 1) := by decide +kernel
theorem dX10_best_1 : decode cX10_best 1 = .ok (.ifCond .lt 8, 3) := by decide +kernel
theorem dX10_best_4 : decode cX10_best 4 = .ok (.iload_n 1, 1) := by decide +kernel
theorem dX10_best_5 : decode cX10_best 5 = .ok (.iconst 1, 1) := by decide +kernel
theorem dX10_best_6 : decode cX10_best 6 = .ok (.if_icmp .le 10, 3) := by decide +kernel
theorem dX10_best_9 : decode cX10_best 9 = .ok (.aload_n 0, 1) := by decide +kernel
theorem dX10_best_10 : decode cX10_best 10 = .ok (.bipush (-2), 2) := by decide +kernel
theorem dX10_best_12 : decode cX10_best 12 = .ok (.invokevirtual 63, 3) := by decide +kernel
theorem dX10_best_15 : decode cX10_best 15 = .ok (.ireturn, 1) := by decide +kernel
theorem dX10_best_16 : decode cX10_best 16 = .ok (.aload_n 0, 1) := by decide +kernel
theorem dX10_best_17 : decode cX10_best 17 = .ok (.getfield 52, 3) := by decide +kernel
theorem dX10_best_20 : decode cX10_best 20 = .ok (.aload_n 0, 1) := by decide +kernel
theorem dX10_best_21 : decode cX10_best 21 = .ok (.getfield 10, 3) := by decide +kernel
theorem dX10_best_24 : decode cX10_best 24 = .ok (.invokevirtual 188, 3) := by decide +kernel
theorem dX10_best_27 : decode cX10_best 27 = .ok (.aload_n 0, 1) := by decide +kernel
theorem dX10_best_28 : decode cX10_best 28 = .ok (.getfield 52, 3) := by decide +kernel
theorem dX10_best_31 : decode cX10_best 31 = .ok (.invokevirtual 228, 3) := by decide +kernel
theorem dX10_best_34 : decode cX10_best 34 = .ok (.iload_n 1, 1) := by decide +kernel
theorem dX10_best_35 : decode cX10_best 35 = .ok (.ifCond .ne 13, 3) := by decide +kernel
theorem dX10_best_38 : decode cX10_best 38 = .ok (.aload_n 0, 1) := by decide +kernel
theorem dX10_best_39 : decode cX10_best 39 = .ok (.getfield 52, 3) := by decide +kernel
theorem dX10_best_42 : decode cX10_best 42 = .ok (.getfield 231, 3) := by decide +kernel
theorem dX10_best_45 : decode cX10_best 45 = .ok (.goto 10, 3) := by decide +kernel
theorem dX10_best_48 : decode cX10_best 48 = .ok (.aload_n 0, 1) := by decide +kernel
theorem dX10_best_49 : decode cX10_best 49 = .ok (.getfield 52, 3) := by decide +kernel
theorem dX10_best_52 : decode cX10_best 52 = .ok (.getfield 234, 3) := by decide +kernel
theorem dX10_best_55 : decode cX10_best 55 = .ok (.ireturn, 1) := by decide +kernel
theorem dX10_left_0 : decode cX10_left 0 = .ok (.aload_n 0, 1) := by decide +kernel
theorem dX10_left_1 : decode cX10_left 1 = .ok (.getfield 52, 3) := by decide +kernel
theorem dX10_left_4 : decode cX10_left 4 = .ok (.aload_n 0, 1) := by decide +kernel
theorem dX10_left_5 : decode cX10_left 5 = .ok (.getfield 10, 3) := by decide +kernel
theorem dX10_left_8 : decode cX10_left 8 = .ok (.invokevirtual 188, 3) := by decide +kernel
theorem dX10_left_11 : decode cX10_left 11 = .ok (.aload_n 0, 1) := by decide +kernel
theorem dX10_left_12 : decode cX10_left 12 = .ok (.getfield 52, 3) := by decide +kernel
theorem dX10_left_15 : decode cX10_left 15 = .ok (.invokevirtual 237, 3) := by decide +kernel
theorem dX10_left_18 : decode cX10_left 18 = .ok (.ireturn, 1) := by decide +kernel
theorem dX10_keep_0 : decode cX10_keep 0 = .ok (.aload_n 0, 1) := by decide +kernel
theorem dX10_keep_1 : decode cX10_keep 1 = .ok (.iload_n 1, 1) := by decide +kernel
theorem dX10_keep_2 : decode cX10_keep 2 = .ok (.invokevirtual 116, 3) := by decide +kernel
theorem dX10_keep_5 : decode cX10_keep 5 = .ok (.ifCond .ne 9, 3) := by decide +kernel
theorem dX10_keep_8 : decode cX10_keep 8 = .ok (.aload_n 0, 1) := by decide +kernel
theorem dX10_keep_9 : decode cX10_keep 9 = .ok (.iconst (-1), 1) := by decide +kernel
theorem dX10_keep_10 : decode cX10_keep 10 = .ok (.invokevirtual 63, 3) := by decide +kernel
theorem dX10_keep_13 : decode cX10_keep 13 = .ok (.ireturn, 1) := by decide +kernel
theorem dX10_keep_14 : decode cX10_keep 14 = .ok (.aload_n 0, 1) := by decide +kernel
theorem dX10_keep_15 : decode cX10_keep 15 = .ok (.getfield 52, 3) := by decide +kernel
theorem dX10_keep_18 : decode cX10_keep 18 = .ok (.aload_n 0, 1) := by decide +kernel
theorem dX10_keep_19 : decode cX10_keep 19 = .ok (.getfield 10, 3) := by decide +kernel
theorem dX10_keep_22 : decode cX10_keep 22 = .ok (.invokevirtual 188, 3) := by decide +kernel
theorem dX10_keep_25 : decode cX10_keep 25 = .ok (.iconst 0, 1) := by decide +kernel
theorem dX10_keep_26 : decode cX10_keep 26 = .ok (.istore_n 2, 1) := by decide +kernel
theorem dX10_keep_27 : decode cX10_keep 27 = .ok (.iload_n 2, 1) := by decide +kernel
theorem dX10_keep_28 : decode cX10_keep 28 = .ok (.bipush 60, 2) := by decide +kernel
theorem dX10_keep_30 : decode cX10_keep 30 = .ok (.if_icmp .gt 43, 3) := by decide +kernel
theorem dX10_keep_33 : decode cX10_keep 33 = .ok (.aload_n 0, 1) := by decide +kernel
theorem dX10_keep_34 : decode cX10_keep 34 = .ok (.getfield 52, 3) := by decide +kernel
theorem dX10_keep_37 : decode cX10_keep 37 = .ok (.iload_n 2, 1) := by decide +kernel
theorem dX10_keep_38 : decode cX10_keep 38 = .ok (.invokevirtual 240, 3) := by decide +kernel
theorem dX10_keep_41 : decode cX10_keep 41 = .ok (.aload_n 0, 1) := by decide +kernel
theorem dX10_keep_42 : decode cX10_keep 42 = .ok (.getfield 52, 3) := by decide +kernel
theorem dX10_keep_45 : decode cX10_keep 45 = .ok (.iload_n 1, 1) := by decide +kernel
theorem dX10_keep_46 : decode cX10_keep 46 = .ok (.invokevirtual 243, 3) := by decide +kernel
theorem dX10_keep_49 : decode cX10_keep 49 = .ok (.ifCond .eq 5, 3) := by decide +kernel
theorem dX10_keep_52 : decode cX10_keep 52 = .ok (.iload_n 2, 1) := by decide +kernel
theorem dX10_keep_53 : decode cX10_keep 53 = .ok (.ireturn, 1) := by decide +kernel
theorem dX10_keep_54 : decode cX10_keep 54 = .ok (.aload_n 0, 1) := by decide +kernel
theorem dX10_keep_55 : decode cX10_keep 55 = .ok (.getfield 52, 3) := by decide +kernel
theorem dX10_keep_58 : decode cX10_keep 58 = .ok (.invokevirtual 246, 3) := by decide +kernel
theorem dX10_keep_61 : decode cX10_keep 61 = .ok (.ifCond .eq 6, 3) := by decide +kernel
theorem dX10_keep_64 : decode cX10_keep 64 = .ok (.bipush (-9), 2) := by decide +kernel
theorem dX10_keep_66 : decode cX10_keep 66 = .ok (.ireturn, 1) := by decide +kernel
theorem dX10_keep_67 : decode cX10_keep 67 = .ok (.iinc 2 1, 3) := by decide +kernel
theorem dX10_keep_70 : decode cX10_keep 70 = .ok (.goto (-43), 3) := by decide +kernel
theorem dX10_keep_73 : decode cX10_keep 73 = .ok (.bipush (-9), 2) := by decide +kernel
theorem dX10_keep_75 : decode cX10_keep 75 = .ok (.ireturn, 1) := by decide +kernel
theorem dX10_goingOn_0 : decode cX10_goingOn 0 = .ok (.iload_n 1, 1) := by decide +kernel
theorem dX10_goingOn_1 : decode cX10_goingOn 1 = .ok (.ifCond .ge 13, 3) := by decide +kernel
theorem dX10_goingOn_4 : decode cX10_goingOn 4 = .ok (.ldc 99, 2) := by decide +kernel
theorem dX10_goingOn_6 : decode cX10_goingOn 6 = .ok (.aload_n 0, 1) := by decide +kernel
theorem dX10_goingOn_7 : decode cX10_goingOn 7 = .ok (.bipush (-4), 2) := by decide +kernel
theorem dX10_goingOn_9 : decode cX10_goingOn 9 = .ok (.invokevirtual 63, 3) := by decide +kernel
theorem dX10_goingOn_12 : decode cX10_goingOn 12 = .ok (.isub, 1) := by decide +kernel
theorem dX10_goingOn_13 : decode cX10_goingOn 13 = .ok (.ireturn, 1) := by decide +kernel
theorem dX10_goingOn_14 : decode cX10_goingOn 14 = .ok (.iload_n 1, 1) := by decide +kernel
theorem dX10_goingOn_15 : decode cX10_goingOn 15 = .ok (.bipush 20, 2) := by decide +kernel
theorem dX10_goingOn_17 : decode cX10_goingOn 17 = .ok (.if_icmp .le 13, 3) := by decide +kernel
theorem dX10_goingOn_20 : decode cX10_goingOn 20 = .ok (.ldc 99, 2) := by decide +kernel
theorem dX10_goingOn_22 : decode cX10_goingOn 22 = .ok (.aload_n 0, 1) := by decide +kernel
theorem dX10_goingOn_23 : decode cX10_goingOn 23 = .ok (.bipush (-6), 2) := by decide +kernel
theorem dX10_goingOn_25 : decode cX10_goingOn 25 = .ok (.invokevirtual 63, 3) := by decide +kernel
theorem dX10_goingOn_28 : decode cX10_goingOn 28 = .ok (.isub, 1) := by decide +kernel
theorem dX10_goingOn_29 : decode cX10_goingOn 29 = .ok (.ireturn, 1) := by decide +kernel
theorem dX10_goingOn_30 : decode cX10_goingOn 30 = .ok (.aload_n 0, 1) := by decide +kernel
theorem dX10_goingOn_31 : decode cX10_goingOn 31 = .ok (.getfield 52, 3) := by decide +kernel
theorem dX10_goingOn_34 : decode cX10_goingOn 34 = .ok (.aload_n 0, 1) := by decide +kernel
theorem dX10_goingOn_35 : decode cX10_goingOn 35 = .ok (.getfield 10, 3) := by decide +kernel
theorem dX10_goingOn_38 : decode cX10_goingOn 38 = .ok (.invokevirtual 188, 3) := by decide +kernel
theorem dX10_goingOn_41 : decode cX10_goingOn 41 = .ok (.aload_n 0, 1) := by decide +kernel
theorem dX10_goingOn_42 : decode cX10_goingOn 42 = .ok (.getfield 52, 3) := by decide +kernel
theorem dX10_goingOn_45 : decode cX10_goingOn 45 = .ok (.invokevirtual 228, 3) := by decide +kernel
theorem dX10_goingOn_48 : decode cX10_goingOn 48 = .ok (.aload_n 0, 1) := by decide +kernel
theorem dX10_goingOn_49 : decode cX10_goingOn 49 = .ok (.getfield 52, 3) := by decide +kernel
theorem dX10_goingOn_52 : decode cX10_goingOn 52 = .ok (.getfield 234, 3) := by decide +kernel
theorem dX10_goingOn_55 : decode cX10_goingOn 55 = .ok (.istore_n 2, 1) := by decide +kernel
theorem dX10_goingOn_56 : decode cX10_goingOn 56 = .ok (.aload_n 0, 1) := by decide +kernel
theorem dX10_goingOn_57 : decode cX10_goingOn 57 = .ok (.getfield 52, 3) := by decide +kernel
theorem dX10_goingOn_60 : decode cX10_goingOn 60 = .ok (.iload_n 1, 1) := by decide +kernel
theorem dX10_goingOn_61 : decode cX10_goingOn 61 = .ok (.invokevirtual 249, 3) := by decide +kernel
theorem dX10_goingOn_64 : decode cX10_goingOn 64 = .ok (.aload_n 0, 1) := by decide +kernel
theorem dX10_goingOn_65 : decode cX10_goingOn 65 = .ok (.getfield 52, 3) := by decide +kernel
theorem dX10_goingOn_68 : decode cX10_goingOn 68 = .ok (.invokevirtual 228, 3) := by decide +kernel
theorem dX10_goingOn_71 : decode cX10_goingOn 71 = .ok (.aload_n 0, 1) := by decide +kernel
theorem dX10_goingOn_72 : decode cX10_goingOn 72 = .ok (.getfield 52, 3) := by decide +kernel
theorem dX10_goingOn_75 : decode cX10_goingOn 75 = .ok (.getfield 234, 3) := by decide +kernel
theorem dX10_goingOn_78 : decode cX10_goingOn 78 = .ok (.istore_n 3, 1) := by decide +kernel
theorem dX10_goingOn_79 : decode cX10_goingOn 79 = .ok (.iload_n 2, 1) := by decide +kernel
theorem dX10_goingOn_80 : decode cX10_goingOn 80 = .ok (.bipush (-9), 2) := by decide +kernel
theorem dX10_goingOn_82 : decode cX10_goingOn 82 = .ok (.if_icmp .eq 9, 3) := by decide +kernel
theorem dX10_goingOn_85 : decode cX10_goingOn 85 = .ok (.iload_n 3, 1) := by decide +kernel
theorem dX10_goingOn_86 : decode cX10_goingOn 86 = .ok (.bipush (-9), 2) := by decide +kernel
theorem dX10_goingOn_88 : decode cX10_goingOn 88 = .ok (.if_icmp .ne 9, 3) := by decide +kernel
theorem dX10_goingOn_91 : decode cX10_goingOn 91 = .ok (.sipush 1000, 3) := by decide +kernel
theorem dX10_goingOn_94 : decode cX10_goingOn 94 = .ok (.goto 6, 3) := by decide +kernel
theorem dX10_goingOn_97 : decode cX10_goingOn 97 = .ok (.iload_n 3, 1) := by decide +kernel
theorem dX10_goingOn_98 : decode cX10_goingOn 98 = .ok (.iload_n 2, 1) := by decide +kernel
theorem dX10_goingOn_99 : decode cX10_goingOn 99 = .ok (.isub, 1) := by decide +kernel
theorem dX10_goingOn_100 : decode cX10_goingOn 100 = .ok (.ireturn, 1) := by decide +kernel
theorem dX10_blown_0 : decode cX10_blown 0 = .ok (.iload_n 1, 1) := by decide +kernel
theorem dX10_blown_1 : decode cX10_blown 1 = .ok (.ifCond .lt 8, 3) := by decide +kernel
theorem dX10_blown_4 : decode cX10_blown 4 = .ok (.iload_n 1, 1) := by decide +kernel
theorem dX10_blown_5 : decode cX10_blown 5 = .ok (.iconst 2, 1) := by decide +kernel
theorem dX10_blown_6 : decode cX10_blown 6 = .ok (.if_icmp .le 10, 3) := by decide +kernel
theorem dX10_blown_9 : decode cX10_blown 9 = .ok (.aload_n 0, 1) := by decide +kernel
theorem dX10_blown_10 : decode cX10_blown 10 = .ok (.bipush (-2), 2) := by decide +kernel
theorem dX10_blown_12 : decode cX10_blown 12 = .ok (.invokevirtual 63, 3) := by decide +kernel
theorem dX10_blown_15 : decode cX10_blown 15 = .ok (.ireturn, 1) := by decide +kernel
theorem dX10_blown_16 : decode cX10_blown 16 = .ok (.aload_n 0, 1) := by decide +kernel
theorem dX10_blown_17 : decode cX10_blown 17 = .ok (.getfield 10, 3) := by decide +kernel
theorem dX10_blown_20 : decode cX10_blown 20 = .ok (.getfield 100, 3) := by decide +kernel
theorem dX10_blown_23 : decode cX10_blown 23 = .ok (.iload_n 1, 1) := by decide +kernel
theorem dX10_blown_24 : decode cX10_blown 24 = .ok (.invokevirtual 252, 3) := by decide +kernel
theorem dX10_blown_27 : decode cX10_blown 27 = .ok (.ireturn, 1) := by decide +kernel
theorem dX10_two_0 : decode cX10_two 0 = .ok (.iload_n 1, 1) := by decide +kernel
theorem dX10_two_1 : decode cX10_two 1 = .ok (.bipush (-99), 2) := by decide +kernel
theorem dX10_two_3 : decode cX10_two 3 = .ok (.if_icmp .lt 7, 3) := by decide +kernel
theorem dX10_two_6 : decode cX10_two 6 = .ok (.iload_n 2, 1) := by decide +kernel
theorem dX10_two_7 : decode cX10_two 7 = .ok (.ifCond .ge 10, 3) := by decide +kernel
theorem dX10_two_10 : decode cX10_two 10 = .ok (.aload_n 0, 1) := by decide +kernel
theorem dX10_two_11 : decode cX10_two 11 = .ok (.bipush (-4), 2) := by decide +kernel
theorem dX10_two_13 : decode cX10_two 13 = .ok (.invokevirtual 63, 3) := by decide +kernel
theorem dX10_two_16 : decode cX10_two 16 = .ok (.ireturn, 1) := by decide +kernel
theorem dX10_two_17 : decode cX10_two 17 = .ok (.iload_n 1, 1) := by decide +kernel
theorem dX10_two_18 : decode cX10_two 18 = .ok (.bipush 99, 2) := by decide +kernel
theorem dX10_two_20 : decode cX10_two 20 = .ok (.if_icmp .gt 9, 3) := by decide +kernel
theorem dX10_two_23 : decode cX10_two 23 = .ok (.iload_n 2, 1) := by decide +kernel
theorem dX10_two_24 : decode cX10_two 24 = .ok (.bipush 99, 2) := by decide +kernel
theorem dX10_two_26 : decode cX10_two 26 = .ok (.if_icmp .le 10, 3) := by decide +kernel
theorem dX10_two_29 : decode cX10_two 29 = .ok (.aload_n 0, 1) := by decide +kernel
theorem dX10_two_30 : decode cX10_two 30 = .ok (.bipush (-6), 2) := by decide +kernel
theorem dX10_two_32 : decode cX10_two 32 = .ok (.invokevirtual 63, 3) := by decide +kernel
theorem dX10_two_35 : decode cX10_two 35 = .ok (.ireturn, 1) := by decide +kernel
theorem dX10_two_36 : decode cX10_two 36 = .ok (.iload_n 3, 1) := by decide +kernel
theorem dX10_two_37 : decode cX10_two 37 = .ok (.ifCond .lt 8, 3) := by decide +kernel
theorem dX10_two_40 : decode cX10_two 40 = .ok (.iload_n 3, 1) := by decide +kernel
theorem dX10_two_41 : decode cX10_two 41 = .ok (.iconst 1, 1) := by decide +kernel
theorem dX10_two_42 : decode cX10_two 42 = .ok (.if_icmp .le 10, 3) := by decide +kernel
theorem dX10_two_45 : decode cX10_two 45 = .ok (.aload_n 0, 1) := by decide +kernel
theorem dX10_two_46 : decode cX10_two 46 = .ok (.bipush (-2), 2) := by decide +kernel
theorem dX10_two_48 : decode cX10_two 48 = .ok (.invokevirtual 63, 3) := by decide +kernel
theorem dX10_two_51 : decode cX10_two 51 = .ok (.ireturn, 1) := by decide +kernel
theorem dX10_two_52 : decode cX10_two 52 = .ok (.aload_n 0, 1) := by decide +kernel
theorem dX10_two_53 : decode cX10_two 53 = .ok (.getfield 10, 3) := by decide +kernel
theorem dX10_two_56 : decode cX10_two 56 = .ok (.getfield 100, 3) := by decide +kernel
theorem dX10_two_59 : decode cX10_two 59 = .ok (.iload_n 1, 1) := by decide +kernel
theorem dX10_two_60 : decode cX10_two 60 = .ok (.iload_n 2, 1) := by decide +kernel
theorem dX10_two_61 : decode cX10_two 61 = .ok (.invokevirtual 255, 3) := by decide +kernel
theorem dX10_two_64 : decode cX10_two 64 = .ok (.istore 4, 2) := by decide +kernel
theorem dX10_two_66 : decode cX10_two 66 = .ok (.iload_n 3, 1) := by decide +kernel
theorem dX10_two_67 : decode cX10_two 67 = .ok (.ifCond .eq 10, 3) := by decide +kernel
theorem dX10_two_70 : decode cX10_two 70 = .ok (.iload 4, 2) := by decide +kernel
theorem dX10_two_72 : decode cX10_two 72 = .ok (.bipush (-9), 2) := by decide +kernel
theorem dX10_two_74 : decode cX10_two 74 = .ok (.if_icmp .ne 8, 3) := by decide +kernel
theorem dX10_two_77 : decode cX10_two 77 = .ok (.iload 4, 2) := by decide +kernel
theorem dX10_two_79 : decode cX10_two 79 = .ok (.goto 17, 3) := by decide +kernel
theorem dX10_two_82 : decode cX10_two 82 = .ok (.aload_n 0, 1) := by decide +kernel
theorem dX10_two_83 : decode cX10_two 83 = .ok (.getfield 10, 3) := by decide +kernel
theorem dX10_two_86 : decode cX10_two 86 = .ok (.getfield 100, 3) := by decide +kernel
theorem dX10_two_89 : decode cX10_two 89 = .ok (.iload 4, 2) := by decide +kernel
theorem dX10_two_91 : decode cX10_two 91 = .ok (.iload_n 1, 1) := by decide +kernel
theorem dX10_two_92 : decode cX10_two 92 = .ok (.iload_n 2, 1) := by decide +kernel
theorem dX10_two_93 : decode cX10_two 93 = .ok (.invokevirtual 258, 3) := by decide +kernel
theorem dX10_two_96 : decode cX10_two 96 = .ok (.ireturn, 1) := by decide +kernel
theorem dX10_swing_0 : decode cX10_swing 0 = .ok (.iload_n 1, 1) := by decide +kernel
theorem dX10_swing_1 : decode cX10_swing 1 = .ok (.ifCond .lt 8, 3) := by decide +kernel
theorem dX10_swing_4 : decode cX10_swing 4 = .ok (.iload_n 1, 1) := by decide +kernel
theorem dX10_swing_5 : decode cX10_swing 5 = .ok (.iconst 2, 1) := by decide +kernel
theorem dX10_swing_6 : decode cX10_swing 6 = .ok (.if_icmp .le 10, 3) := by decide +kernel
theorem dX10_swing_9 : decode cX10_swing 9 = .ok (.aload_n 0, 1) := by decide +kernel
theorem dX10_swing_10 : decode cX10_swing 10 = .ok (.bipush (-2), 2) := by decide +kernel
theorem dX10_swing_12 : decode cX10_swing 12 = .ok (.invokevirtual 63, 3) := by decide +kernel
theorem dX10_swing_15 : decode cX10_swing 15 = .ok (.ireturn, 1) := by decide +kernel
theorem dX10_swing_16 : decode cX10_swing 16 = .ok (.aload_n 0, 1) := by decide +kernel
theorem dX10_swing_17 : decode cX10_swing 17 = .ok (.getfield 52, 3) := by decide +kernel
theorem dX10_swing_20 : decode cX10_swing 20 = .ok (.aload_n 0, 1) := by decide +kernel
theorem dX10_swing_21 : decode cX10_swing 21 = .ok (.getfield 10, 3) := by decide +kernel
theorem dX10_swing_24 : decode cX10_swing 24 = .ok (.invokevirtual 188, 3) := by decide +kernel
theorem dX10_swing_27 : decode cX10_swing 27 = .ok (.aload_n 0, 1) := by decide +kernel
theorem dX10_swing_28 : decode cX10_swing 28 = .ok (.getfield 52, 3) := by decide +kernel
theorem dX10_swing_31 : decode cX10_swing 31 = .ok (.iconst 1, 1) := by decide +kernel
theorem dX10_swing_32 : decode cX10_swing 32 = .ok (.invokevirtual 261, 3) := by decide +kernel
theorem dX10_swing_35 : decode cX10_swing 35 = .ok (.iload_n 1, 1) := by decide +kernel
theorem dX10_swing_36 : decode cX10_swing 36 = .ok (.iconst 2, 1) := by decide +kernel
theorem dX10_swing_37 : decode cX10_swing 37 = .ok (.if_icmp .ne 19, 3) := by decide +kernel
theorem dX10_swing_40 : decode cX10_swing 40 = .ok (.aload_n 0, 1) := by decide +kernel
theorem dX10_swing_41 : decode cX10_swing 41 = .ok (.getfield 52, 3) := by decide +kernel
theorem dX10_swing_44 : decode cX10_swing 44 = .ok (.invokevirtual 264, 3) := by decide +kernel
theorem dX10_swing_47 : decode cX10_swing 47 = .ok (.ifCond .eq 7, 3) := by decide +kernel
theorem dX10_swing_50 : decode cX10_swing 50 = .ok (.iconst 1, 1) := by decide +kernel
theorem dX10_swing_51 : decode cX10_swing 51 = .ok (.goto 4, 3) := by decide +kernel
theorem dX10_swing_54 : decode cX10_swing 54 = .ok (.iconst 0, 1) := by decide +kernel
theorem dX10_swing_55 : decode cX10_swing 55 = .ok (.ireturn, 1) := by decide +kernel
theorem dX10_swing_56 : decode cX10_swing 56 = .ok (.iload_n 1, 1) := by decide +kernel
theorem dX10_swing_57 : decode cX10_swing 57 = .ok (.ifCond .ne 13, 3) := by decide +kernel
theorem dX10_swing_60 : decode cX10_swing 60 = .ok (.aload_n 0, 1) := by decide +kernel
theorem dX10_swing_61 : decode cX10_swing 61 = .ok (.getfield 52, 3) := by decide +kernel
theorem dX10_swing_64 : decode cX10_swing 64 = .ok (.getfield 267, 3) := by decide +kernel
theorem dX10_swing_67 : decode cX10_swing 67 = .ok (.goto 10, 3) := by decide +kernel
theorem dX10_swing_70 : decode cX10_swing 70 = .ok (.aload_n 0, 1) := by decide +kernel
theorem dX10_swing_71 : decode cX10_swing 71 = .ok (.getfield 52, 3) := by decide +kernel
theorem dX10_swing_74 : decode cX10_swing 74 = .ok (.getfield 270, 3) := by decide +kernel
theorem dX10_swing_77 : decode cX10_swing 77 = .ok (.ireturn, 1) := by decide +kernel
theorem dX10_calm_0 : decode cX10_calm 0 = .ok (.aload_n 0, 1) := by decide +kernel
theorem dX10_calm_1 : decode cX10_calm 1 = .ok (.getfield 52, 3) := by decide +kernel
theorem dX10_calm_4 : decode cX10_calm 4 = .ok (.aload_n 0, 1) := by decide +kernel
theorem dX10_calm_5 : decode cX10_calm 5 = .ok (.getfield 10, 3) := by decide +kernel
theorem dX10_calm_8 : decode cX10_calm 8 = .ok (.invokevirtual 188, 3) := by decide +kernel
theorem dX10_calm_11 : decode cX10_calm 11 = .ok (.iconst 1, 1) := by decide +kernel
theorem dX10_calm_12 : decode cX10_calm 12 = .ok (.istore_n 1, 1) := by decide +kernel
theorem dX10_calm_13 : decode cX10_calm 13 = .ok (.iload_n 1, 1) := by decide +kernel
theorem dX10_calm_14 : decode cX10_calm 14 = .ok (.bipush 9, 2) := by decide +kernel
theorem dX10_calm_16 : decode cX10_calm 16 = .ok (.if_icmp .gt 29, 3) := by decide +kernel
theorem dX10_calm_19 : decode cX10_calm 19 = .ok (.aload_n 0, 1) := by decide +kernel
theorem dX10_calm_20 : decode cX10_calm 20 = .ok (.getfield 52, 3) := by decide +kernel
theorem dX10_calm_23 : decode cX10_calm 23 = .ok (.iload_n 1, 1) := by decide +kernel
theorem dX10_calm_24 : decode cX10_calm 24 = .ok (.invokevirtual 261, 3) := by decide +kernel
theorem dX10_calm_27 : decode cX10_calm 27 = .ok (.aload_n 0, 1) := by decide +kernel
theorem dX10_calm_28 : decode cX10_calm 28 = .ok (.getfield 52, 3) := by decide +kernel
theorem dX10_calm_31 : decode cX10_calm 31 = .ok (.invokevirtual 264, 3) := by decide +kernel
theorem dX10_calm_34 : decode cX10_calm 34 = .ok (.ifCond .ne 5, 3) := by decide +kernel
theorem dX10_calm_37 : decode cX10_calm 37 = .ok (.iload_n 1, 1) := by decide +kernel
theorem dX10_calm_38 : decode cX10_calm 38 = .ok (.ireturn, 1) := by decide +kernel
theorem dX10_calm_39 : decode cX10_calm 39 = .ok (.iinc 1 1, 3) := by decide +kernel
theorem dX10_calm_42 : decode cX10_calm 42 = .ok (.goto (-29), 3) := by decide +kernel
theorem dX10_calm_45 : decode cX10_calm 45 = .ok (.bipush (-9), 2) := by decide +kernel
theorem dX10_calm_47 : decode cX10_calm 47 = .ok (.ireturn, 1) := by decide +kernel
theorem dX10_out_0 : decode cX10_out 0 = .ok (.aload_n 0, 1) := by decide +kernel
theorem dX10_out_1 : decode cX10_out 1 = .ok (.getfield 10, 3) := by decide +kernel
theorem dX10_out_4 : decode cX10_out 4 = .ok (.getfield 129, 3) := by decide +kernel
theorem dX10_out_7 : decode cX10_out 7 = .ok (.getfield 175, 3) := by decide +kernel
theorem dX10_out_10 : decode cX10_out 10 = .ok (.ifCond .le 8, 3) := by decide +kernel
theorem dX10_out_13 : decode cX10_out 13 = .ok (.bipush (-9), 2) := by decide +kernel
theorem dX10_out_15 : decode cX10_out 15 = .ok (.goto 13, 3) := by decide +kernel
theorem dX10_out_18 : decode cX10_out 18 = .ok (.aload_n 0, 1) := by decide +kernel
theorem dX10_out_19 : decode cX10_out 19 = .ok (.getfield 10, 3) := by decide +kernel
theorem dX10_out_22 : decode cX10_out 22 = .ok (.getfield 129, 3) := by decide +kernel
theorem dX10_out_25 : decode cX10_out 25 = .ok (.invokevirtual 273, 3) := by decide +kernel
theorem dX10_out_28 : decode cX10_out 28 = .ok (.ireturn, 1) := by decide +kernel
theorem dX10_road_0 : decode cX10_road 0 = .ok (.iload_n 1, 1) := by decide +kernel
theorem dX10_road_1 : decode cX10_road 1 = .ok (.iload_n 2, 1) := by decide +kernel
theorem dX10_road_2 : decode cX10_road 2 = .ok (.invokestatic 276, 3) := by decide +kernel
theorem dX10_road_5 : decode cX10_road 5 = .ok (.ifCond .ne 9, 3) := by decide +kernel
theorem dX10_road_8 : decode cX10_road 8 = .ok (.aload_n 0, 1) := by decide +kernel
theorem dX10_road_9 : decode cX10_road 9 = .ok (.iconst (-1), 1) := by decide +kernel
theorem dX10_road_10 : decode cX10_road 10 = .ok (.invokevirtual 63, 3) := by decide +kernel
theorem dX10_road_13 : decode cX10_road 13 = .ok (.ireturn, 1) := by decide +kernel
theorem dX10_road_14 : decode cX10_road 14 = .ok (.iload_n 3, 1) := by decide +kernel
theorem dX10_road_15 : decode cX10_road 15 = .ok (.ifCond .ge 10, 3) := by decide +kernel
theorem dX10_road_18 : decode cX10_road 18 = .ok (.aload_n 0, 1) := by decide +kernel
theorem dX10_road_19 : decode cX10_road 19 = .ok (.bipush (-4), 2) := by decide +kernel
theorem dX10_road_21 : decode cX10_road 21 = .ok (.invokevirtual 63, 3) := by decide +kernel
theorem dX10_road_24 : decode cX10_road 24 = .ok (.ireturn, 1) := by decide +kernel
theorem dX10_road_25 : decode cX10_road 25 = .ok (.iload_n 3, 1) := by decide +kernel
theorem dX10_road_26 : decode cX10_road 26 = .ok (.bipush 99, 2) := by decide +kernel
theorem dX10_road_28 : decode cX10_road 28 = .ok (.if_icmp .le 10, 3) := by decide +kernel
theorem dX10_road_31 : decode cX10_road 31 = .ok (.aload_n 0, 1) := by decide +kernel
theorem dX10_road_32 : decode cX10_road 32 = .ok (.bipush (-6), 2) := by decide +kernel
theorem dX10_road_34 : decode cX10_road 34 = .ok (.invokevirtual 63, 3) := by decide +kernel
theorem dX10_road_37 : decode cX10_road 37 = .ok (.ireturn, 1) := by decide +kernel
theorem dX10_road_38 : decode cX10_road 38 = .ok (.aload_n 0, 1) := by decide +kernel
theorem dX10_road_39 : decode cX10_road 39 = .ok (.getfield 10, 3) := by decide +kernel
theorem dX10_road_42 : decode cX10_road 42 = .ok (.getfield 279, 3) := by decide +kernel
theorem dX10_road_45 : decode cX10_road 45 = .ok (.iload_n 1, 1) := by decide +kernel
theorem dX10_road_46 : decode cX10_road 46 = .ok (.iload_n 2, 1) := by decide +kernel
theorem dX10_road_47 : decode cX10_road 47 = .ok (.invokevirtual 283, 3) := by decide +kernel
theorem dX10_road_50 : decode cX10_road 50 = .ok (.istore 4, 2) := by decide +kernel
theorem dX10_road_52 : decode cX10_road 52 = .ok (.aload_n 0, 1) := by decide +kernel
theorem dX10_road_53 : decode cX10_road 53 = .ok (.getfield 10, 3) := by decide +kernel
theorem dX10_road_56 : decode cX10_road 56 = .ok (.getfield 279, 3) := by decide +kernel
theorem dX10_road_59 : decode cX10_road 59 = .ok (.iload_n 1, 1) := by decide +kernel
theorem dX10_road_60 : decode cX10_road 60 = .ok (.iload_n 2, 1) := by decide +kernel
theorem dX10_road_61 : decode cX10_road 61 = .ok (.iload_n 3, 1) := by decide +kernel
theorem dX10_road_62 : decode cX10_road 62 = .ok (.invokevirtual 288, 3) := by decide +kernel
theorem dX10_road_65 : decode cX10_road 65 = .ok (.aload_n 0, 1) := by decide +kernel
theorem dX10_road_66 : decode cX10_road 66 = .ok (.getfield 25, 3) := by decide +kernel
theorem dX10_road_69 : decode cX10_road 69 = .ok (.invokevirtual 92, 3) := by decide +kernel
theorem dX10_road_72 : decode cX10_road 72 = .ok (.iload 4, 2) := by decide +kernel
theorem dX10_road_74 : decode cX10_road 74 = .ok (.ireturn, 1) := by decide +kernel
theorem dX10_car_0 : decode cX10_car 0 = .ok (.iload_n 1, 1) := by decide +kernel
theorem dX10_car_1 : decode cX10_car 1 = .ok (.invokestatic 291, 3) := by decide +kernel
theorem dX10_car_4 : decode cX10_car 4 = .ok (.ifCond .ne 9, 3) := by decide +kernel
theorem dX10_car_7 : decode cX10_car 7 = .ok (.aload_n 0, 1) := by decide +kernel
theorem dX10_car_8 : decode cX10_car 8 = .ok (.iconst (-1), 1) := by decide +kernel
theorem dX10_car_9 : decode cX10_car 9 = .ok (.invokevirtual 63, 3) := by decide +kernel
theorem dX10_car_12 : decode cX10_car 12 = .ok (.ireturn, 1) := by decide +kernel
theorem dX10_car_13 : decode cX10_car 13 = .ok (.aload_n 0, 1) := by decide +kernel
theorem dX10_car_14 : decode cX10_car 14 = .ok (.getfield 10, 3) := by decide +kernel
theorem dX10_car_17 : decode cX10_car 17 = .ok (.getfield 279, 3) := by decide +kernel
theorem dX10_car_20 : decode cX10_car 20 = .ok (.getfield 294, 3) := by decide +kernel
theorem dX10_car_23 : decode cX10_car 23 = .ok (.istore_n 2, 1) := by decide +kernel
theorem dX10_car_24 : decode cX10_car 24 = .ok (.aload_n 0, 1) := by decide +kernel
theorem dX10_car_25 : decode cX10_car 25 = .ok (.getfield 10, 3) := by decide +kernel
theorem dX10_car_28 : decode cX10_car 28 = .ok (.getfield 279, 3) := by decide +kernel
theorem dX10_car_31 : decode cX10_car 31 = .ok (.iload_n 1, 1) := by decide +kernel
theorem dX10_car_32 : decode cX10_car 32 = .ok (.putfield 294, 3) := by decide +kernel
theorem dX10_car_35 : decode cX10_car 35 = .ok (.aload_n 0, 1) := by decide +kernel
theorem dX10_car_36 : decode cX10_car 36 = .ok (.getfield 25, 3) := by decide +kernel
theorem dX10_car_39 : decode cX10_car 39 = .ok (.invokevirtual 92, 3) := by decide +kernel
theorem dX10_car_42 : decode cX10_car 42 = .ok (.iload_n 2, 1) := by decide +kernel
theorem dX10_car_43 : decode cX10_car 43 = .ok (.ireturn, 1) := by decide +kernel
theorem dX10_drive_0 : decode cX10_drive 0 = .ok (.iload_n 1, 1) := by decide +kernel
theorem dX10_drive_1 : decode cX10_drive 1 = .ok (.invokestatic 291, 3) := by decide +kernel
theorem dX10_drive_4 : decode cX10_drive 4 = .ok (.ifCond .ne 9, 3) := by decide +kernel
theorem dX10_drive_7 : decode cX10_drive 7 = .ok (.aload_n 0, 1) := by decide +kernel
theorem dX10_drive_8 : decode cX10_drive 8 = .ok (.iconst (-1), 1) := by decide +kernel
theorem dX10_drive_9 : decode cX10_drive 9 = .ok (.invokevirtual 63, 3) := by decide +kernel
theorem dX10_drive_12 : decode cX10_drive 12 = .ok (.ireturn, 1) := by decide +kernel
theorem dX10_drive_13 : decode cX10_drive 13 = .ok (.aload_n 0, 1) := by decide +kernel
theorem dX10_drive_14 : decode cX10_drive 14 = .ok (.getfield 59, 3) := by decide +kernel
theorem dX10_drive_17 : decode cX10_drive 17 = .ok (.aload_n 0, 1) := by decide +kernel
theorem dX10_drive_18 : decode cX10_drive 18 = .ok (.getfield 10, 3) := by decide +kernel
theorem dX10_drive_21 : decode cX10_drive 21 = .ok (.getfield 279, 3) := by decide +kernel
theorem dX10_drive_24 : decode cX10_drive 24 = .ok (.invokevirtual 297, 3) := by decide +kernel
theorem dX10_drive_27 : decode cX10_drive 27 = .ok (.aload_n 0, 1) := by decide +kernel
theorem dX10_drive_28 : decode cX10_drive 28 = .ok (.getfield 59, 3) := by decide +kernel
theorem dX10_drive_31 : decode cX10_drive 31 = .ok (.aload_n 0, 1) := by decide +kernel
theorem dX10_drive_32 : decode cX10_drive 32 = .ok (.getfield 10, 3) := by decide +kernel
theorem dX10_drive_35 : decode cX10_drive 35 = .ok (.getfield 279, 3) := by decide +kernel
theorem dX10_drive_38 : decode cX10_drive 38 = .ok (.getfield 294, 3) := by decide +kernel
theorem dX10_drive_41 : decode cX10_drive 41 = .ok (.iload_n 1, 1) := by decide +kernel
theorem dX10_drive_42 : decode cX10_drive 42 = .ok (.invokevirtual 301, 3) := by decide +kernel
theorem dX10_drive_45 : decode cX10_drive 45 = .ok (.ireturn, 1) := by decide +kernel
theorem dX10_waitAt_0 : decode cX10_waitAt 0 = .ok (.aload_n 0, 1) := by decide +kernel
theorem dX10_waitAt_1 : decode cX10_waitAt 1 = .ok (.getfield 41, 3) := by decide +kernel
theorem dX10_waitAt_4 : decode cX10_waitAt 4 = .ok (.getfield 304, 3) := by decide +kernel
theorem dX10_waitAt_7 : decode cX10_waitAt 7 = .ok (.bipush 8, 2) := by decide +kernel
theorem dX10_waitAt_9 : decode cX10_waitAt 9 = .ok (.if_icmp .eq 10, 3) := by decide +kernel
theorem dX10_waitAt_12 : decode cX10_waitAt 12 = .ok (.aload_n 0, 1) := by decide +kernel
theorem dX10_waitAt_13 : decode cX10_waitAt 13 = .ok (.bipush (-3), 2) := by decide +kernel
theorem dX10_waitAt_15 : decode cX10_waitAt 15 = .ok (.invokevirtual 63, 3) := by decide +kernel
theorem dX10_waitAt_18 : decode cX10_waitAt 18 = .ok (.ireturn, 1) := by decide +kernel
theorem dX10_waitAt_19 : decode cX10_waitAt 19 = .ok (.aload_n 0, 1) := by decide +kernel
theorem dX10_waitAt_20 : decode cX10_waitAt 20 = .ok (.getfield 59, 3) := by decide +kernel
theorem dX10_waitAt_23 : decode cX10_waitAt 23 = .ok (.aload_n 0, 1) := by decide +kernel
theorem dX10_waitAt_24 : decode cX10_waitAt 24 = .ok (.getfield 10, 3) := by decide +kernel
theorem dX10_waitAt_27 : decode cX10_waitAt 27 = .ok (.getfield 279, 3) := by decide +kernel
theorem dX10_waitAt_30 : decode cX10_waitAt 30 = .ok (.invokevirtual 297, 3) := by decide +kernel
theorem dX10_waitAt_33 : decode cX10_waitAt 33 = .ok (.aload_n 0, 1) := by decide +kernel
theorem dX10_waitAt_34 : decode cX10_waitAt 34 = .ok (.getfield 59, 3) := by decide +kernel
theorem dX10_waitAt_37 : decode cX10_waitAt 37 = .ok (.aload_n 0, 1) := by decide +kernel
theorem dX10_waitAt_38 : decode cX10_waitAt 38 = .ok (.getfield 41, 3) := by decide +kernel
theorem dX10_waitAt_41 : decode cX10_waitAt 41 = .ok (.invokevirtual 305, 3) := by decide +kernel
theorem dX10_waitAt_44 : decode cX10_waitAt 44 = .ok (.ireturn, 1) := by decide +kernel
theorem dX10_meanWait_0 : decode cX10_meanWait 0 = .ok (.aload_n 0, 1) := by decide +kernel
theorem dX10_meanWait_1 : decode cX10_meanWait 1 = .ok (.getfield 41, 3) := by decide +kernel
theorem dX10_meanWait_4 : decode cX10_meanWait 4 = .ok (.getfield 304, 3) := by decide +kernel
theorem dX10_meanWait_7 : decode cX10_meanWait 7 = .ok (.bipush 8, 2) := by decide +kernel
theorem dX10_meanWait_9 : decode cX10_meanWait 9 = .ok (.if_icmp .eq 15, 3) := by decide +kernel
theorem dX10_meanWait_12 : decode cX10_meanWait 12 = .ok (.ldc2_w 309, 3) := by decide +kernel
theorem dX10_meanWait_15 : decode cX10_meanWait 15 = .ok (.aload_n 0, 1) := by decide +kernel
theorem dX10_meanWait_16 : decode cX10_meanWait 16 = .ok (.bipush (-3), 2) := by decide +kernel
theorem dX10_meanWait_18 : decode cX10_meanWait 18 = .ok (.invokevirtual 63, 3) := by decide +kernel
theorem dX10_meanWait_21 : decode cX10_meanWait 21 = .ok (.i2l, 1) := by decide +kernel
theorem dX10_meanWait_22 : decode cX10_meanWait 22 = .ok (.lsub, 1) := by decide +kernel
theorem dX10_meanWait_23 : decode cX10_meanWait 23 = .ok (.lreturn, 1) := by decide +kernel
theorem dX10_meanWait_24 : decode cX10_meanWait 24 = .ok (.iload_n 1, 1) := by decide +kernel
theorem dX10_meanWait_25 : decode cX10_meanWait 25 = .ok (.ifCond .lt 8, 3) := by decide +kernel
theorem dX10_meanWait_28 : decode cX10_meanWait 28 = .ok (.iload_n 1, 1) := by decide +kernel
theorem dX10_meanWait_29 : decode cX10_meanWait 29 = .ok (.iconst 1, 1) := by decide +kernel
theorem dX10_meanWait_30 : decode cX10_meanWait 30 = .ok (.if_icmp .le 15, 3) := by decide +kernel
theorem dX10_meanWait_33 : decode cX10_meanWait 33 = .ok (.ldc2_w 309, 3) := by decide +kernel
theorem dX10_meanWait_36 : decode cX10_meanWait 36 = .ok (.aload_n 0, 1) := by decide +kernel
theorem dX10_meanWait_37 : decode cX10_meanWait 37 = .ok (.bipush (-2), 2) := by decide +kernel
theorem dX10_meanWait_39 : decode cX10_meanWait 39 = .ok (.invokevirtual 63, 3) := by decide +kernel
theorem dX10_meanWait_42 : decode cX10_meanWait 42 = .ok (.i2l, 1) := by decide +kernel
theorem dX10_meanWait_43 : decode cX10_meanWait 43 = .ok (.lsub, 1) := by decide +kernel
theorem dX10_meanWait_44 : decode cX10_meanWait 44 = .ok (.lreturn, 1) := by decide +kernel
theorem dX10_meanWait_45 : decode cX10_meanWait 45 = .ok (.aload_n 0, 1) := by decide +kernel
theorem dX10_meanWait_46 : decode cX10_meanWait 46 = .ok (.getfield 59, 3) := by decide +kernel
theorem dX10_meanWait_49 : decode cX10_meanWait 49 = .ok (.aload_n 0, 1) := by decide +kernel
theorem dX10_meanWait_50 : decode cX10_meanWait 50 = .ok (.getfield 10, 3) := by decide +kernel
theorem dX10_meanWait_53 : decode cX10_meanWait 53 = .ok (.getfield 279, 3) := by decide +kernel
theorem dX10_meanWait_56 : decode cX10_meanWait 56 = .ok (.invokevirtual 297, 3) := by decide +kernel
theorem dX10_meanWait_59 : decode cX10_meanWait 59 = .ok (.aload_n 0, 1) := by decide +kernel
theorem dX10_meanWait_60 : decode cX10_meanWait 60 = .ok (.getfield 59, 3) := by decide +kernel
theorem dX10_meanWait_63 : decode cX10_meanWait 63 = .ok (.aload_n 0, 1) := by decide +kernel
theorem dX10_meanWait_64 : decode cX10_meanWait 64 = .ok (.getfield 59, 3) := by decide +kernel
theorem dX10_meanWait_67 : decode cX10_meanWait 67 = .ok (.aload_n 0, 1) := by decide +kernel
theorem dX10_meanWait_68 : decode cX10_meanWait 68 = .ok (.getfield 41, 3) := by decide +kernel
theorem dX10_meanWait_71 : decode cX10_meanWait 71 = .ok (.invokevirtual 305, 3) := by decide +kernel
theorem dX10_meanWait_74 : decode cX10_meanWait 74 = .ok (.aload_n 0, 1) := by decide +kernel
theorem dX10_meanWait_75 : decode cX10_meanWait 75 = .ok (.getfield 41, 3) := by decide +kernel
theorem dX10_meanWait_78 : decode cX10_meanWait 78 = .ok (.invokevirtual 311, 3) := by decide +kernel
theorem dX10_meanWait_81 : decode cX10_meanWait 81 = .ok (.istore_n 2, 1) := by decide +kernel
theorem dX10_meanWait_82 : decode cX10_meanWait 82 = .ok (.aload_n 0, 1) := by decide +kernel
theorem dX10_meanWait_83 : decode cX10_meanWait 83 = .ok (.getfield 41, 3) := by decide +kernel
theorem dX10_meanWait_86 : decode cX10_meanWait 86 = .ok (.invokevirtual 315, 3) := by decide +kernel
theorem dX10_meanWait_89 : decode cX10_meanWait 89 = .ok (.istore_n 3, 1) := by decide +kernel
theorem dX10_meanWait_90 : decode cX10_meanWait 90 = .ok (.iload_n 3, 1) := by decide +kernel
theorem dX10_meanWait_91 : decode cX10_meanWait 91 = .ok (.ifCond .ne 7, 3) := by decide +kernel
theorem dX10_meanWait_94 : decode cX10_meanWait 94 = .ok (.iconst 0, 1) := by decide +kernel
theorem dX10_meanWait_95 : decode cX10_meanWait 95 = .ok (.goto 8, 3) := by decide +kernel
theorem dX10_meanWait_98 : decode cX10_meanWait 98 = .ok (.iload_n 2, 1) := by decide +kernel
theorem dX10_meanWait_99 : decode cX10_meanWait 99 = .ok (.iload_n 3, 1) := by decide +kernel
theorem dX10_meanWait_100 : decode cX10_meanWait 100 = .ok (.invokestatic 318, 3) := by decide +kernel
theorem dX10_meanWait_103 : decode cX10_meanWait 103 = .ok (.istore 4, 2) := by decide +kernel
theorem dX10_meanWait_105 : decode cX10_meanWait 105 = .ok (.iload 4, 2) := by decide +kernel
theorem dX10_meanWait_107 : decode cX10_meanWait 107 = .ok (.ifCond .gt 6, 3) := by decide +kernel
theorem dX10_meanWait_110 : decode cX10_meanWait 110 = .ok (.iload_n 1, 1) := by decide +kernel
theorem dX10_meanWait_111 : decode cX10_meanWait 111 = .ok (.i2l, 1) := by decide +kernel
theorem dX10_meanWait_112 : decode cX10_meanWait 112 = .ok (.lreturn, 1) := by decide +kernel
theorem dX10_meanWait_113 : decode cX10_meanWait 113 = .ok (.iload_n 1, 1) := by decide +kernel
theorem dX10_meanWait_114 : decode cX10_meanWait 114 = .ok (.ifCond .ne 11, 3) := by decide +kernel
theorem dX10_meanWait_117 : decode cX10_meanWait 117 = .ok (.iload_n 2, 1) := by decide +kernel
theorem dX10_meanWait_118 : decode cX10_meanWait 118 = .ok (.iload 4, 2) := by decide +kernel
theorem dX10_meanWait_120 : decode cX10_meanWait 120 = .ok (.idiv, 1) := by decide +kernel
theorem dX10_meanWait_121 : decode cX10_meanWait 121 = .ok (.i2l, 1) := by decide +kernel
theorem dX10_meanWait_122 : decode cX10_meanWait 122 = .ok (.goto 8, 3) := by decide +kernel
theorem dX10_meanWait_125 : decode cX10_meanWait 125 = .ok (.iload_n 3, 1) := by decide +kernel
theorem dX10_meanWait_126 : decode cX10_meanWait 126 = .ok (.iload 4, 2) := by decide +kernel
theorem dX10_meanWait_128 : decode cX10_meanWait 128 = .ok (.idiv, 1) := by decide +kernel
theorem dX10_meanWait_129 : decode cX10_meanWait 129 = .ok (.i2l, 1) := by decide +kernel
theorem dX10_meanWait_130 : decode cX10_meanWait 130 = .ok (.lreturn, 1) := by decide +kernel
theorem dX10_turned_0 : decode cX10_turned 0 = .ok (.iload_n 1, 1) := by decide +kernel
theorem dX10_turned_1 : decode cX10_turned 1 = .ok (.iload_n 2, 1) := by decide +kernel
theorem dX10_turned_2 : decode cX10_turned 2 = .ok (.invokestatic 276, 3) := by decide +kernel
theorem dX10_turned_5 : decode cX10_turned 5 = .ok (.ifCond .ne 9, 3) := by decide +kernel
theorem dX10_turned_8 : decode cX10_turned 8 = .ok (.aload_n 0, 1) := by decide +kernel
theorem dX10_turned_9 : decode cX10_turned 9 = .ok (.iconst (-1), 1) := by decide +kernel
theorem dX10_turned_10 : decode cX10_turned 10 = .ok (.invokevirtual 63, 3) := by decide +kernel
theorem dX10_turned_13 : decode cX10_turned 13 = .ok (.ireturn, 1) := by decide +kernel
theorem dX10_turned_14 : decode cX10_turned 14 = .ok (.aload_n 0, 1) := by decide +kernel
theorem dX10_turned_15 : decode cX10_turned 15 = .ok (.getfield 10, 3) := by decide +kernel
theorem dX10_turned_18 : decode cX10_turned 18 = .ok (.getfield 279, 3) := by decide +kernel
theorem dX10_turned_21 : decode cX10_turned 21 = .ok (.iload_n 1, 1) := by decide +kernel
theorem dX10_turned_22 : decode cX10_turned 22 = .ok (.iload_n 2, 1) := by decide +kernel
theorem dX10_turned_23 : decode cX10_turned 23 = .ok (.invokevirtual 283, 3) := by decide +kernel
theorem dX10_turned_26 : decode cX10_turned 26 = .ok (.ifCond .ne 6, 3) := by decide +kernel
theorem dX10_turned_29 : decode cX10_turned 29 = .ok (.bipush (-9), 2) := by decide +kernel
theorem dX10_turned_31 : decode cX10_turned 31 = .ok (.ireturn, 1) := by decide +kernel
theorem dX10_turned_32 : decode cX10_turned 32 = .ok (.aload_n 0, 1) := by decide +kernel
theorem dX10_turned_33 : decode cX10_turned 33 = .ok (.getfield 59, 3) := by decide +kernel
theorem dX10_turned_36 : decode cX10_turned 36 = .ok (.aload_n 0, 1) := by decide +kernel
theorem dX10_turned_37 : decode cX10_turned 37 = .ok (.getfield 10, 3) := by decide +kernel
theorem dX10_turned_40 : decode cX10_turned 40 = .ok (.getfield 279, 3) := by decide +kernel
theorem dX10_turned_43 : decode cX10_turned 43 = .ok (.invokevirtual 297, 3) := by decide +kernel
theorem dX10_turned_46 : decode cX10_turned 46 = .ok (.aload_n 0, 1) := by decide +kernel
theorem dX10_turned_47 : decode cX10_turned 47 = .ok (.getfield 59, 3) := by decide +kernel
theorem dX10_turned_50 : decode cX10_turned 50 = .ok (.iload_n 1, 1) := by decide +kernel
theorem dX10_turned_51 : decode cX10_turned 51 = .ok (.iload_n 2, 1) := by decide +kernel
theorem dX10_turned_52 : decode cX10_turned 52 = .ok (.invokevirtual 321, 3) := by decide +kernel
theorem dX10_turned_55 : decode cX10_turned 55 = .ok (.istore_n 3, 1) := by decide +kernel
theorem dX10_turned_56 : decode cX10_turned 56 = .ok (.aload_n 0, 1) := by decide +kernel
theorem dX10_turned_57 : decode cX10_turned 57 = .ok (.getfield 59, 3) := by decide +kernel
theorem dX10_turned_60 : decode cX10_turned 60 = .ok (.aload_n 0, 1) := by decide +kernel
theorem dX10_turned_61 : decode cX10_turned 61 = .ok (.getfield 10, 3) := by decide +kernel
theorem dX10_turned_64 : decode cX10_turned 64 = .ok (.getfield 279, 3) := by decide +kernel
theorem dX10_turned_67 : decode cX10_turned 67 = .ok (.iload_n 1, 1) := by decide +kernel
theorem dX10_turned_68 : decode cX10_turned 68 = .ok (.iload_n 2, 1) := by decide +kernel
theorem dX10_turned_69 : decode cX10_turned 69 = .ok (.invokevirtual 324, 3) := by decide +kernel
theorem dX10_turned_72 : decode cX10_turned 72 = .ok (.aload_n 0, 1) := by decide +kernel
theorem dX10_turned_73 : decode cX10_turned 73 = .ok (.getfield 59, 3) := by decide +kernel
theorem dX10_turned_76 : decode cX10_turned 76 = .ok (.iload_n 1, 1) := by decide +kernel
theorem dX10_turned_77 : decode cX10_turned 77 = .ok (.iload_n 2, 1) := by decide +kernel
theorem dX10_turned_78 : decode cX10_turned 78 = .ok (.invokevirtual 321, 3) := by decide +kernel
theorem dX10_turned_81 : decode cX10_turned 81 = .ok (.istore 4, 2) := by decide +kernel
theorem dX10_turned_83 : decode cX10_turned 83 = .ok (.iload 4, 2) := by decide +kernel
theorem dX10_turned_85 : decode cX10_turned 85 = .ok (.ldc_w 328, 3) := by decide +kernel
theorem dX10_turned_88 : decode cX10_turned 88 = .ok (.if_icmp .lt 8, 3) := by decide +kernel
theorem dX10_turned_91 : decode cX10_turned 91 = .ok (.bipush (-9), 2) := by decide +kernel
theorem dX10_turned_93 : decode cX10_turned 93 = .ok (.goto 7, 3) := by decide +kernel
theorem dX10_turned_96 : decode cX10_turned 96 = .ok (.iload 4, 2) := by decide +kernel
theorem dX10_turned_98 : decode cX10_turned 98 = .ok (.iload_n 3, 1) := by decide +kernel
theorem dX10_turned_99 : decode cX10_turned 99 = .ok (.isub, 1) := by decide +kernel
theorem dX10_turned_100 : decode cX10_turned 100 = .ok (.ireturn, 1) := by decide +kernel
theorem dX10_track_0 : decode cX10_track 0 = .ok (.iload_n 1, 1) := by decide +kernel
theorem dX10_track_1 : decode cX10_track 1 = .ok (.ifCond .lt 8, 3) := by decide +kernel
theorem dX10_track_4 : decode cX10_track 4 = .ok (.iload_n 1, 1) := by decide +kernel
theorem dX10_track_5 : decode cX10_track 5 = .ok (.iconst 1, 1) := by decide +kernel
theorem dX10_track_6 : decode cX10_track 6 = .ok (.if_icmp .le 10, 3) := by decide +kernel
theorem dX10_track_9 : decode cX10_track 9 = .ok (.aload_n 0, 1) := by decide +kernel
theorem dX10_track_10 : decode cX10_track 10 = .ok (.bipush (-2), 2) := by decide +kernel
theorem dX10_track_12 : decode cX10_track 12 = .ok (.invokevirtual 63, 3) := by decide +kernel
theorem dX10_track_15 : decode cX10_track 15 = .ok (.ireturn, 1) := by decide +kernel
theorem dX10_track_16 : decode cX10_track 16 = .ok (.aload_n 0, 1) := by decide +kernel
theorem dX10_track_17 : decode cX10_track 17 = .ok (.getfield 41, 3) := by decide +kernel
theorem dX10_track_20 : decode cX10_track 20 = .ok (.getfield 304, 3) := by decide +kernel
theorem dX10_track_23 : decode cX10_track 23 = .ok (.iconst 2, 1) := by decide +kernel
theorem dX10_track_24 : decode cX10_track 24 = .ok (.irem, 1) := by decide +kernel
theorem dX10_track_25 : decode cX10_track 25 = .ok (.ifCond .eq 10, 3) := by decide +kernel
theorem dX10_track_28 : decode cX10_track 28 = .ok (.aload_n 0, 1) := by decide +kernel
theorem dX10_track_29 : decode cX10_track 29 = .ok (.bipush (-3), 2) := by decide +kernel
theorem dX10_track_31 : decode cX10_track 31 = .ok (.invokevirtual 63, 3) := by decide +kernel
theorem dX10_track_34 : decode cX10_track 34 = .ok (.ireturn, 1) := by decide +kernel
theorem dX10_track_35 : decode cX10_track 35 = .ok (.iload_n 1, 1) := by decide +kernel
theorem dX10_track_36 : decode cX10_track 36 = .ok (.ifCond .ne 20, 3) := by decide +kernel
theorem dX10_track_39 : decode cX10_track 39 = .ok (.aload_n 0, 1) := by decide +kernel
theorem dX10_track_40 : decode cX10_track 40 = .ok (.getfield 10, 3) := by decide +kernel
theorem dX10_track_43 : decode cX10_track 43 = .ok (.getfield 100, 3) := by decide +kernel
theorem dX10_track_46 : decode cX10_track 46 = .ok (.aload_n 0, 1) := by decide +kernel
theorem dX10_track_47 : decode cX10_track 47 = .ok (.getfield 41, 3) := by decide +kernel
theorem dX10_track_50 : decode cX10_track 50 = .ok (.invokevirtual 329, 3) := by decide +kernel
theorem dX10_track_53 : decode cX10_track 53 = .ok (.goto 17, 3) := by decide +kernel
theorem dX10_track_56 : decode cX10_track 56 = .ok (.aload_n 0, 1) := by decide +kernel
theorem dX10_track_57 : decode cX10_track 57 = .ok (.getfield 10, 3) := by decide +kernel
theorem dX10_track_60 : decode cX10_track 60 = .ok (.getfield 100, 3) := by decide +kernel
theorem dX10_track_63 : decode cX10_track 63 = .ok (.aload_n 0, 1) := by decide +kernel
theorem dX10_track_64 : decode cX10_track 64 = .ok (.getfield 41, 3) := by decide +kernel
theorem dX10_track_67 : decode cX10_track 67 = .ok (.invokevirtual 332, 3) := by decide +kernel
theorem dX10_track_70 : decode cX10_track 70 = .ok (.ireturn, 1) := by decide +kernel
theorem dX10_row_0 : decode cX10_row 0 = .ok (.iload_n 1, 1) := by decide +kernel
theorem dX10_row_1 : decode cX10_row 1 = .ok (.ifCond .ge 10, 3) := by decide +kernel
theorem dX10_row_4 : decode cX10_row 4 = .ok (.aload_n 0, 1) := by decide +kernel
theorem dX10_row_5 : decode cX10_row 5 = .ok (.bipush (-4), 2) := by decide +kernel
theorem dX10_row_7 : decode cX10_row 7 = .ok (.invokevirtual 63, 3) := by decide +kernel
theorem dX10_row_10 : decode cX10_row 10 = .ok (.ireturn, 1) := by decide +kernel
theorem dX10_row_11 : decode cX10_row 11 = .ok (.iload_n 1, 1) := by decide +kernel
theorem dX10_row_12 : decode cX10_row 12 = .ok (.bipush 99, 2) := by decide +kernel
theorem dX10_row_14 : decode cX10_row 14 = .ok (.if_icmp .gt 13, 3) := by decide +kernel
theorem dX10_row_17 : decode cX10_row 17 = .ok (.aload_n 0, 1) := by decide +kernel
theorem dX10_row_18 : decode cX10_row 18 = .ok (.getfield 41, 3) := by decide +kernel
theorem dX10_row_21 : decode cX10_row 21 = .ok (.invokevirtual 70, 3) := by decide +kernel
theorem dX10_row_24 : decode cX10_row 24 = .ok (.ifCond .eq 10, 3) := by decide +kernel
theorem dX10_row_27 : decode cX10_row 27 = .ok (.aload_n 0, 1) := by decide +kernel
theorem dX10_row_28 : decode cX10_row 28 = .ok (.bipush (-6), 2) := by decide +kernel
theorem dX10_row_30 : decode cX10_row 30 = .ok (.invokevirtual 63, 3) := by decide +kernel
theorem dX10_row_33 : decode cX10_row 33 = .ok (.ireturn, 1) := by decide +kernel
theorem dX10_row_34 : decode cX10_row 34 = .ok (.aload_n 0, 1) := by decide +kernel
theorem dX10_row_35 : decode cX10_row 35 = .ok (.getfield 41, 3) := by decide +kernel
theorem dX10_row_38 : decode cX10_row 38 = .ok (.iload_n 1, 1) := by decide +kernel
theorem dX10_row_39 : decode cX10_row 39 = .ok (.invokevirtual 74, 3) := by decide +kernel
theorem dX10_row_42 : decode cX10_row 42 = .ok (.ireturn, 1) := by decide +kernel
theorem dX10_judge_0 : decode cX10_judge 0 = .ok (.aload_n 0, 1) := by decide +kernel
theorem dX10_judge_1 : decode cX10_judge 1 = .ok (.getfield 52, 3) := by decide +kernel
theorem dX10_judge_4 : decode cX10_judge 4 = .ok (.aload_n 0, 1) := by decide +kernel
theorem dX10_judge_5 : decode cX10_judge 5 = .ok (.getfield 10, 3) := by decide +kernel
theorem dX10_judge_8 : decode cX10_judge 8 = .ok (.invokevirtual 188, 3) := by decide +kernel
theorem dX10_judge_11 : decode cX10_judge 11 = .ok (.aload_n 0, 1) := by decide +kernel
theorem dX10_judge_12 : decode cX10_judge 12 = .ok (.getfield 52, 3) := by decide +kernel
theorem dX10_judge_15 : decode cX10_judge 15 = .ok (.aload_n 0, 1) := by decide +kernel
theorem dX10_judge_16 : decode cX10_judge 16 = .ok (.getfield 41, 3) := by decide +kernel
theorem dX10_judge_19 : decode cX10_judge 19 = .ok (.invokevirtual 335, 3) := by decide +kernel
theorem dX10_judge_22 : decode cX10_judge 22 = .ok (.istore_n 1, 1) := by decide +kernel
theorem dX10_judge_23 : decode cX10_judge 23 = .ok (.aload_n 0, 1) := by decide +kernel
theorem dX10_judge_24 : decode cX10_judge 24 = .ok (.getfield 41, 3) := by decide +kernel
theorem dX10_judge_27 : decode cX10_judge 27 = .ok (.invokevirtual 89, 3) := by decide +kernel
theorem dX10_judge_30 : decode cX10_judge 30 = .ok (.iload_n 1, 1) := by decide +kernel
theorem dX10_judge_31 : decode cX10_judge 31 = .ok (.ireturn, 1) := by decide +kernel
theorem dX10_clear_0 : decode cX10_clear 0 = .ok (.aload_n 0, 1) := by decide +kernel
theorem dX10_clear_1 : decode cX10_clear 1 = .ok (.getfield 41, 3) := by decide +kernel
theorem dX10_clear_4 : decode cX10_clear 4 = .ok (.getfield 304, 3) := by decide +kernel
theorem dX10_clear_7 : decode cX10_clear 7 = .ok (.istore_n 1, 1) := by decide +kernel
theorem dX10_clear_8 : decode cX10_clear 8 = .ok (.aload_n 0, 1) := by decide +kernel
theorem dX10_clear_9 : decode cX10_clear 9 = .ok (.getfield 41, 3) := by decide +kernel
theorem dX10_clear_12 : decode cX10_clear 12 = .ok (.invokevirtual 89, 3) := by decide +kernel
theorem dX10_clear_15 : decode cX10_clear 15 = .ok (.iload_n 1, 1) := by decide +kernel
theorem dX10_clear_16 : decode cX10_clear 16 = .ok (.ireturn, 1) := by decide +kernel
theorem dX10_lots_0 : decode cX10_lots 0 = .ok (.iload_n 1, 1) := by decide +kernel
theorem dX10_lots_1 : decode cX10_lots 1 = .ok (.iconst 1, 1) := by decide +kernel
theorem dX10_lots_2 : decode cX10_lots 2 = .ok (.if_icmp .ge 10, 3) := by decide +kernel
theorem dX10_lots_5 : decode cX10_lots 5 = .ok (.aload_n 0, 1) := by decide +kernel
theorem dX10_lots_6 : decode cX10_lots 6 = .ok (.bipush (-4), 2) := by decide +kernel
theorem dX10_lots_8 : decode cX10_lots 8 = .ok (.invokevirtual 63, 3) := by decide +kernel
theorem dX10_lots_11 : decode cX10_lots 11 = .ok (.ireturn, 1) := by decide +kernel
theorem dX10_lots_12 : decode cX10_lots 12 = .ok (.iload_n 1, 1) := by decide +kernel
theorem dX10_lots_13 : decode cX10_lots 13 = .ok (.bipush 20, 2) := by decide +kernel
theorem dX10_lots_15 : decode cX10_lots 15 = .ok (.if_icmp .le 10, 3) := by decide +kernel
theorem dX10_lots_18 : decode cX10_lots 18 = .ok (.aload_n 0, 1) := by decide +kernel
theorem dX10_lots_19 : decode cX10_lots 19 = .ok (.bipush (-6), 2) := by decide +kernel
theorem dX10_lots_21 : decode cX10_lots 21 = .ok (.invokevirtual 63, 3) := by decide +kernel
theorem dX10_lots_24 : decode cX10_lots 24 = .ok (.ireturn, 1) := by decide +kernel
theorem dX10_lots_25 : decode cX10_lots 25 = .ok (.iload_n 3, 1) := by decide +kernel
theorem dX10_lots_26 : decode cX10_lots 26 = .ok (.ifCond .lt 8, 3) := by decide +kernel
theorem dX10_lots_29 : decode cX10_lots 29 = .ok (.iload_n 3, 1) := by decide +kernel
theorem dX10_lots_30 : decode cX10_lots 30 = .ok (.iconst 1, 1) := by decide +kernel
theorem dX10_lots_31 : decode cX10_lots 31 = .ok (.if_icmp .le 10, 3) := by decide +kernel
theorem dX10_lots_34 : decode cX10_lots 34 = .ok (.aload_n 0, 1) := by decide +kernel
theorem dX10_lots_35 : decode cX10_lots 35 = .ok (.bipush (-2), 2) := by decide +kernel
theorem dX10_lots_37 : decode cX10_lots 37 = .ok (.invokevirtual 63, 3) := by decide +kernel
theorem dX10_lots_40 : decode cX10_lots 40 = .ok (.ireturn, 1) := by decide +kernel
theorem dX10_lots_41 : decode cX10_lots 41 = .ok (.aload_n 0, 1) := by decide +kernel
theorem dX10_lots_42 : decode cX10_lots 42 = .ok (.getfield 52, 3) := by decide +kernel
theorem dX10_lots_45 : decode cX10_lots 45 = .ok (.aload_n 0, 1) := by decide +kernel
theorem dX10_lots_46 : decode cX10_lots 46 = .ok (.getfield 10, 3) := by decide +kernel
theorem dX10_lots_49 : decode cX10_lots 49 = .ok (.invokevirtual 188, 3) := by decide +kernel
theorem dX10_lots_52 : decode cX10_lots 52 = .ok (.aload_n 0, 1) := by decide +kernel
theorem dX10_lots_53 : decode cX10_lots 53 = .ok (.getfield 52, 3) := by decide +kernel
theorem dX10_lots_56 : decode cX10_lots 56 = .ok (.iload_n 1, 1) := by decide +kernel
theorem dX10_lots_57 : decode cX10_lots 57 = .ok (.iload_n 2, 1) := by decide +kernel
theorem dX10_lots_58 : decode cX10_lots 58 = .ok (.invokevirtual 338, 3) := by decide +kernel
theorem dX10_lots_61 : decode cX10_lots 61 = .ok (.iload_n 3, 1) := by decide +kernel
theorem dX10_lots_62 : decode cX10_lots 62 = .ok (.ifCond .ne 13, 3) := by decide +kernel
theorem dX10_lots_65 : decode cX10_lots 65 = .ok (.aload_n 0, 1) := by decide +kernel
theorem dX10_lots_66 : decode cX10_lots 66 = .ok (.getfield 52, 3) := by decide +kernel
theorem dX10_lots_69 : decode cX10_lots 69 = .ok (.getfield 341, 3) := by decide +kernel
theorem dX10_lots_72 : decode cX10_lots 72 = .ok (.goto 10, 3) := by decide +kernel
theorem dX10_lots_75 : decode cX10_lots 75 = .ok (.aload_n 0, 1) := by decide +kernel
theorem dX10_lots_76 : decode cX10_lots 76 = .ok (.getfield 52, 3) := by decide +kernel
theorem dX10_lots_79 : decode cX10_lots 79 = .ok (.getfield 344, 3) := by decide +kernel
theorem dX10_lots_82 : decode cX10_lots 82 = .ok (.ireturn, 1) := by decide +kernel
theorem dX10_crew_0 : decode cX10_crew 0 = .ok (.iload_n 1, 1) := by decide +kernel
theorem dX10_crew_1 : decode cX10_crew 1 = .ok (.ifCond .lt 8, 3) := by decide +kernel
theorem dX10_crew_4 : decode cX10_crew 4 = .ok (.iload_n 1, 1) := by decide +kernel
theorem dX10_crew_5 : decode cX10_crew 5 = .ok (.iconst 1, 1) := by decide +kernel
theorem dX10_crew_6 : decode cX10_crew 6 = .ok (.if_icmp .le 10, 3) := by decide +kernel
theorem dX10_crew_9 : decode cX10_crew 9 = .ok (.aload_n 0, 1) := by decide +kernel
theorem dX10_crew_10 : decode cX10_crew 10 = .ok (.bipush (-2), 2) := by decide +kernel
theorem dX10_crew_12 : decode cX10_crew 12 = .ok (.invokevirtual 63, 3) := by decide +kernel
theorem dX10_crew_15 : decode cX10_crew 15 = .ok (.ireturn, 1) := by decide +kernel
theorem dX10_crew_16 : decode cX10_crew 16 = .ok (.bipush (-9), 2) := by decide +kernel
theorem dX10_crew_18 : decode cX10_crew 18 = .ok (.istore_n 2, 1) := by decide +kernel
theorem dX10_crew_19 : decode cX10_crew 19 = .ok (.bipush (-9), 2) := by decide +kernel
theorem dX10_crew_21 : decode cX10_crew 21 = .ok (.istore_n 3, 1) := by decide +kernel
theorem dX10_crew_22 : decode cX10_crew 22 = .ok (.aload_n 0, 1) := by decide +kernel
theorem dX10_crew_23 : decode cX10_crew 23 = .ok (.getfield 52, 3) := by decide +kernel
theorem dX10_crew_26 : decode cX10_crew 26 = .ok (.aload_n 0, 1) := by decide +kernel
theorem dX10_crew_27 : decode cX10_crew 27 = .ok (.getfield 10, 3) := by decide +kernel
theorem dX10_crew_30 : decode cX10_crew 30 = .ok (.invokevirtual 188, 3) := by decide +kernel
theorem dX10_crew_33 : decode cX10_crew 33 = .ok (.iconst 1, 1) := by decide +kernel
theorem dX10_crew_34 : decode cX10_crew 34 = .ok (.istore 4, 2) := by decide +kernel
theorem dX10_crew_36 : decode cX10_crew 36 = .ok (.iload 4, 2) := by decide +kernel
theorem dX10_crew_38 : decode cX10_crew 38 = .ok (.bipush 6, 2) := by decide +kernel
theorem dX10_crew_40 : decode cX10_crew 40 = .ok (.if_icmp .gt 65, 3) := by decide +kernel
theorem dX10_crew_43 : decode cX10_crew 43 = .ok (.aload_n 0, 1) := by decide +kernel
theorem dX10_crew_44 : decode cX10_crew 44 = .ok (.getfield 52, 3) := by decide +kernel
theorem dX10_crew_47 : decode cX10_crew 47 = .ok (.iload 4, 2) := by decide +kernel
theorem dX10_crew_49 : decode cX10_crew 49 = .ok (.invokevirtual 347, 3) := by decide +kernel
theorem dX10_crew_52 : decode cX10_crew 52 = .ok (.aload_n 0, 1) := by decide +kernel
theorem dX10_crew_53 : decode cX10_crew 53 = .ok (.getfield 52, 3) := by decide +kernel
theorem dX10_crew_56 : decode cX10_crew 56 = .ok (.invokevirtual 228, 3) := by decide +kernel
theorem dX10_crew_59 : decode cX10_crew 59 = .ok (.aload_n 0, 1) := by decide +kernel
theorem dX10_crew_60 : decode cX10_crew 60 = .ok (.getfield 52, 3) := by decide +kernel
theorem dX10_crew_63 : decode cX10_crew 63 = .ok (.getfield 234, 3) := by decide +kernel
theorem dX10_crew_66 : decode cX10_crew 66 = .ok (.bipush (-9), 2) := by decide +kernel
theorem dX10_crew_68 : decode cX10_crew 68 = .ok (.if_icmp .eq 31, 3) := by decide +kernel
theorem dX10_crew_71 : decode cX10_crew 71 = .ok (.iload_n 2, 1) := by decide +kernel
theorem dX10_crew_72 : decode cX10_crew 72 = .ok (.bipush (-9), 2) := by decide +kernel
theorem dX10_crew_74 : decode cX10_crew 74 = .ok (.if_icmp .eq 14, 3) := by decide +kernel
theorem dX10_crew_77 : decode cX10_crew 77 = .ok (.aload_n 0, 1) := by decide +kernel
theorem dX10_crew_78 : decode cX10_crew 78 = .ok (.getfield 52, 3) := by decide +kernel
theorem dX10_crew_81 : decode cX10_crew 81 = .ok (.getfield 234, 3) := by decide +kernel
theorem dX10_crew_84 : decode cX10_crew 84 = .ok (.iload_n 3, 1) := by decide +kernel
theorem dX10_crew_85 : decode cX10_crew 85 = .ok (.if_icmp .ge 14, 3) := by decide +kernel
theorem dX10_crew_88 : decode cX10_crew 88 = .ok (.iload 4, 2) := by decide +kernel
theorem dX10_crew_90 : decode cX10_crew 90 = .ok (.istore_n 2, 1) := by decide +kernel
theorem dX10_crew_91 : decode cX10_crew 91 = .ok (.aload_n 0, 1) := by decide +kernel
theorem dX10_crew_92 : decode cX10_crew 92 = .ok (.getfield 52, 3) := by decide +kernel
theorem dX10_crew_95 : decode cX10_crew 95 = .ok (.getfield 234, 3) := by decide +kernel
theorem dX10_crew_98 : decode cX10_crew 98 = .ok (.istore_n 3, 1) := by decide +kernel
theorem dX10_crew_99 : decode cX10_crew 99 = .ok (.iinc 4 1, 3) := by decide +kernel
theorem dX10_crew_102 : decode cX10_crew 102 = .ok (.goto (-66), 3) := by decide +kernel
theorem dX10_crew_105 : decode cX10_crew 105 = .ok (.iload_n 1, 1) := by decide +kernel
theorem dX10_crew_106 : decode cX10_crew 106 = .ok (.ifCond .ne 7, 3) := by decide +kernel
theorem dX10_crew_109 : decode cX10_crew 109 = .ok (.iload_n 2, 1) := by decide +kernel
theorem dX10_crew_110 : decode cX10_crew 110 = .ok (.goto 4, 3) := by decide +kernel
theorem dX10_crew_113 : decode cX10_crew 113 = .ok (.iload_n 3, 1) := by decide +kernel
theorem dX10_crew_114 : decode cX10_crew 114 = .ok (.ireturn, 1) := by decide +kernel
theorem dX10_whichLag_0 : decode cX10_whichLag 0 = .ok (.iconst 0, 1) := by decide +kernel
theorem dX10_whichLag_1 : decode cX10_whichLag 1 = .ok (.istore_n 1, 1) := by decide +kernel
theorem dX10_whichLag_2 : decode cX10_whichLag 2 = .ok (.iconst 0, 1) := by decide +kernel
theorem dX10_whichLag_3 : decode cX10_whichLag 3 = .ok (.istore_n 2, 1) := by decide +kernel
theorem dX10_whichLag_4 : decode cX10_whichLag 4 = .ok (.iload_n 2, 1) := by decide +kernel
theorem dX10_whichLag_5 : decode cX10_whichLag 5 = .ok (.iconst 5, 1) := by decide +kernel
theorem dX10_whichLag_6 : decode cX10_whichLag 6 = .ok (.if_icmp .gt 50, 3) := by decide +kernel
theorem dX10_whichLag_9 : decode cX10_whichLag 9 = .ok (.aload_n 0, 1) := by decide +kernel
theorem dX10_whichLag_10 : decode cX10_whichLag 10 = .ok (.getfield 52, 3) := by decide +kernel
theorem dX10_whichLag_13 : decode cX10_whichLag 13 = .ok (.aload_n 0, 1) := by decide +kernel
theorem dX10_whichLag_14 : decode cX10_whichLag 14 = .ok (.getfield 10, 3) := by decide +kernel
theorem dX10_whichLag_17 : decode cX10_whichLag 17 = .ok (.invokevirtual 188, 3) := by decide +kernel
theorem dX10_whichLag_20 : decode cX10_whichLag 20 = .ok (.aload_n 0, 1) := by decide +kernel
theorem dX10_whichLag_21 : decode cX10_whichLag 21 = .ok (.getfield 52, 3) := by decide +kernel
theorem dX10_whichLag_24 : decode cX10_whichLag 24 = .ok (.iload_n 2, 1) := by decide +kernel
theorem dX10_whichLag_25 : decode cX10_whichLag 25 = .ok (.invokevirtual 350, 3) := by decide +kernel
theorem dX10_whichLag_28 : decode cX10_whichLag 28 = .ok (.aload_n 0, 1) := by decide +kernel
theorem dX10_whichLag_29 : decode cX10_whichLag 29 = .ok (.getfield 52, 3) := by decide +kernel
theorem dX10_whichLag_32 : decode cX10_whichLag 32 = .ok (.aload_n 0, 1) := by decide +kernel
theorem dX10_whichLag_33 : decode cX10_whichLag 33 = .ok (.getfield 41, 3) := by decide +kernel
theorem dX10_whichLag_36 : decode cX10_whichLag 36 = .ok (.invokevirtual 335, 3) := by decide +kernel
theorem dX10_whichLag_39 : decode cX10_whichLag 39 = .ok (.bipush (-9), 2) := by decide +kernel
theorem dX10_whichLag_41 : decode cX10_whichLag 41 = .ok (.if_icmp .ne 9, 3) := by decide +kernel
theorem dX10_whichLag_44 : decode cX10_whichLag 44 = .ok (.iload_n 1, 1) := by decide +kernel
theorem dX10_whichLag_45 : decode cX10_whichLag 45 = .ok (.iconst 1, 1) := by decide +kernel
theorem dX10_whichLag_46 : decode cX10_whichLag 46 = .ok (.iload_n 2, 1) := by decide +kernel
theorem dX10_whichLag_47 : decode cX10_whichLag 47 = .ok (.ishl, 1) := by decide +kernel
theorem dX10_whichLag_48 : decode cX10_whichLag 48 = .ok (.ior, 1) := by decide +kernel
theorem dX10_whichLag_49 : decode cX10_whichLag 49 = .ok (.istore_n 1, 1) := by decide +kernel
theorem dX10_whichLag_50 : decode cX10_whichLag 50 = .ok (.iinc 2 1, 3) := by decide +kernel
theorem dX10_whichLag_53 : decode cX10_whichLag 53 = .ok (.goto (-49), 3) := by decide +kernel
theorem dX10_whichLag_56 : decode cX10_whichLag 56 = .ok (.iload_n 1, 1) := by decide +kernel
theorem dX10_whichLag_57 : decode cX10_whichLag 57 = .ok (.ireturn, 1) := by decide +kernel
theorem dX10_windFor_0 : decode cX10_windFor 0 = .ok (.aload_n 0, 1) := by decide +kernel
theorem dX10_windFor_1 : decode cX10_windFor 1 = .ok (.iload_n 1, 1) := by decide +kernel
theorem dX10_windFor_2 : decode cX10_windFor 2 = .ok (.invokevirtual 116, 3) := by decide +kernel
theorem dX10_windFor_5 : decode cX10_windFor 5 = .ok (.ifCond .ne 9, 3) := by decide +kernel
theorem dX10_windFor_8 : decode cX10_windFor 8 = .ok (.aload_n 0, 1) := by decide +kernel
theorem dX10_windFor_9 : decode cX10_windFor 9 = .ok (.iconst (-1), 1) := by decide +kernel
theorem dX10_windFor_10 : decode cX10_windFor 10 = .ok (.invokevirtual 63, 3) := by decide +kernel
theorem dX10_windFor_13 : decode cX10_windFor 13 = .ok (.ireturn, 1) := by decide +kernel
theorem dX10_windFor_14 : decode cX10_windFor 14 = .ok (.iload_n 2, 1) := by decide +kernel
theorem dX10_windFor_15 : decode cX10_windFor 15 = .ok (.iload_n 3, 1) := by decide +kernel
theorem dX10_windFor_16 : decode cX10_windFor 16 = .ok (.iload 4, 2) := by decide +kernel
theorem dX10_windFor_18 : decode cX10_windFor 18 = .ok (.iconst 1, 1) := by decide +kernel
theorem dX10_windFor_19 : decode cX10_windFor 19 = .ok (.invokestatic 184, 3) := by decide +kernel
theorem dX10_windFor_22 : decode cX10_windFor 22 = .ok (.istore 5, 2) := by decide +kernel
theorem dX10_windFor_24 : decode cX10_windFor 24 = .ok (.iload 5, 2) := by decide +kernel
theorem dX10_windFor_26 : decode cX10_windFor 26 = .ok (.ifCond .eq 10, 3) := by decide +kernel
theorem dX10_windFor_29 : decode cX10_windFor 29 = .ok (.aload_n 0, 1) := by decide +kernel
theorem dX10_windFor_30 : decode cX10_windFor 30 = .ok (.iload 5, 2) := by decide +kernel
theorem dX10_windFor_32 : decode cX10_windFor 32 = .ok (.invokevirtual 63, 3) := by decide +kernel
theorem dX10_windFor_35 : decode cX10_windFor 35 = .ok (.ireturn, 1) := by decide +kernel
theorem dX10_windFor_36 : decode cX10_windFor 36 = .ok (.iconst 0, 1) := by decide +kernel
theorem dX10_windFor_37 : decode cX10_windFor 37 = .ok (.istore 6, 2) := by decide +kernel
theorem dX10_windFor_39 : decode cX10_windFor 39 = .ok (.bipush (-9), 2) := by decide +kernel
theorem dX10_windFor_41 : decode cX10_windFor 41 = .ok (.istore 7, 2) := by decide +kernel
theorem dX10_windFor_43 : decode cX10_windFor 43 = .ok (.aload_n 0, 1) := by decide +kernel
theorem dX10_windFor_44 : decode cX10_windFor 44 = .ok (.getfield 52, 3) := by decide +kernel
theorem dX10_windFor_47 : decode cX10_windFor 47 = .ok (.aload_n 0, 1) := by decide +kernel
theorem dX10_windFor_48 : decode cX10_windFor 48 = .ok (.getfield 10, 3) := by decide +kernel
theorem dX10_windFor_51 : decode cX10_windFor 51 = .ok (.invokevirtual 188, 3) := by decide +kernel
theorem dX10_windFor_54 : decode cX10_windFor 54 = .ok (.bipush (-9), 2) := by decide +kernel
theorem dX10_windFor_56 : decode cX10_windFor 56 = .ok (.istore 8, 2) := by decide +kernel
theorem dX10_windFor_58 : decode cX10_windFor 58 = .ok (.iload 8, 2) := by decide +kernel
theorem dX10_windFor_60 : decode cX10_windFor 60 = .ok (.bipush 9, 2) := by decide +kernel
theorem dX10_windFor_62 : decode cX10_windFor 62 = .ok (.if_icmp .gt 51, 3) := by decide +kernel
theorem dX10_windFor_65 : decode cX10_windFor 65 = .ok (.aload_n 0, 1) := by decide +kernel
theorem dX10_windFor_66 : decode cX10_windFor 66 = .ok (.getfield 52, 3) := by decide +kernel
theorem dX10_windFor_69 : decode cX10_windFor 69 = .ok (.iload 8, 2) := by decide +kernel
theorem dX10_windFor_71 : decode cX10_windFor 71 = .ok (.invokevirtual 353, 3) := by decide +kernel
theorem dX10_windFor_74 : decode cX10_windFor 74 = .ok (.aload_n 0, 1) := by decide +kernel
theorem dX10_windFor_75 : decode cX10_windFor 75 = .ok (.getfield 52, 3) := by decide +kernel
theorem dX10_windFor_78 : decode cX10_windFor 78 = .ok (.iload_n 1, 1) := by decide +kernel
theorem dX10_windFor_79 : decode cX10_windFor 79 = .ok (.iload_n 2, 1) := by decide +kernel
theorem dX10_windFor_80 : decode cX10_windFor 80 = .ok (.iload_n 3, 1) := by decide +kernel
theorem dX10_windFor_81 : decode cX10_windFor 81 = .ok (.invokevirtual 356, 3) := by decide +kernel
theorem dX10_windFor_84 : decode cX10_windFor 84 = .ok (.ifCond .eq 23, 3) := by decide +kernel
theorem dX10_windFor_87 : decode cX10_windFor 87 = .ok (.iload 6, 2) := by decide +kernel
theorem dX10_windFor_89 : decode cX10_windFor 89 = .ok (.ifCond .ne 11, 3) := by decide +kernel
theorem dX10_windFor_92 : decode cX10_windFor 92 = .ok (.iload 8, 2) := by decide +kernel
theorem dX10_windFor_94 : decode cX10_windFor 94 = .ok (.bipush 9, 2) := by decide +kernel
theorem dX10_windFor_96 : decode cX10_windFor 96 = .ok (.iadd, 1) := by decide +kernel
theorem dX10_windFor_97 : decode cX10_windFor 97 = .ok (.goto 5, 3) := by decide +kernel
theorem dX10_windFor_100 : decode cX10_windFor 100 = .ok (.iload 7, 2) := by decide +kernel
theorem dX10_windFor_102 : decode cX10_windFor 102 = .ok (.istore 7, 2) := by decide +kernel
theorem dX10_windFor_104 : decode cX10_windFor 104 = .ok (.iinc 6 1, 3) := by decide +kernel
theorem dX10_windFor_107 : decode cX10_windFor 107 = .ok (.iinc 8 1, 3) := by decide +kernel
theorem dX10_windFor_110 : decode cX10_windFor 110 = .ok (.goto (-52), 3) := by decide +kernel
theorem dX10_windFor_113 : decode cX10_windFor 113 = .ok (.iload 4, 2) := by decide +kernel
theorem dX10_windFor_115 : decode cX10_windFor 115 = .ok (.ifCond .ne 8, 3) := by decide +kernel
theorem dX10_windFor_118 : decode cX10_windFor 118 = .ok (.iload 6, 2) := by decide +kernel
theorem dX10_windFor_120 : decode cX10_windFor 120 = .ok (.goto 5, 3) := by decide +kernel
theorem dX10_windFor_123 : decode cX10_windFor 123 = .ok (.iload 7, 2) := by decide +kernel
theorem dX10_windFor_125 : decode cX10_windFor 125 = .ok (.ireturn, 1) := by decide +kernel
theorem dX10_span_0 : decode cX10_span 0 = .ok (.aload_n 0, 1) := by decide +kernel
theorem dX10_span_1 : decode cX10_span 1 = .ok (.iload_n 1, 1) := by decide +kernel
theorem dX10_span_2 : decode cX10_span 2 = .ok (.invokevirtual 116, 3) := by decide +kernel
theorem dX10_span_5 : decode cX10_span 5 = .ok (.ifCond .ne 9, 3) := by decide +kernel
theorem dX10_span_8 : decode cX10_span 8 = .ok (.aload_n 0, 1) := by decide +kernel
theorem dX10_span_9 : decode cX10_span 9 = .ok (.iconst (-1), 1) := by decide +kernel
theorem dX10_span_10 : decode cX10_span 10 = .ok (.invokevirtual 63, 3) := by decide +kernel
theorem dX10_span_13 : decode cX10_span 13 = .ok (.ireturn, 1) := by decide +kernel
theorem dX10_span_14 : decode cX10_span 14 = .ok (.iconst 0, 1) := by decide +kernel
theorem dX10_span_15 : decode cX10_span 15 = .ok (.iload_n 2, 1) := by decide +kernel
theorem dX10_span_16 : decode cX10_span 16 = .ok (.iload_n 3, 1) := by decide +kernel
theorem dX10_span_17 : decode cX10_span 17 = .ok (.iconst 1, 1) := by decide +kernel
theorem dX10_span_18 : decode cX10_span 18 = .ok (.invokestatic 184, 3) := by decide +kernel
theorem dX10_span_21 : decode cX10_span 21 = .ok (.istore 4, 2) := by decide +kernel
theorem dX10_span_23 : decode cX10_span 23 = .ok (.iload 4, 2) := by decide +kernel
theorem dX10_span_25 : decode cX10_span 25 = .ok (.ifCond .eq 10, 3) := by decide +kernel
theorem dX10_span_28 : decode cX10_span 28 = .ok (.aload_n 0, 1) := by decide +kernel
theorem dX10_span_29 : decode cX10_span 29 = .ok (.iload 4, 2) := by decide +kernel
theorem dX10_span_31 : decode cX10_span 31 = .ok (.invokevirtual 63, 3) := by decide +kernel
theorem dX10_span_34 : decode cX10_span 34 = .ok (.ireturn, 1) := by decide +kernel
theorem dX10_span_35 : decode cX10_span 35 = .ok (.bipush (-9), 2) := by decide +kernel
theorem dX10_span_37 : decode cX10_span 37 = .ok (.istore 5, 2) := by decide +kernel
theorem dX10_span_39 : decode cX10_span 39 = .ok (.bipush (-9), 2) := by decide +kernel
theorem dX10_span_41 : decode cX10_span 41 = .ok (.istore 6, 2) := by decide +kernel
theorem dX10_span_43 : decode cX10_span 43 = .ok (.aload_n 0, 1) := by decide +kernel
theorem dX10_span_44 : decode cX10_span 44 = .ok (.getfield 52, 3) := by decide +kernel
theorem dX10_span_47 : decode cX10_span 47 = .ok (.aload_n 0, 1) := by decide +kernel
theorem dX10_span_48 : decode cX10_span 48 = .ok (.getfield 10, 3) := by decide +kernel
theorem dX10_span_51 : decode cX10_span 51 = .ok (.invokevirtual 188, 3) := by decide +kernel
theorem dX10_span_54 : decode cX10_span 54 = .ok (.iconst 0, 1) := by decide +kernel
theorem dX10_span_55 : decode cX10_span 55 = .ok (.istore 7, 2) := by decide +kernel
theorem dX10_span_57 : decode cX10_span 57 = .ok (.iload 7, 2) := by decide +kernel
theorem dX10_span_59 : decode cX10_span 59 = .ok (.bipush 30, 2) := by decide +kernel
theorem dX10_span_61 : decode cX10_span 61 = .ok (.if_icmp .gt 43, 3) := by decide +kernel
theorem dX10_span_64 : decode cX10_span 64 = .ok (.aload_n 0, 1) := by decide +kernel
theorem dX10_span_65 : decode cX10_span 65 = .ok (.getfield 52, 3) := by decide +kernel
theorem dX10_span_68 : decode cX10_span 68 = .ok (.iload_n 1, 1) := by decide +kernel
theorem dX10_span_69 : decode cX10_span 69 = .ok (.iload 7, 2) := by decide +kernel
theorem dX10_span_71 : decode cX10_span 71 = .ok (.iload_n 2, 1) := by decide +kernel
theorem dX10_span_72 : decode cX10_span 72 = .ok (.invokevirtual 356, 3) := by decide +kernel
theorem dX10_span_75 : decode cX10_span 75 = .ok (.ifCond .eq 23, 3) := by decide +kernel
theorem dX10_span_78 : decode cX10_span 78 = .ok (.iload 5, 2) := by decide +kernel
theorem dX10_span_80 : decode cX10_span 80 = .ok (.bipush (-9), 2) := by decide +kernel
theorem dX10_span_82 : decode cX10_span 82 = .ok (.if_icmp .ne 8, 3) := by decide +kernel
theorem dX10_span_85 : decode cX10_span 85 = .ok (.iload 7, 2) := by decide +kernel
theorem dX10_span_87 : decode cX10_span 87 = .ok (.goto 5, 3) := by decide +kernel
theorem dX10_span_90 : decode cX10_span 90 = .ok (.iload 5, 2) := by decide +kernel
theorem dX10_span_92 : decode cX10_span 92 = .ok (.istore 5, 2) := by decide +kernel
theorem dX10_span_94 : decode cX10_span 94 = .ok (.iload 7, 2) := by decide +kernel
theorem dX10_span_96 : decode cX10_span 96 = .ok (.istore 6, 2) := by decide +kernel
theorem dX10_span_98 : decode cX10_span 98 = .ok (.iinc 7 1, 3) := by decide +kernel
theorem dX10_span_101 : decode cX10_span 101 = .ok (.goto (-44), 3) := by decide +kernel
theorem dX10_span_104 : decode cX10_span 104 = .ok (.iload_n 3, 1) := by decide +kernel
theorem dX10_span_105 : decode cX10_span 105 = .ok (.ifCond .ne 8, 3) := by decide +kernel
theorem dX10_span_108 : decode cX10_span 108 = .ok (.iload 5, 2) := by decide +kernel
theorem dX10_span_110 : decode cX10_span 110 = .ok (.goto 5, 3) := by decide +kernel
theorem dX10_span_113 : decode cX10_span 113 = .ok (.iload 6, 2) := by decide +kernel
theorem dX10_span_115 : decode cX10_span 115 = .ok (.ireturn, 1) := by decide +kernel
theorem dX10_flown_0 : decode cX10_flown 0 = .ok (.iload_n 1, 1) := by decide +kernel
theorem dX10_flown_1 : decode cX10_flown 1 = .ok (.ifCond .lt 8, 3) := by decide +kernel
theorem dX10_flown_4 : decode cX10_flown 4 = .ok (.iload_n 1, 1) := by decide +kernel
theorem dX10_flown_5 : decode cX10_flown 5 = .ok (.iconst 4, 1) := by decide +kernel
theorem dX10_flown_6 : decode cX10_flown 6 = .ok (.if_icmp .le 10, 3) := by decide +kernel
theorem dX10_flown_9 : decode cX10_flown 9 = .ok (.aload_n 0, 1) := by decide +kernel
theorem dX10_flown_10 : decode cX10_flown 10 = .ok (.bipush (-2), 2) := by decide +kernel
theorem dX10_flown_12 : decode cX10_flown 12 = .ok (.invokevirtual 63, 3) := by decide +kernel
theorem dX10_flown_15 : decode cX10_flown 15 = .ok (.ireturn, 1) := by decide +kernel
theorem dX10_flown_16 : decode cX10_flown 16 = .ok (.aload_n 0, 1) := by decide +kernel
theorem dX10_flown_17 : decode cX10_flown 17 = .ok (.getfield 52, 3) := by decide +kernel
theorem dX10_flown_20 : decode cX10_flown 20 = .ok (.aload_n 0, 1) := by decide +kernel
theorem dX10_flown_21 : decode cX10_flown 21 = .ok (.getfield 10, 3) := by decide +kernel
theorem dX10_flown_24 : decode cX10_flown 24 = .ok (.invokevirtual 188, 3) := by decide +kernel
theorem dX10_flown_27 : decode cX10_flown 27 = .ok (.aload_n 0, 1) := by decide +kernel
theorem dX10_flown_28 : decode cX10_flown 28 = .ok (.getfield 52, 3) := by decide +kernel
theorem dX10_flown_31 : decode cX10_flown 31 = .ok (.aload_n 0, 1) := by decide +kernel
theorem dX10_flown_32 : decode cX10_flown 32 = .ok (.getfield 41, 3) := by decide +kernel
theorem dX10_flown_35 : decode cX10_flown 35 = .ok (.invokevirtual 360, 3) := by decide +kernel
theorem dX10_flown_38 : decode cX10_flown 38 = .ok (.iload_n 1, 1) := by decide +kernel
theorem dX10_flown_39 : decode cX10_flown 39 = .ok (.tableswitch 73 0 3 #[29, 40, 51, 62], 29) := by decide +kernel
theorem dX10_flown_68 : decode cX10_flown 68 = .ok (.aload_n 0, 1) := by decide +kernel
theorem dX10_flown_69 : decode cX10_flown 69 = .ok (.getfield 52, 3) := by decide +kernel
theorem dX10_flown_72 : decode cX10_flown 72 = .ok (.getfield 195, 3) := by decide +kernel
theorem dX10_flown_75 : decode cX10_flown 75 = .ok (.getfield 175, 3) := by decide +kernel
theorem dX10_flown_78 : decode cX10_flown 78 = .ok (.ireturn, 1) := by decide +kernel
theorem dX10_flown_79 : decode cX10_flown 79 = .ok (.aload_n 0, 1) := by decide +kernel
theorem dX10_flown_80 : decode cX10_flown 80 = .ok (.getfield 52, 3) := by decide +kernel
theorem dX10_flown_83 : decode cX10_flown 83 = .ok (.getfield 195, 3) := by decide +kernel
theorem dX10_flown_86 : decode cX10_flown 86 = .ok (.getfield 198, 3) := by decide +kernel
theorem dX10_flown_89 : decode cX10_flown 89 = .ok (.ireturn, 1) := by decide +kernel
theorem dX10_flown_90 : decode cX10_flown 90 = .ok (.aload_n 0, 1) := by decide +kernel
theorem dX10_flown_91 : decode cX10_flown 91 = .ok (.getfield 52, 3) := by decide +kernel
theorem dX10_flown_94 : decode cX10_flown 94 = .ok (.getfield 195, 3) := by decide +kernel
theorem dX10_flown_97 : decode cX10_flown 97 = .ok (.getfield 201, 3) := by decide +kernel
theorem dX10_flown_100 : decode cX10_flown 100 = .ok (.ireturn, 1) := by decide +kernel
theorem dX10_flown_101 : decode cX10_flown 101 = .ok (.aload_n 0, 1) := by decide +kernel
theorem dX10_flown_102 : decode cX10_flown 102 = .ok (.getfield 52, 3) := by decide +kernel
theorem dX10_flown_105 : decode cX10_flown 105 = .ok (.getfield 195, 3) := by decide +kernel
theorem dX10_flown_108 : decode cX10_flown 108 = .ok (.getfield 364, 3) := by decide +kernel
theorem dX10_flown_111 : decode cX10_flown 111 = .ok (.ireturn, 1) := by decide +kernel
theorem dX10_flown_112 : decode cX10_flown 112 = .ok (.aload_n 0, 1) := by decide +kernel
theorem dX10_flown_113 : decode cX10_flown 113 = .ok (.getfield 52, 3) := by decide +kernel
theorem dX10_flown_116 : decode cX10_flown 116 = .ok (.getfield 195, 3) := by decide +kernel
theorem dX10_flown_119 : decode cX10_flown 119 = .ok (.getfield 162, 3) := by decide +kernel
theorem dX10_flown_122 : decode cX10_flown 122 = .ok (.ireturn, 1) := by decide +kernel
theorem dX10_ceiling_0 : decode cX10_ceiling 0 = .ok (.iload_n 1, 1) := by decide +kernel
theorem dX10_ceiling_1 : decode cX10_ceiling 1 = .ok (.ifCond .lt 8, 3) := by decide +kernel
theorem dX10_ceiling_4 : decode cX10_ceiling 4 = .ok (.iload_n 1, 1) := by decide +kernel
theorem dX10_ceiling_5 : decode cX10_ceiling 5 = .ok (.iconst 1, 1) := by decide +kernel
theorem dX10_ceiling_6 : decode cX10_ceiling 6 = .ok (.if_icmp .le 10, 3) := by decide +kernel
theorem dX10_ceiling_9 : decode cX10_ceiling 9 = .ok (.aload_n 0, 1) := by decide +kernel
theorem dX10_ceiling_10 : decode cX10_ceiling 10 = .ok (.bipush (-2), 2) := by decide +kernel
theorem dX10_ceiling_12 : decode cX10_ceiling 12 = .ok (.invokevirtual 63, 3) := by decide +kernel
theorem dX10_ceiling_15 : decode cX10_ceiling 15 = .ok (.ireturn, 1) := by decide +kernel
theorem dX10_ceiling_16 : decode cX10_ceiling 16 = .ok (.aload_n 0, 1) := by decide +kernel
theorem dX10_ceiling_17 : decode cX10_ceiling 17 = .ok (.getfield 52, 3) := by decide +kernel
theorem dX10_ceiling_20 : decode cX10_ceiling 20 = .ok (.aload_n 0, 1) := by decide +kernel
theorem dX10_ceiling_21 : decode cX10_ceiling 21 = .ok (.getfield 10, 3) := by decide +kernel
theorem dX10_ceiling_24 : decode cX10_ceiling 24 = .ok (.invokevirtual 188, 3) := by decide +kernel
theorem dX10_ceiling_27 : decode cX10_ceiling 27 = .ok (.aload_n 0, 1) := by decide +kernel
theorem dX10_ceiling_28 : decode cX10_ceiling 28 = .ok (.getfield 52, 3) := by decide +kernel
theorem dX10_ceiling_31 : decode cX10_ceiling 31 = .ok (.invokevirtual 367, 3) := by decide +kernel
theorem dX10_ceiling_34 : decode cX10_ceiling 34 = .ok (.iload_n 1, 1) := by decide +kernel
theorem dX10_ceiling_35 : decode cX10_ceiling 35 = .ok (.ifCond .ne 13, 3) := by decide +kernel
theorem dX10_ceiling_38 : decode cX10_ceiling 38 = .ok (.aload_n 0, 1) := by decide +kernel
theorem dX10_ceiling_39 : decode cX10_ceiling 39 = .ok (.getfield 52, 3) := by decide +kernel
theorem dX10_ceiling_42 : decode cX10_ceiling 42 = .ok (.getfield 370, 3) := by decide +kernel
theorem dX10_ceiling_45 : decode cX10_ceiling 45 = .ok (.goto 10, 3) := by decide +kernel
theorem dX10_ceiling_48 : decode cX10_ceiling 48 = .ok (.aload_n 0, 1) := by decide +kernel
theorem dX10_ceiling_49 : decode cX10_ceiling 49 = .ok (.getfield 52, 3) := by decide +kernel
theorem dX10_ceiling_52 : decode cX10_ceiling 52 = .ok (.getfield 373, 3) := by decide +kernel
theorem dX10_ceiling_55 : decode cX10_ceiling 55 = .ok (.ireturn, 1) := by decide +kernel
theorem dX10_game_0 : decode cX10_game 0 = .ok (.iload_n 1, 1) := by decide +kernel
theorem dX10_game_1 : decode cX10_game 1 = .ok (.ifCond .lt 8, 3) := by decide +kernel
theorem dX10_game_4 : decode cX10_game 4 = .ok (.iload_n 1, 1) := by decide +kernel
theorem dX10_game_5 : decode cX10_game 5 = .ok (.iconst 2, 1) := by decide +kernel
theorem dX10_game_6 : decode cX10_game 6 = .ok (.if_icmp .le 10, 3) := by decide +kernel
theorem dX10_game_9 : decode cX10_game 9 = .ok (.aload_n 0, 1) := by decide +kernel
theorem dX10_game_10 : decode cX10_game 10 = .ok (.bipush (-2), 2) := by decide +kernel
theorem dX10_game_12 : decode cX10_game 12 = .ok (.invokevirtual 63, 3) := by decide +kernel
theorem dX10_game_15 : decode cX10_game 15 = .ok (.ireturn, 1) := by decide +kernel
theorem dX10_game_16 : decode cX10_game 16 = .ok (.aload_n 0, 1) := by decide +kernel
theorem dX10_game_17 : decode cX10_game 17 = .ok (.getfield 52, 3) := by decide +kernel
theorem dX10_game_20 : decode cX10_game 20 = .ok (.aload_n 0, 1) := by decide +kernel
theorem dX10_game_21 : decode cX10_game 21 = .ok (.getfield 10, 3) := by decide +kernel
theorem dX10_game_24 : decode cX10_game 24 = .ok (.invokevirtual 188, 3) := by decide +kernel
theorem dX10_game_27 : decode cX10_game 27 = .ok (.aload_n 0, 1) := by decide +kernel
theorem dX10_game_28 : decode cX10_game 28 = .ok (.getfield 52, 3) := by decide +kernel
theorem dX10_game_31 : decode cX10_game 31 = .ok (.invokevirtual 376, 3) := by decide +kernel
theorem dX10_game_34 : decode cX10_game 34 = .ok (.iload_n 1, 1) := by decide +kernel
theorem dX10_game_35 : decode cX10_game 35 = .ok (.iconst 2, 1) := by decide +kernel
theorem dX10_game_36 : decode cX10_game 36 = .ok (.if_icmp .ne 11, 3) := by decide +kernel
theorem dX10_game_39 : decode cX10_game 39 = .ok (.aload_n 0, 1) := by decide +kernel
theorem dX10_game_40 : decode cX10_game 40 = .ok (.getfield 52, 3) := by decide +kernel
theorem dX10_game_43 : decode cX10_game 43 = .ok (.invokevirtual 379, 3) := by decide +kernel
theorem dX10_game_46 : decode cX10_game 46 = .ok (.ireturn, 1) := by decide +kernel
theorem dX10_game_47 : decode cX10_game 47 = .ok (.aload_n 0, 1) := by decide +kernel
theorem dX10_game_48 : decode cX10_game 48 = .ok (.getfield 52, 3) := by decide +kernel
theorem dX10_game_51 : decode cX10_game 51 = .ok (.invokevirtual 382, 3) := by decide +kernel
theorem dX10_game_54 : decode cX10_game 54 = .ok (.istore_n 2, 1) := by decide +kernel
theorem dX10_game_55 : decode cX10_game 55 = .ok (.iload_n 1, 1) := by decide +kernel
theorem dX10_game_56 : decode cX10_game 56 = .ok (.ifCond .eq 9, 3) := by decide +kernel
theorem dX10_game_59 : decode cX10_game 59 = .ok (.iload_n 2, 1) := by decide +kernel
theorem dX10_game_60 : decode cX10_game 60 = .ok (.bipush (-9), 2) := by decide +kernel
theorem dX10_game_62 : decode cX10_game 62 = .ok (.if_icmp .ne 7, 3) := by decide +kernel
theorem dX10_game_65 : decode cX10_game 65 = .ok (.iload_n 2, 1) := by decide +kernel
theorem dX10_game_66 : decode cX10_game 66 = .ok (.goto 18, 3) := by decide +kernel
theorem dX10_game_69 : decode cX10_game 69 = .ok (.aload_n 0, 1) := by decide +kernel
theorem dX10_game_70 : decode cX10_game 70 = .ok (.getfield 52, 3) := by decide +kernel
theorem dX10_game_73 : decode cX10_game 73 = .ok (.iload_n 2, 1) := by decide +kernel
theorem dX10_game_74 : decode cX10_game 74 = .ok (.bipush 10, 2) := by decide +kernel
theorem dX10_game_76 : decode cX10_game 76 = .ok (.idiv, 1) := by decide +kernel
theorem dX10_game_77 : decode cX10_game 77 = .ok (.iload_n 2, 1) := by decide +kernel
theorem dX10_game_78 : decode cX10_game 78 = .ok (.bipush 10, 2) := by decide +kernel
theorem dX10_game_80 : decode cX10_game 80 = .ok (.irem, 1) := by decide +kernel
theorem dX10_game_81 : decode cX10_game 81 = .ok (.invokevirtual 385, 3) := by decide +kernel
theorem dX10_game_84 : decode cX10_game 84 = .ok (.ireturn, 1) := by decide +kernel
theorem dX10_another_0 : decode cX10_another 0 = .ok (.iload_n 1, 1) := by decide +kernel
theorem dX10_another_1 : decode cX10_another 1 = .ok (.ifCond .lt 12, 3) := by decide +kernel
theorem dX10_another_4 : decode cX10_another 4 = .ok (.iload_n 2, 1) := by decide +kernel
theorem dX10_another_5 : decode cX10_another 5 = .ok (.ifCond .lt 8, 3) := by decide +kernel
theorem dX10_another_8 : decode cX10_another 8 = .ok (.iload_n 3, 1) := by decide +kernel
theorem dX10_another_9 : decode cX10_another 9 = .ok (.iconst 1, 1) := by decide +kernel
theorem dX10_another_10 : decode cX10_another 10 = .ok (.if_icmp .ge 10, 3) := by decide +kernel
theorem dX10_another_13 : decode cX10_another 13 = .ok (.aload_n 0, 1) := by decide +kernel
theorem dX10_another_14 : decode cX10_another 14 = .ok (.bipush (-4), 2) := by decide +kernel
theorem dX10_another_16 : decode cX10_another 16 = .ok (.invokevirtual 63, 3) := by decide +kernel
theorem dX10_another_19 : decode cX10_another 19 = .ok (.ireturn, 1) := by decide +kernel
theorem dX10_another_20 : decode cX10_another 20 = .ok (.iload_n 1, 1) := by decide +kernel
theorem dX10_another_21 : decode cX10_another 21 = .ok (.bipush 30, 2) := by decide +kernel
theorem dX10_another_23 : decode cX10_another 23 = .ok (.if_icmp .gt 14, 3) := by decide +kernel
theorem dX10_another_26 : decode cX10_another 26 = .ok (.iload_n 2, 1) := by decide +kernel
theorem dX10_another_27 : decode cX10_another 27 = .ok (.iconst 5, 1) := by decide +kernel
theorem dX10_another_28 : decode cX10_another 28 = .ok (.if_icmp .gt 9, 3) := by decide +kernel
theorem dX10_another_31 : decode cX10_another 31 = .ok (.iload_n 3, 1) := by decide +kernel
theorem dX10_another_32 : decode cX10_another 32 = .ok (.bipush 6, 2) := by decide +kernel
theorem dX10_another_34 : decode cX10_another 34 = .ok (.if_icmp .le 10, 3) := by decide +kernel
theorem dX10_another_37 : decode cX10_another 37 = .ok (.aload_n 0, 1) := by decide +kernel
theorem dX10_another_38 : decode cX10_another 38 = .ok (.bipush (-6), 2) := by decide +kernel
theorem dX10_another_40 : decode cX10_another 40 = .ok (.invokevirtual 63, 3) := by decide +kernel
theorem dX10_another_43 : decode cX10_another 43 = .ok (.ireturn, 1) := by decide +kernel
theorem dX10_another_44 : decode cX10_another 44 = .ok (.aload_n 0, 1) := by decide +kernel
theorem dX10_another_45 : decode cX10_another 45 = .ok (.getfield 52, 3) := by decide +kernel
theorem dX10_another_48 : decode cX10_another 48 = .ok (.aload_n 0, 1) := by decide +kernel
theorem dX10_another_49 : decode cX10_another 49 = .ok (.getfield 10, 3) := by decide +kernel
theorem dX10_another_52 : decode cX10_another 52 = .ok (.invokevirtual 188, 3) := by decide +kernel
theorem dX10_another_55 : decode cX10_another 55 = .ok (.aload_n 0, 1) := by decide +kernel
theorem dX10_another_56 : decode cX10_another 56 = .ok (.getfield 52, 3) := by decide +kernel
theorem dX10_another_59 : decode cX10_another 59 = .ok (.iload_n 1, 1) := by decide +kernel
theorem dX10_another_60 : decode cX10_another 60 = .ok (.iload_n 2, 1) := by decide +kernel
theorem dX10_another_61 : decode cX10_another 61 = .ok (.invokevirtual 191, 3) := by decide +kernel
theorem dX10_another_64 : decode cX10_another 64 = .ok (.ifCond .ne 6, 3) := by decide +kernel
theorem dX10_another_67 : decode cX10_another 67 = .ok (.bipush (-9), 2) := by decide +kernel
theorem dX10_another_69 : decode cX10_another 69 = .ok (.ireturn, 1) := by decide +kernel
theorem dX10_another_70 : decode cX10_another 70 = .ok (.aload_n 0, 1) := by decide +kernel
theorem dX10_another_71 : decode cX10_another 71 = .ok (.getfield 52, 3) := by decide +kernel
theorem dX10_another_74 : decode cX10_another 74 = .ok (.getfield 195, 3) := by decide +kernel
theorem dX10_another_77 : decode cX10_another 77 = .ok (.getfield 198, 3) := by decide +kernel
theorem dX10_another_80 : decode cX10_another 80 = .ok (.istore 4, 2) := by decide +kernel
theorem dX10_another_82 : decode cX10_another 82 = .ok (.aload_n 0, 1) := by decide +kernel
theorem dX10_another_83 : decode cX10_another 83 = .ok (.getfield 52, 3) := by decide +kernel
theorem dX10_another_86 : decode cX10_another 86 = .ok (.getfield 195, 3) := by decide +kernel
theorem dX10_another_89 : decode cX10_another 89 = .ok (.getfield 201, 3) := by decide +kernel
theorem dX10_another_92 : decode cX10_another 92 = .ok (.istore 5, 2) := by decide +kernel
theorem dX10_another_94 : decode cX10_another 94 = .ok (.aload_n 0, 1) := by decide +kernel
theorem dX10_another_95 : decode cX10_another 95 = .ok (.getfield 52, 3) := by decide +kernel
theorem dX10_another_98 : decode cX10_another 98 = .ok (.iload_n 3, 1) := by decide +kernel
theorem dX10_another_99 : decode cX10_another 99 = .ok (.invokevirtual 347, 3) := by decide +kernel
theorem dX10_another_102 : decode cX10_another 102 = .ok (.aload_n 0, 1) := by decide +kernel
theorem dX10_another_103 : decode cX10_another 103 = .ok (.getfield 52, 3) := by decide +kernel
theorem dX10_another_106 : decode cX10_another 106 = .ok (.iload_n 1, 1) := by decide +kernel
theorem dX10_another_107 : decode cX10_another 107 = .ok (.iload_n 2, 1) := by decide +kernel
theorem dX10_another_108 : decode cX10_another 108 = .ok (.invokevirtual 191, 3) := by decide +kernel
theorem dX10_another_111 : decode cX10_another 111 = .ok (.ifCond .ne 6, 3) := by decide +kernel
theorem dX10_another_114 : decode cX10_another 114 = .ok (.bipush (-9), 2) := by decide +kernel
theorem dX10_another_116 : decode cX10_another 116 = .ok (.ireturn, 1) := by decide +kernel
theorem dX10_another_117 : decode cX10_another 117 = .ok (.aload_n 0, 1) := by decide +kernel
theorem dX10_another_118 : decode cX10_another 118 = .ok (.getfield 52, 3) := by decide +kernel
theorem dX10_another_121 : decode cX10_another 121 = .ok (.getfield 195, 3) := by decide +kernel
theorem dX10_another_124 : decode cX10_another 124 = .ok (.getfield 198, 3) := by decide +kernel
theorem dX10_another_127 : decode cX10_another 127 = .ok (.iload 4, 2) := by decide +kernel
theorem dX10_another_129 : decode cX10_another 129 = .ok (.isub, 1) := by decide +kernel
theorem dX10_another_130 : decode cX10_another 130 = .ok (.invokestatic 388, 3) := by decide +kernel
theorem dX10_another_133 : decode cX10_another 133 = .ok (.aload_n 0, 1) := by decide +kernel
theorem dX10_another_134 : decode cX10_another 134 = .ok (.getfield 52, 3) := by decide +kernel
theorem dX10_another_137 : decode cX10_another 137 = .ok (.getfield 195, 3) := by decide +kernel
theorem dX10_another_140 : decode cX10_another 140 = .ok (.getfield 201, 3) := by decide +kernel
theorem dX10_another_143 : decode cX10_another 143 = .ok (.iload 5, 2) := by decide +kernel
theorem dX10_another_145 : decode cX10_another 145 = .ok (.isub, 1) := by decide +kernel
theorem dX10_another_146 : decode cX10_another 146 = .ok (.invokestatic 388, 3) := by decide +kernel
theorem dX10_another_149 : decode cX10_another 149 = .ok (.iadd, 1) := by decide +kernel
theorem dX10_another_150 : decode cX10_another 150 = .ok (.ireturn, 1) := by decide +kernel
theorem dX10_chase_0 : decode cX10_chase 0 = .ok (.iload_n 1, 1) := by decide +kernel
theorem dX10_chase_1 : decode cX10_chase 1 = .ok (.iload_n 2, 1) := by decide +kernel
theorem dX10_chase_2 : decode cX10_chase 2 = .ok (.iload_n 3, 1) := by decide +kernel
theorem dX10_chase_3 : decode cX10_chase 3 = .ok (.iconst 1, 1) := by decide +kernel
theorem dX10_chase_4 : decode cX10_chase 4 = .ok (.invokestatic 184, 3) := by decide +kernel
theorem dX10_chase_7 : decode cX10_chase 7 = .ok (.istore 4, 2) := by decide +kernel
theorem dX10_chase_9 : decode cX10_chase 9 = .ok (.iload 4, 2) := by decide +kernel
theorem dX10_chase_11 : decode cX10_chase 11 = .ok (.ifCond .eq 10, 3) := by decide +kernel
theorem dX10_chase_14 : decode cX10_chase 14 = .ok (.aload_n 0, 1) := by decide +kernel
theorem dX10_chase_15 : decode cX10_chase 15 = .ok (.iload 4, 2) := by decide +kernel
theorem dX10_chase_17 : decode cX10_chase 17 = .ok (.invokevirtual 63, 3) := by decide +kernel
theorem dX10_chase_20 : decode cX10_chase 20 = .ok (.ireturn, 1) := by decide +kernel
theorem dX10_chase_21 : decode cX10_chase 21 = .ok (.aload_n 0, 1) := by decide +kernel
theorem dX10_chase_22 : decode cX10_chase 22 = .ok (.getfield 52, 3) := by decide +kernel
theorem dX10_chase_25 : decode cX10_chase 25 = .ok (.aload_n 0, 1) := by decide +kernel
theorem dX10_chase_26 : decode cX10_chase 26 = .ok (.getfield 10, 3) := by decide +kernel
theorem dX10_chase_29 : decode cX10_chase 29 = .ok (.invokevirtual 188, 3) := by decide +kernel
theorem dX10_chase_32 : decode cX10_chase 32 = .ok (.aload_n 0, 1) := by decide +kernel
theorem dX10_chase_33 : decode cX10_chase 33 = .ok (.getfield 52, 3) := by decide +kernel
theorem dX10_chase_36 : decode cX10_chase 36 = .ok (.iload_n 1, 1) := by decide +kernel
theorem dX10_chase_37 : decode cX10_chase 37 = .ok (.iload_n 2, 1) := by decide +kernel
theorem dX10_chase_38 : decode cX10_chase 38 = .ok (.invokevirtual 191, 3) := by decide +kernel
theorem dX10_chase_41 : decode cX10_chase 41 = .ok (.ifCond .ne 6, 3) := by decide +kernel
theorem dX10_chase_44 : decode cX10_chase 44 = .ok (.bipush (-9), 2) := by decide +kernel
theorem dX10_chase_46 : decode cX10_chase 46 = .ok (.ireturn, 1) := by decide +kernel
theorem dX10_chase_47 : decode cX10_chase 47 = .ok (.aload_n 0, 1) := by decide +kernel
theorem dX10_chase_48 : decode cX10_chase 48 = .ok (.getfield 59, 3) := by decide +kernel
theorem dX10_chase_51 : decode cX10_chase 51 = .ok (.aload_n 0, 1) := by decide +kernel
theorem dX10_chase_52 : decode cX10_chase 52 = .ok (.getfield 10, 3) := by decide +kernel
theorem dX10_chase_55 : decode cX10_chase 55 = .ok (.getfield 279, 3) := by decide +kernel
theorem dX10_chase_58 : decode cX10_chase 58 = .ok (.invokevirtual 297, 3) := by decide +kernel
theorem dX10_chase_61 : decode cX10_chase 61 = .ok (.aload_n 0, 1) := by decide +kernel
theorem dX10_chase_62 : decode cX10_chase 62 = .ok (.getfield 59, 3) := by decide +kernel
theorem dX10_chase_65 : decode cX10_chase 65 = .ok (.aload_n 0, 1) := by decide +kernel
theorem dX10_chase_66 : decode cX10_chase 66 = .ok (.getfield 10, 3) := by decide +kernel
theorem dX10_chase_69 : decode cX10_chase 69 = .ok (.getfield 279, 3) := by decide +kernel
theorem dX10_chase_72 : decode cX10_chase 72 = .ok (.getfield 294, 3) := by decide +kernel
theorem dX10_chase_75 : decode cX10_chase 75 = .ok (.aload_n 0, 1) := by decide +kernel
theorem dX10_chase_76 : decode cX10_chase 76 = .ok (.getfield 52, 3) := by decide +kernel
theorem dX10_chase_79 : decode cX10_chase 79 = .ok (.getfield 195, 3) := by decide +kernel
theorem dX10_chase_82 : decode cX10_chase 82 = .ok (.getfield 198, 3) := by decide +kernel
theorem dX10_chase_85 : decode cX10_chase 85 = .ok (.invokestatic 393, 3) := by decide +kernel
theorem dX10_chase_88 : decode cX10_chase 88 = .ok (.invokevirtual 301, 3) := by decide +kernel
theorem dX10_chase_91 : decode cX10_chase 91 = .ok (.istore 5, 2) := by decide +kernel
theorem dX10_chase_93 : decode cX10_chase 93 = .ok (.iload_n 3, 1) := by decide +kernel
theorem dX10_chase_94 : decode cX10_chase 94 = .ok (.ifCond .eq 10, 3) := by decide +kernel
theorem dX10_chase_97 : decode cX10_chase 97 = .ok (.iload 5, 2) := by decide +kernel
theorem dX10_chase_99 : decode cX10_chase 99 = .ok (.bipush (-9), 2) := by decide +kernel
theorem dX10_chase_101 : decode cX10_chase 101 = .ok (.if_icmp .ne 6, 3) := by decide +kernel
theorem dX10_chase_104 : decode cX10_chase 104 = .ok (.iload 5, 2) := by decide +kernel
theorem dX10_chase_106 : decode cX10_chase 106 = .ok (.ireturn, 1) := by decide +kernel
theorem dX10_chase_107 : decode cX10_chase 107 = .ok (.iload 5, 2) := by decide +kernel
theorem dX10_chase_109 : decode cX10_chase 109 = .ok (.aload_n 0, 1) := by decide +kernel
theorem dX10_chase_110 : decode cX10_chase 110 = .ok (.getfield 52, 3) := by decide +kernel
theorem dX10_chase_113 : decode cX10_chase 113 = .ok (.invokevirtual 207, 3) := by decide +kernel
theorem dX10_chase_116 : decode cX10_chase 116 = .ok (.bipush 6, 2) := by decide +kernel
theorem dX10_chase_118 : decode cX10_chase 118 = .ok (.idiv, 1) := by decide +kernel
theorem dX10_chase_119 : decode cX10_chase 119 = .ok (.if_icmp .gt 7, 3) := by decide +kernel
theorem dX10_chase_122 : decode cX10_chase 122 = .ok (.iconst 1, 1) := by decide +kernel
theorem dX10_chase_123 : decode cX10_chase 123 = .ok (.goto 4, 3) := by decide +kernel
theorem dX10_chase_126 : decode cX10_chase 126 = .ok (.iconst 0, 1) := by decide +kernel
theorem dX10_chase_127 : decode cX10_chase 127 = .ok (.ireturn, 1) := by decide +kernel
theorem dX10_tour_0 : decode cX10_tour 0 = .ok (.iload_n 1, 1) := by decide +kernel
theorem dX10_tour_1 : decode cX10_tour 1 = .ok (.ifCond .ge 10, 3) := by decide +kernel
theorem dX10_tour_4 : decode cX10_tour 4 = .ok (.aload_n 0, 1) := by decide +kernel
theorem dX10_tour_5 : decode cX10_tour 5 = .ok (.bipush (-4), 2) := by decide +kernel
theorem dX10_tour_7 : decode cX10_tour 7 = .ok (.invokevirtual 63, 3) := by decide +kernel
theorem dX10_tour_10 : decode cX10_tour 10 = .ok (.ireturn, 1) := by decide +kernel
theorem dX10_tour_11 : decode cX10_tour 11 = .ok (.iload_n 1, 1) := by decide +kernel
theorem dX10_tour_12 : decode cX10_tour 12 = .ok (.sipush 255, 3) := by decide +kernel
theorem dX10_tour_15 : decode cX10_tour 15 = .ok (.if_icmp .le 10, 3) := by decide +kernel
theorem dX10_tour_18 : decode cX10_tour 18 = .ok (.aload_n 0, 1) := by decide +kernel
theorem dX10_tour_19 : decode cX10_tour 19 = .ok (.bipush (-6), 2) := by decide +kernel
theorem dX10_tour_21 : decode cX10_tour 21 = .ok (.invokevirtual 63, 3) := by decide +kernel
theorem dX10_tour_24 : decode cX10_tour 24 = .ok (.ireturn, 1) := by decide +kernel
theorem dX10_tour_25 : decode cX10_tour 25 = .ok (.iload_n 2, 1) := by decide +kernel
theorem dX10_tour_26 : decode cX10_tour 26 = .ok (.ifCond .lt 8, 3) := by decide +kernel
theorem dX10_tour_29 : decode cX10_tour 29 = .ok (.iload_n 2, 1) := by decide +kernel
theorem dX10_tour_30 : decode cX10_tour 30 = .ok (.iconst 1, 1) := by decide +kernel
theorem dX10_tour_31 : decode cX10_tour 31 = .ok (.if_icmp .le 10, 3) := by decide +kernel
theorem dX10_tour_34 : decode cX10_tour 34 = .ok (.aload_n 0, 1) := by decide +kernel
theorem dX10_tour_35 : decode cX10_tour 35 = .ok (.bipush (-2), 2) := by decide +kernel
theorem dX10_tour_37 : decode cX10_tour 37 = .ok (.invokevirtual 63, 3) := by decide +kernel
theorem dX10_tour_40 : decode cX10_tour 40 = .ok (.ireturn, 1) := by decide +kernel
theorem dX10_tour_41 : decode cX10_tour 41 = .ok (.aload_n 0, 1) := by decide +kernel
theorem dX10_tour_42 : decode cX10_tour 42 = .ok (.getfield 10, 3) := by decide +kernel
theorem dX10_tour_45 : decode cX10_tour 45 = .ok (.getfield 279, 3) := by decide +kernel
theorem dX10_tour_48 : decode cX10_tour 48 = .ok (.getfield 294, 3) := by decide +kernel
theorem dX10_tour_51 : decode cX10_tour 51 = .ok (.istore_n 3, 1) := by decide +kernel
theorem dX10_tour_52 : decode cX10_tour 52 = .ok (.iload_n 1, 1) := by decide +kernel
theorem dX10_tour_53 : decode cX10_tour 53 = .ok (.iconst 1, 1) := by decide +kernel
theorem dX10_tour_54 : decode cX10_tour 54 = .ok (.iload_n 3, 1) := by decide +kernel
theorem dX10_tour_55 : decode cX10_tour 55 = .ok (.ishl, 1) := by decide +kernel
theorem dX10_tour_56 : decode cX10_tour 56 = .ok (.iconst (-1), 1) := by decide +kernel
theorem dX10_tour_57 : decode cX10_tour 57 = .ok (.ixor, 1) := by decide +kernel
theorem dX10_tour_58 : decode cX10_tour 58 = .ok (.iand, 1) := by decide +kernel
theorem dX10_tour_59 : decode cX10_tour 59 = .ok (.istore 4, 2) := by decide +kernel
theorem dX10_tour_61 : decode cX10_tour 61 = .ok (.aload_n 0, 1) := by decide +kernel
theorem dX10_tour_62 : decode cX10_tour 62 = .ok (.getfield 59, 3) := by decide +kernel
theorem dX10_tour_65 : decode cX10_tour 65 = .ok (.aload_n 0, 1) := by decide +kernel
theorem dX10_tour_66 : decode cX10_tour 66 = .ok (.getfield 10, 3) := by decide +kernel
theorem dX10_tour_69 : decode cX10_tour 69 = .ok (.getfield 279, 3) := by decide +kernel
theorem dX10_tour_72 : decode cX10_tour 72 = .ok (.invokevirtual 297, 3) := by decide +kernel
theorem dX10_tour_75 : decode cX10_tour 75 = .ok (.aload_n 0, 1) := by decide +kernel
theorem dX10_tour_76 : decode cX10_tour 76 = .ok (.getfield 59, 3) := by decide +kernel
theorem dX10_tour_79 : decode cX10_tour 79 = .ok (.iload 4, 2) := by decide +kernel
theorem dX10_tour_81 : decode cX10_tour 81 = .ok (.invokevirtual 396, 3) := by decide +kernel
theorem dX10_tour_84 : decode cX10_tour 84 = .ok (.iload_n 2, 1) := by decide +kernel
theorem dX10_tour_85 : decode cX10_tour 85 = .ok (.ifCond .ne 16, 3) := by decide +kernel
theorem dX10_tour_88 : decode cX10_tour 88 = .ok (.aload_n 0, 1) := by decide +kernel
theorem dX10_tour_89 : decode cX10_tour 89 = .ok (.getfield 59, 3) := by decide +kernel
theorem dX10_tour_92 : decode cX10_tour 92 = .ok (.iload_n 3, 1) := by decide +kernel
theorem dX10_tour_93 : decode cX10_tour 93 = .ok (.iload 4, 2) := by decide +kernel
theorem dX10_tour_95 : decode cX10_tour 95 = .ok (.invokevirtual 399, 3) := by decide +kernel
theorem dX10_tour_98 : decode cX10_tour 98 = .ok (.goto 13, 3) := by decide +kernel
theorem dX10_tour_101 : decode cX10_tour 101 = .ok (.aload_n 0, 1) := by decide +kernel
theorem dX10_tour_102 : decode cX10_tour 102 = .ok (.getfield 59, 3) := by decide +kernel
theorem dX10_tour_105 : decode cX10_tour 105 = .ok (.iload_n 3, 1) := by decide +kernel
theorem dX10_tour_106 : decode cX10_tour 106 = .ok (.iload 4, 2) := by decide +kernel
theorem dX10_tour_108 : decode cX10_tour 108 = .ok (.invokevirtual 402, 3) := by decide +kernel
theorem dX10_tour_111 : decode cX10_tour 111 = .ok (.ireturn, 1) := by decide +kernel
theorem dX10_twoCars_0 : decode cX10_twoCars 0 = .ok (.iload_n 1, 1) := by decide +kernel
theorem dX10_twoCars_1 : decode cX10_twoCars 1 = .ok (.invokestatic 291, 3) := by decide +kernel
theorem dX10_twoCars_4 : decode cX10_twoCars 4 = .ok (.ifCond .ne 9, 3) := by decide +kernel
theorem dX10_twoCars_7 : decode cX10_twoCars 7 = .ok (.aload_n 0, 1) := by decide +kernel
theorem dX10_twoCars_8 : decode cX10_twoCars 8 = .ok (.iconst (-1), 1) := by decide +kernel
theorem dX10_twoCars_9 : decode cX10_twoCars 9 = .ok (.invokevirtual 63, 3) := by decide +kernel
theorem dX10_twoCars_12 : decode cX10_twoCars 12 = .ok (.ireturn, 1) := by decide +kernel
theorem dX10_twoCars_13 : decode cX10_twoCars 13 = .ok (.aload_n 0, 1) := by decide +kernel
theorem dX10_twoCars_14 : decode cX10_twoCars 14 = .ok (.getfield 59, 3) := by decide +kernel
theorem dX10_twoCars_17 : decode cX10_twoCars 17 = .ok (.aload_n 0, 1) := by decide +kernel
theorem dX10_twoCars_18 : decode cX10_twoCars 18 = .ok (.getfield 10, 3) := by decide +kernel
theorem dX10_twoCars_21 : decode cX10_twoCars 21 = .ok (.getfield 279, 3) := by decide +kernel
theorem dX10_twoCars_24 : decode cX10_twoCars 24 = .ok (.invokevirtual 297, 3) := by decide +kernel
theorem dX10_twoCars_27 : decode cX10_twoCars 27 = .ok (.iconst 0, 1) := by decide +kernel
theorem dX10_twoCars_28 : decode cX10_twoCars 28 = .ok (.istore_n 2, 1) := by decide +kernel
theorem dX10_twoCars_29 : decode cX10_twoCars 29 = .ok (.iconst 0, 1) := by decide +kernel
theorem dX10_twoCars_30 : decode cX10_twoCars 30 = .ok (.istore_n 3, 1) := by decide +kernel
theorem dX10_twoCars_31 : decode cX10_twoCars 31 = .ok (.iload_n 3, 1) := by decide +kernel
theorem dX10_twoCars_32 : decode cX10_twoCars 32 = .ok (.bipush 8, 2) := by decide +kernel
theorem dX10_twoCars_34 : decode cX10_twoCars 34 = .ok (.if_icmp .ge 45, 3) := by decide +kernel
theorem dX10_twoCars_37 : decode cX10_twoCars 37 = .ok (.aload_n 0, 1) := by decide +kernel
theorem dX10_twoCars_38 : decode cX10_twoCars 38 = .ok (.getfield 59, 3) := by decide +kernel
theorem dX10_twoCars_41 : decode cX10_twoCars 41 = .ok (.iload_n 1, 1) := by decide +kernel
theorem dX10_twoCars_42 : decode cX10_twoCars 42 = .ok (.iload_n 3, 1) := by decide +kernel
theorem dX10_twoCars_43 : decode cX10_twoCars 43 = .ok (.invokevirtual 321, 3) := by decide +kernel
theorem dX10_twoCars_46 : decode cX10_twoCars 46 = .ok (.aload_n 0, 1) := by decide +kernel
theorem dX10_twoCars_47 : decode cX10_twoCars 47 = .ok (.getfield 59, 3) := by decide +kernel
theorem dX10_twoCars_50 : decode cX10_twoCars 50 = .ok (.aload_n 0, 1) := by decide +kernel
theorem dX10_twoCars_51 : decode cX10_twoCars 51 = .ok (.getfield 10, 3) := by decide +kernel
theorem dX10_twoCars_54 : decode cX10_twoCars 54 = .ok (.getfield 279, 3) := by decide +kernel
theorem dX10_twoCars_57 : decode cX10_twoCars 57 = .ok (.getfield 294, 3) := by decide +kernel
theorem dX10_twoCars_60 : decode cX10_twoCars 60 = .ok (.iload_n 3, 1) := by decide +kernel
theorem dX10_twoCars_61 : decode cX10_twoCars 61 = .ok (.invokevirtual 321, 3) := by decide +kernel
theorem dX10_twoCars_64 : decode cX10_twoCars 64 = .ok (.if_icmp .ge 9, 3) := by decide +kernel
theorem dX10_twoCars_67 : decode cX10_twoCars 67 = .ok (.iload_n 2, 1) := by decide +kernel
theorem dX10_twoCars_68 : decode cX10_twoCars 68 = .ok (.iconst 1, 1) := by decide +kernel
theorem dX10_twoCars_69 : decode cX10_twoCars 69 = .ok (.iload_n 3, 1) := by decide +kernel
theorem dX10_twoCars_70 : decode cX10_twoCars 70 = .ok (.ishl, 1) := by decide +kernel
theorem dX10_twoCars_71 : decode cX10_twoCars 71 = .ok (.ior, 1) := by decide +kernel
theorem dX10_twoCars_72 : decode cX10_twoCars 72 = .ok (.istore_n 2, 1) := by decide +kernel
theorem dX10_twoCars_73 : decode cX10_twoCars 73 = .ok (.iinc 3 1, 3) := by decide +kernel
theorem dX10_twoCars_76 : decode cX10_twoCars 76 = .ok (.goto (-45), 3) := by decide +kernel
theorem dX10_twoCars_79 : decode cX10_twoCars 79 = .ok (.iload_n 2, 1) := by decide +kernel
theorem dX10_twoCars_80 : decode cX10_twoCars 80 = .ok (.ireturn, 1) := by decide +kernel
theorem dX10_image_0 : decode cX10_image 0 = .ok (.aload_n 0, 1) := by decide +kernel
theorem dX10_image_1 : decode cX10_image 1 = .ok (.getfield 19, 3) := by decide +kernel
theorem dX10_image_4 : decode cX10_image 4 = .ok (.aload_n 0, 1) := by decide +kernel
theorem dX10_image_5 : decode cX10_image 5 = .ok (.getfield 10, 3) := by decide +kernel
theorem dX10_image_8 : decode cX10_image 8 = .ok (.invokevirtual 77, 3) := by decide +kernel
theorem dX10_image_11 : decode cX10_image 11 = .ok (.aload_n 0, 1) := by decide +kernel
theorem dX10_image_12 : decode cX10_image 12 = .ok (.iconst 1, 1) := by decide +kernel
theorem dX10_image_13 : decode cX10_image 13 = .ok (.putfield 405, 3) := by decide +kernel
theorem dX10_image_16 : decode cX10_image 16 = .ok (.aload_n 0, 1) := by decide +kernel
theorem dX10_image_17 : decode cX10_image 17 = .ok (.getfield 10, 3) := by decide +kernel
theorem dX10_image_20 : decode cX10_image 20 = .ok (.getfield 129, 3) := by decide +kernel
theorem dX10_image_23 : decode cX10_image 23 = .ok (.getfield 165, 3) := by decide +kernel
theorem dX10_image_26 : decode cX10_image 26 = .ok (.ireturn, 1) := by decide +kernel
theorem dX10_restore_0 : decode cX10_restore 0 = .ok (.aload_n 0, 1) := by decide +kernel
theorem dX10_restore_1 : decode cX10_restore 1 = .ok (.getfield 405, 3) := by decide +kernel
theorem dX10_restore_4 : decode cX10_restore 4 = .ok (.ifCond .ne 10, 3) := by decide +kernel
theorem dX10_restore_7 : decode cX10_restore 7 = .ok (.aload_n 0, 1) := by decide +kernel
theorem dX10_restore_8 : decode cX10_restore 8 = .ok (.bipush (-3), 2) := by decide +kernel
theorem dX10_restore_10 : decode cX10_restore 10 = .ok (.invokevirtual 63, 3) := by decide +kernel
theorem dX10_restore_13 : decode cX10_restore 13 = .ok (.ireturn, 1) := by decide +kernel
theorem dX10_restore_14 : decode cX10_restore 14 = .ok (.aload_n 0, 1) := by decide +kernel
theorem dX10_restore_15 : decode cX10_restore 15 = .ok (.getfield 10, 3) := by decide +kernel
theorem dX10_restore_18 : decode cX10_restore 18 = .ok (.aload_n 0, 1) := by decide +kernel
theorem dX10_restore_19 : decode cX10_restore 19 = .ok (.getfield 19, 3) := by decide +kernel
theorem dX10_restore_22 : decode cX10_restore 22 = .ok (.invokevirtual 77, 3) := by decide +kernel
theorem dX10_restore_25 : decode cX10_restore 25 = .ok (.aload_n 0, 1) := by decide +kernel
theorem dX10_restore_26 : decode cX10_restore 26 = .ok (.getfield 25, 3) := by decide +kernel
theorem dX10_restore_29 : decode cX10_restore 29 = .ok (.invokevirtual 92, 3) := by decide +kernel
theorem dX10_restore_32 : decode cX10_restore 32 = .ok (.aload_n 0, 1) := by decide +kernel
theorem dX10_restore_33 : decode cX10_restore 33 = .ok (.getfield 10, 3) := by decide +kernel
theorem dX10_restore_36 : decode cX10_restore 36 = .ok (.getfield 129, 3) := by decide +kernel
theorem dX10_restore_39 : decode cX10_restore 39 = .ok (.getfield 165, 3) := by decide +kernel
theorem dX10_restore_42 : decode cX10_restore 42 = .ok (.ireturn, 1) := by decide +kernel
theorem dX10_count_0 : decode cX10_count 0 = .ok (.iload_n 1, 1) := by decide +kernel
theorem dX10_count_1 : decode cX10_count 1 = .ok (.tableswitch 228 0 18 #[91, 102, 113, 124, 135, 146, 157, 168, 179, 190, 201, 228, 228, 228, 228, 228, 228, 209, 220], 91) := by decide +kernel
theorem dX10_count_92 : decode cX10_count 92 = .ok (.aload_n 0, 1) := by decide +kernel
theorem dX10_count_93 : decode cX10_count 93 = .ok (.getfield 10, 3) := by decide +kernel
theorem dX10_count_96 : decode cX10_count 96 = .ok (.getfield 119, 3) := by decide +kernel
theorem dX10_count_99 : decode cX10_count 99 = .ok (.getfield 409, 3) := by decide +kernel
theorem dX10_count_102 : decode cX10_count 102 = .ok (.ireturn, 1) := by decide +kernel
theorem dX10_count_103 : decode cX10_count 103 = .ok (.aload_n 0, 1) := by decide +kernel
theorem dX10_count_104 : decode cX10_count 104 = .ok (.getfield 10, 3) := by decide +kernel
theorem dX10_count_107 : decode cX10_count 107 = .ok (.getfield 129, 3) := by decide +kernel
theorem dX10_count_110 : decode cX10_count 110 = .ok (.getfield 175, 3) := by decide +kernel
theorem dX10_count_113 : decode cX10_count 113 = .ok (.ireturn, 1) := by decide +kernel
theorem dX10_count_114 : decode cX10_count 114 = .ok (.aload_n 0, 1) := by decide +kernel
theorem dX10_count_115 : decode cX10_count 115 = .ok (.getfield 10, 3) := by decide +kernel
theorem dX10_count_118 : decode cX10_count 118 = .ok (.getfield 129, 3) := by decide +kernel
theorem dX10_count_121 : decode cX10_count 121 = .ok (.getfield 198, 3) := by decide +kernel
theorem dX10_count_124 : decode cX10_count 124 = .ok (.ireturn, 1) := by decide +kernel
theorem dX10_count_125 : decode cX10_count 125 = .ok (.aload_n 0, 1) := by decide +kernel
theorem dX10_count_126 : decode cX10_count 126 = .ok (.getfield 10, 3) := by decide +kernel
theorem dX10_count_129 : decode cX10_count 129 = .ok (.getfield 129, 3) := by decide +kernel
theorem dX10_count_132 : decode cX10_count 132 = .ok (.getfield 201, 3) := by decide +kernel
theorem dX10_count_135 : decode cX10_count 135 = .ok (.ireturn, 1) := by decide +kernel
theorem dX10_count_136 : decode cX10_count 136 = .ok (.aload_n 0, 1) := by decide +kernel
theorem dX10_count_137 : decode cX10_count 137 = .ok (.getfield 10, 3) := by decide +kernel
theorem dX10_count_140 : decode cX10_count 140 = .ok (.getfield 129, 3) := by decide +kernel
theorem dX10_count_143 : decode cX10_count 143 = .ok (.getfield 364, 3) := by decide +kernel
theorem dX10_count_146 : decode cX10_count 146 = .ok (.ireturn, 1) := by decide +kernel
theorem dX10_count_147 : decode cX10_count 147 = .ok (.aload_n 0, 1) := by decide +kernel
theorem dX10_count_148 : decode cX10_count 148 = .ok (.getfield 10, 3) := by decide +kernel
theorem dX10_count_151 : decode cX10_count 151 = .ok (.getfield 129, 3) := by decide +kernel
theorem dX10_count_154 : decode cX10_count 154 = .ok (.getfield 162, 3) := by decide +kernel
theorem dX10_count_157 : decode cX10_count 157 = .ok (.ireturn, 1) := by decide +kernel
theorem dX10_count_158 : decode cX10_count 158 = .ok (.aload_n 0, 1) := by decide +kernel
theorem dX10_count_159 : decode cX10_count 159 = .ok (.getfield 10, 3) := by decide +kernel
theorem dX10_count_162 : decode cX10_count 162 = .ok (.getfield 129, 3) := by decide +kernel
theorem dX10_count_165 : decode cX10_count 165 = .ok (.getfield 133, 3) := by decide +kernel
theorem dX10_count_168 : decode cX10_count 168 = .ok (.ireturn, 1) := by decide +kernel
theorem dX10_count_169 : decode cX10_count 169 = .ok (.aload_n 0, 1) := by decide +kernel
theorem dX10_count_170 : decode cX10_count 170 = .ok (.getfield 10, 3) := by decide +kernel
theorem dX10_count_173 : decode cX10_count 173 = .ok (.getfield 129, 3) := by decide +kernel
theorem dX10_count_176 : decode cX10_count 176 = .ok (.getfield 412, 3) := by decide +kernel
theorem dX10_count_179 : decode cX10_count 179 = .ok (.ireturn, 1) := by decide +kernel
theorem dX10_count_180 : decode cX10_count 180 = .ok (.aload_n 0, 1) := by decide +kernel
theorem dX10_count_181 : decode cX10_count 181 = .ok (.getfield 10, 3) := by decide +kernel
theorem dX10_count_184 : decode cX10_count 184 = .ok (.getfield 129, 3) := by decide +kernel
theorem dX10_count_187 : decode cX10_count 187 = .ok (.getfield 165, 3) := by decide +kernel
theorem dX10_count_190 : decode cX10_count 190 = .ok (.ireturn, 1) := by decide +kernel
theorem dX10_count_191 : decode cX10_count 191 = .ok (.aload_n 0, 1) := by decide +kernel
theorem dX10_count_192 : decode cX10_count 192 = .ok (.getfield 32, 3) := by decide +kernel
theorem dX10_count_195 : decode cX10_count 195 = .ok (.getfield 67, 3) := by decide +kernel
theorem dX10_count_198 : decode cX10_count 198 = .ok (.getfield 304, 3) := by decide +kernel
theorem dX10_count_201 : decode cX10_count 201 = .ok (.ireturn, 1) := by decide +kernel
theorem dX10_count_202 : decode cX10_count 202 = .ok (.aload_n 0, 1) := by decide +kernel
theorem dX10_count_203 : decode cX10_count 203 = .ok (.getfield 41, 3) := by decide +kernel
theorem dX10_count_206 : decode cX10_count 206 = .ok (.getfield 304, 3) := by decide +kernel
theorem dX10_count_209 : decode cX10_count 209 = .ok (.ireturn, 1) := by decide +kernel
theorem dX10_count_210 : decode cX10_count 210 = .ok (.aload_n 0, 1) := by decide +kernel
theorem dX10_count_211 : decode cX10_count 211 = .ok (.getfield 10, 3) := by decide +kernel
theorem dX10_count_214 : decode cX10_count 214 = .ok (.getfield 279, 3) := by decide +kernel
theorem dX10_count_217 : decode cX10_count 217 = .ok (.getfield 294, 3) := by decide +kernel
theorem dX10_count_220 : decode cX10_count 220 = .ok (.ireturn, 1) := by decide +kernel
theorem dX10_count_221 : decode cX10_count 221 = .ok (.aload_n 0, 1) := by decide +kernel
theorem dX10_count_222 : decode cX10_count 222 = .ok (.getfield 25, 3) := by decide +kernel
theorem dX10_count_225 : decode cX10_count 225 = .ok (.getfield 178, 3) := by decide +kernel
theorem dX10_count_228 : decode cX10_count 228 = .ok (.ireturn, 1) := by decide +kernel
theorem dX10_count_229 : decode cX10_count 229 = .ok (.iload_n 1, 1) := by decide +kernel
theorem dX10_count_230 : decode cX10_count 230 = .ok (.bipush 11, 2) := by decide +kernel
theorem dX10_count_232 : decode cX10_count 232 = .ok (.if_icmp .lt 21, 3) := by decide +kernel
theorem dX10_count_235 : decode cX10_count 235 = .ok (.iload_n 1, 1) := by decide +kernel
theorem dX10_count_236 : decode cX10_count 236 = .ok (.bipush 16, 2) := by decide +kernel
theorem dX10_count_238 : decode cX10_count 238 = .ok (.if_icmp .gt 15, 3) := by decide +kernel
theorem dX10_count_241 : decode cX10_count 241 = .ok (.aload_n 0, 1) := by decide +kernel
theorem dX10_count_242 : decode cX10_count 242 = .ok (.getfield 45, 3) := by decide +kernel
theorem dX10_count_245 : decode cX10_count 245 = .ok (.iload_n 1, 1) := by decide +kernel
theorem dX10_count_246 : decode cX10_count 246 = .ok (.bipush 10, 2) := by decide +kernel
theorem dX10_count_248 : decode cX10_count 248 = .ok (.isub, 1) := by decide +kernel
theorem dX10_count_249 : decode cX10_count 249 = .ok (.iaload, 1) := by decide +kernel
theorem dX10_count_250 : decode cX10_count 250 = .ok (.goto 5, 3) := by decide +kernel
theorem dX10_count_253 : decode cX10_count 253 = .ok (.bipush (-9), 2) := by decide +kernel
theorem dX10_count_255 : decode cX10_count 255 = .ok (.ireturn, 1) := by decide +kernel
theorem dX10_refuse_0 : decode cX10_refuse 0 = .ok (.iload_n 1, 1) := by decide +kernel
theorem dX10_refuse_1 : decode cX10_refuse 1 = .ok (.ineg, 1) := by decide +kernel
theorem dX10_refuse_2 : decode cX10_refuse 2 = .ok (.istore_n 2, 1) := by decide +kernel
theorem dX10_refuse_3 : decode cX10_refuse 3 = .ok (.iload_n 2, 1) := by decide +kernel
theorem dX10_refuse_4 : decode cX10_refuse 4 = .ok (.ifCond .le 22, 3) := by decide +kernel
theorem dX10_refuse_7 : decode cX10_refuse 7 = .ok (.iload_n 2, 1) := by decide +kernel
theorem dX10_refuse_8 : decode cX10_refuse 8 = .ok (.aload_n 0, 1) := by decide +kernel
theorem dX10_refuse_9 : decode cX10_refuse 9 = .ok (.getfield 45, 3) := by decide +kernel
theorem dX10_refuse_12 : decode cX10_refuse 12 = .ok (.arraylength, 1) := by decide +kernel
theorem dX10_refuse_13 : decode cX10_refuse 13 = .ok (.if_icmp .ge 13, 3) := by decide +kernel
theorem dX10_refuse_16 : decode cX10_refuse 16 = .ok (.aload_n 0, 1) := by decide +kernel
theorem dX10_refuse_17 : decode cX10_refuse 17 = .ok (.getfield 45, 3) := by decide +kernel
theorem dX10_refuse_20 : decode cX10_refuse 20 = .ok (.iload_n 2, 1) := by decide +kernel
theorem dX10_refuse_21 : decode cX10_refuse 21 = .ok (.dup2, 1) := by decide +kernel
theorem dX10_refuse_22 : decode cX10_refuse 22 = .ok (.iaload, 1) := by decide +kernel
theorem dX10_refuse_23 : decode cX10_refuse 23 = .ok (.iconst 1, 1) := by decide +kernel
theorem dX10_refuse_24 : decode cX10_refuse 24 = .ok (.iadd, 1) := by decide +kernel
theorem dX10_refuse_25 : decode cX10_refuse 25 = .ok (.iastore, 1) := by decide +kernel
theorem dX10_refuse_26 : decode cX10_refuse 26 = .ok (.iload_n 1, 1) := by decide +kernel
theorem dX10_refuse_27 : decode cX10_refuse 27 = .ok (.ireturn, 1) := by decide +kernel
theorem dX10_planRefusal_0 : decode cX10_planRefusal 0 = .ok (.iload_n 0, 1) := by decide +kernel
theorem dX10_planRefusal_1 : decode cX10_planRefusal 1 = .ok (.ifCond .lt 7, 3) := by decide +kernel
theorem dX10_planRefusal_4 : decode cX10_planRefusal 4 = .ok (.iload_n 1, 1) := by decide +kernel
theorem dX10_planRefusal_5 : decode cX10_planRefusal 5 = .ok (.ifCond .ge 6, 3) := by decide +kernel
theorem dX10_planRefusal_8 : decode cX10_planRefusal 8 = .ok (.bipush (-4), 2) := by decide +kernel
theorem dX10_planRefusal_10 : decode cX10_planRefusal 10 = .ok (.ireturn, 1) := by decide +kernel
theorem dX10_planRefusal_11 : decode cX10_planRefusal 11 = .ok (.iload_n 0, 1) := by decide +kernel
theorem dX10_planRefusal_12 : decode cX10_planRefusal 12 = .ok (.bipush 30, 2) := by decide +kernel
theorem dX10_planRefusal_14 : decode cX10_planRefusal 14 = .ok (.if_icmp .gt 8, 3) := by decide +kernel
theorem dX10_planRefusal_17 : decode cX10_planRefusal 17 = .ok (.iload_n 1, 1) := by decide +kernel
theorem dX10_planRefusal_18 : decode cX10_planRefusal 18 = .ok (.iconst 5, 1) := by decide +kernel
theorem dX10_planRefusal_19 : decode cX10_planRefusal 19 = .ok (.if_icmp .le 6, 3) := by decide +kernel
theorem dX10_planRefusal_22 : decode cX10_planRefusal 22 = .ok (.bipush (-6), 2) := by decide +kernel
theorem dX10_planRefusal_24 : decode cX10_planRefusal 24 = .ok (.ireturn, 1) := by decide +kernel
theorem dX10_planRefusal_25 : decode cX10_planRefusal 25 = .ok (.iload_n 2, 1) := by decide +kernel
theorem dX10_planRefusal_26 : decode cX10_planRefusal 26 = .ok (.ifCond .lt 8, 3) := by decide +kernel
theorem dX10_planRefusal_29 : decode cX10_planRefusal 29 = .ok (.iload_n 2, 1) := by decide +kernel
theorem dX10_planRefusal_30 : decode cX10_planRefusal 30 = .ok (.iload_n 3, 1) := by decide +kernel
theorem dX10_planRefusal_31 : decode cX10_planRefusal 31 = .ok (.if_icmp .le 8, 3) := by decide +kernel
theorem dX10_planRefusal_34 : decode cX10_planRefusal 34 = .ok (.bipush (-2), 2) := by decide +kernel
theorem dX10_planRefusal_36 : decode cX10_planRefusal 36 = .ok (.goto 4, 3) := by decide +kernel
theorem dX10_planRefusal_39 : decode cX10_planRefusal 39 = .ok (.iconst 0, 1) := by decide +kernel
theorem dX10_planRefusal_40 : decode cX10_planRefusal 40 = .ok (.ireturn, 1) := by decide +kernel
theorem dX10_isField_0 : decode cX10_isField 0 = .ok (.iload_n 1, 1) := by decide +kernel
theorem dX10_isField_1 : decode cX10_isField 1 = .ok (.ifCond .lt 21, 3) := by decide +kernel
theorem dX10_isField_4 : decode cX10_isField 4 = .ok (.iload_n 1, 1) := by decide +kernel
theorem dX10_isField_5 : decode cX10_isField 5 = .ok (.aload_n 0, 1) := by decide +kernel
theorem dX10_isField_6 : decode cX10_isField 6 = .ok (.getfield 10, 3) := by decide +kernel
theorem dX10_isField_9 : decode cX10_isField 9 = .ok (.getfield 119, 3) := by decide +kernel
theorem dX10_isField_12 : decode cX10_isField 12 = .ok (.getfield 409, 3) := by decide +kernel
theorem dX10_isField_15 : decode cX10_isField 15 = .ok (.if_icmp .ge 7, 3) := by decide +kernel
theorem dX10_isField_18 : decode cX10_isField 18 = .ok (.iconst 1, 1) := by decide +kernel
theorem dX10_isField_19 : decode cX10_isField 19 = .ok (.goto 4, 3) := by decide +kernel
theorem dX10_isField_22 : decode cX10_isField 22 = .ok (.iconst 0, 1) := by decide +kernel
theorem dX10_isField_23 : decode cX10_isField 23 = .ok (.ireturn, 1) := by decide +kernel
theorem dX10_isLayer_0 : decode cX10_isLayer 0 = .ok (.iload_n 0, 1) := by decide +kernel
theorem dX10_isLayer_1 : decode cX10_isLayer 1 = .ok (.ifCond .lt 13, 3) := by decide +kernel
theorem dX10_isLayer_4 : decode cX10_isLayer 4 = .ok (.iload_n 0, 1) := by decide +kernel
theorem dX10_isLayer_5 : decode cX10_isLayer 5 = .ok (.bipush 8, 2) := by decide +kernel
theorem dX10_isLayer_7 : decode cX10_isLayer 7 = .ok (.if_icmp .ge 7, 3) := by decide +kernel
theorem dX10_isLayer_10 : decode cX10_isLayer 10 = .ok (.iconst 1, 1) := by decide +kernel
theorem dX10_isLayer_11 : decode cX10_isLayer 11 = .ok (.goto 4, 3) := by decide +kernel
theorem dX10_isLayer_14 : decode cX10_isLayer 14 = .ok (.iconst 0, 1) := by decide +kernel
theorem dX10_isLayer_15 : decode cX10_isLayer 15 = .ok (.ireturn, 1) := by decide +kernel
theorem dX10_isPlace_0 : decode cX10_isPlace 0 = .ok (.iload_n 0, 1) := by decide +kernel
theorem dX10_isPlace_1 : decode cX10_isPlace 1 = .ok (.ifCond .lt 13, 3) := by decide +kernel
theorem dX10_isPlace_4 : decode cX10_isPlace 4 = .ok (.iload_n 0, 1) := by decide +kernel
theorem dX10_isPlace_5 : decode cX10_isPlace 5 = .ok (.bipush 8, 2) := by decide +kernel
theorem dX10_isPlace_7 : decode cX10_isPlace 7 = .ok (.if_icmp .ge 7, 3) := by decide +kernel
theorem dX10_isPlace_10 : decode cX10_isPlace 10 = .ok (.iconst 1, 1) := by decide +kernel
theorem dX10_isPlace_11 : decode cX10_isPlace 11 = .ok (.goto 4, 3) := by decide +kernel
theorem dX10_isPlace_14 : decode cX10_isPlace 14 = .ok (.iconst 0, 1) := by decide +kernel
theorem dX10_isPlace_15 : decode cX10_isPlace 15 = .ok (.ireturn, 1) := by decide +kernel
theorem dX10_areTwoPlaces_0 : decode cX10_areTwoPlaces 0 = .ok (.iload_n 0, 1) := by decide +kernel
theorem dX10_areTwoPlaces_1 : decode cX10_areTwoPlaces 1 = .ok (.invokestatic 291, 3) := by decide +kernel
theorem dX10_areTwoPlaces_4 : decode cX10_areTwoPlaces 4 = .ok (.ifCond .eq 19, 3) := by decide +kernel
theorem dX10_areTwoPlaces_7 : decode cX10_areTwoPlaces 7 = .ok (.iload_n 1, 1) := by decide +kernel
theorem dX10_areTwoPlaces_8 : decode cX10_areTwoPlaces 8 = .ok (.invokestatic 291, 3) := by decide +kernel
theorem dX10_areTwoPlaces_11 : decode cX10_areTwoPlaces 11 = .ok (.ifCond .eq 12, 3) := by decide +kernel
theorem dX10_areTwoPlaces_14 : decode cX10_areTwoPlaces 14 = .ok (.iload_n 0, 1) := by decide +kernel
theorem dX10_areTwoPlaces_15 : decode cX10_areTwoPlaces 15 = .ok (.iload_n 1, 1) := by decide +kernel
theorem dX10_areTwoPlaces_16 : decode cX10_areTwoPlaces 16 = .ok (.if_icmp .eq 7, 3) := by decide +kernel
theorem dX10_areTwoPlaces_19 : decode cX10_areTwoPlaces 19 = .ok (.iconst 1, 1) := by decide +kernel
theorem dX10_areTwoPlaces_20 : decode cX10_areTwoPlaces 20 = .ok (.goto 4, 3) := by decide +kernel
theorem dX10_areTwoPlaces_23 : decode cX10_areTwoPlaces 23 = .ok (.iconst 0, 1) := by decide +kernel
theorem dX10_areTwoPlaces_24 : decode cX10_areTwoPlaces 24 = .ok (.ireturn, 1) := by decide +kernel
theorem dX10_between_0 : decode cX10_between 0 = .ok (.iload_n 1, 1) := by decide +kernel
theorem dX10_between_1 : decode cX10_between 1 = .ok (.iload_n 0, 1) := by decide +kernel
theorem dX10_between_2 : decode cX10_between 2 = .ok (.if_icmp .ge 7, 3) := by decide +kernel
theorem dX10_between_5 : decode cX10_between 5 = .ok (.iload_n 0, 1) := by decide +kernel
theorem dX10_between_6 : decode cX10_between 6 = .ok (.goto 13, 3) := by decide +kernel
theorem dX10_between_9 : decode cX10_between 9 = .ok (.iload_n 1, 1) := by decide +kernel
theorem dX10_between_10 : decode cX10_between 10 = .ok (.iload_n 2, 1) := by decide +kernel
theorem dX10_between_11 : decode cX10_between 11 = .ok (.if_icmp .le 7, 3) := by decide +kernel
theorem dX10_between_14 : decode cX10_between 14 = .ok (.iload_n 2, 1) := by decide +kernel
theorem dX10_between_15 : decode cX10_between 15 = .ok (.goto 4, 3) := by decide +kernel
theorem dX10_between_18 : decode cX10_between 18 = .ok (.iload_n 1, 1) := by decide +kernel
theorem dX10_between_19 : decode cX10_between 19 = .ok (.ireturn, 1) := by decide +kernel
theorem dX10_sharedMeasure_0 : decode cX10_sharedMeasure 0 = .ok (.iload_n 0, 1) := by decide +kernel
theorem dX10_sharedMeasure_1 : decode cX10_sharedMeasure 1 = .ok (.istore_n 2, 1) := by decide +kernel
theorem dX10_sharedMeasure_2 : decode cX10_sharedMeasure 2 = .ok (.iload_n 1, 1) := by decide +kernel
theorem dX10_sharedMeasure_3 : decode cX10_sharedMeasure 3 = .ok (.istore_n 3, 1) := by decide +kernel
theorem dX10_sharedMeasure_4 : decode cX10_sharedMeasure 4 = .ok (.iconst 0, 1) := by decide +kernel
theorem dX10_sharedMeasure_5 : decode cX10_sharedMeasure 5 = .ok (.istore 4, 2) := by decide +kernel
theorem dX10_sharedMeasure_7 : decode cX10_sharedMeasure 7 = .ok (.iload 4, 2) := by decide +kernel
theorem dX10_sharedMeasure_9 : decode cX10_sharedMeasure 9 = .ok (.bipush 100, 2) := by decide +kernel
theorem dX10_sharedMeasure_11 : decode cX10_sharedMeasure 11 = .ok (.if_icmp .ge 23, 3) := by decide +kernel
theorem dX10_sharedMeasure_14 : decode cX10_sharedMeasure 14 = .ok (.iload_n 3, 1) := by decide +kernel
theorem dX10_sharedMeasure_15 : decode cX10_sharedMeasure 15 = .ok (.ifCond .le 19, 3) := by decide +kernel
theorem dX10_sharedMeasure_18 : decode cX10_sharedMeasure 18 = .ok (.iload_n 2, 1) := by decide +kernel
theorem dX10_sharedMeasure_19 : decode cX10_sharedMeasure 19 = .ok (.iload_n 3, 1) := by decide +kernel
theorem dX10_sharedMeasure_20 : decode cX10_sharedMeasure 20 = .ok (.irem, 1) := by decide +kernel
theorem dX10_sharedMeasure_21 : decode cX10_sharedMeasure 21 = .ok (.istore 5, 2) := by decide +kernel
theorem dX10_sharedMeasure_23 : decode cX10_sharedMeasure 23 = .ok (.iload_n 3, 1) := by decide +kernel
theorem dX10_sharedMeasure_24 : decode cX10_sharedMeasure 24 = .ok (.istore_n 2, 1) := by decide +kernel
theorem dX10_sharedMeasure_25 : decode cX10_sharedMeasure 25 = .ok (.iload 5, 2) := by decide +kernel
theorem dX10_sharedMeasure_27 : decode cX10_sharedMeasure 27 = .ok (.istore_n 3, 1) := by decide +kernel
theorem dX10_sharedMeasure_28 : decode cX10_sharedMeasure 28 = .ok (.iinc 4 1, 3) := by decide +kernel
theorem dX10_sharedMeasure_31 : decode cX10_sharedMeasure 31 = .ok (.goto (-24), 3) := by decide +kernel
theorem dX10_sharedMeasure_34 : decode cX10_sharedMeasure 34 = .ok (.iload_n 2, 1) := by decide +kernel
theorem dX10_sharedMeasure_35 : decode cX10_sharedMeasure 35 = .ok (.ireturn, 1) := by decide +kernel
theorem dX11_init_0 : decode cX11_init 0 = .ok (.aload_n 0, 1) := by decide +kernel
theorem dX11_init_1 : decode cX11_init 1 = .ok (.invokespecial 1, 3) := by decide +kernel
theorem dX11_init_4 : decode cX11_init 4 = .ok (.aload_n 0, 1) := by decide +kernel
theorem dX11_init_5 : decode cX11_init 5 = .ok (.bipush 8, 2) := by decide +kernel
theorem dX11_init_7 : decode cX11_init 7 = .ok (.newarray .int, 2) := by decide +kernel
theorem dX11_init_9 : decode cX11_init 9 = .ok (.putfield 7, 3) := by decide +kernel
theorem dX11_init_12 : decode cX11_init 12 = .ok (.aload_n 0, 1) := by decide +kernel
theorem dX11_init_13 : decode cX11_init 13 = .ok (.bipush 8, 2) := by decide +kernel
theorem dX11_init_15 : decode cX11_init 15 = .ok (.newarray .int, 2) := by decide +kernel
theorem dX11_init_17 : decode cX11_init 17 = .ok (.putfield 13, 3) := by decide +kernel
theorem dX11_init_20 : decode cX11_init 20 = .ok (.aload_n 0, 1) := by decide +kernel
theorem dX11_init_21 : decode cX11_init 21 = .ok (.bipush 100, 2) := by decide +kernel
theorem dX11_init_23 : decode cX11_init 23 = .ok (.putfield 16, 3) := by decide +kernel
theorem dX11_init_26 : decode cX11_init 26 = .ok (.aload_n 0, 1) := by decide +kernel
theorem dX11_init_27 : decode cX11_init 27 = .ok (.bipush 20, 2) := by decide +kernel
theorem dX11_init_29 : decode cX11_init 29 = .ok (.putfield 20, 3) := by decide +kernel
theorem dX11_init_32 : decode cX11_init 32 = .ok (.aload_n 0, 1) := by decide +kernel
theorem dX11_init_33 : decode cX11_init 33 = .ok (.bipush 30, 2) := by decide +kernel
theorem dX11_init_35 : decode cX11_init 35 = .ok (.putfield 23, 3) := by decide +kernel
theorem dX11_init_38 : decode cX11_init 38 = .ok (.aload_n 0, 1) := by decide +kernel
theorem dX11_init_39 : decode cX11_init 39 = .ok (.iconst 4, 1) := by decide +kernel
theorem dX11_init_40 : decode cX11_init 40 = .ok (.putfield 26, 3) := by decide +kernel
theorem dX11_init_43 : decode cX11_init 43 = .ok (.aload_n 0, 1) := by decide +kernel
theorem dX11_init_44 : decode cX11_init 44 = .ok (.iconst 2, 1) := by decide +kernel
theorem dX11_init_45 : decode cX11_init 45 = .ok (.putfield 29, 3) := by decide +kernel
theorem dX11_init_48 : decode cX11_init 48 = .ok (.aload_n 0, 1) := by decide +kernel
theorem dX11_init_49 : decode cX11_init 49 = .ok (.bipush 6, 2) := by decide +kernel
theorem dX11_init_51 : decode cX11_init 51 = .ok (.newarray .int, 2) := by decide +kernel
theorem dX11_init_53 : decode cX11_init 53 = .ok (.putfield 32, 3) := by decide +kernel
theorem dX11_init_56 : decode cX11_init 56 = .ok (.aload_n 0, 1) := by decide +kernel
theorem dX11_init_57 : decode cX11_init 57 = .ok (.bipush 8, 2) := by decide +kernel
theorem dX11_init_59 : decode cX11_init 59 = .ok (.newarray .int, 2) := by decide +kernel
theorem dX11_init_61 : decode cX11_init 61 = .ok (.putfield 35, 3) := by decide +kernel
theorem dX11_init_64 : decode cX11_init 64 = .ok (.aload_n 0, 1) := by decide +kernel
theorem dX11_init_65 : decode cX11_init 65 = .ok (.bipush 8, 2) := by decide +kernel
theorem dX11_init_67 : decode cX11_init 67 = .ok (.newarray .int, 2) := by decide +kernel
theorem dX11_init_69 : decode cX11_init 69 = .ok (.putfield 38, 3) := by decide +kernel
theorem dX11_init_72 : decode cX11_init 72 = .ok (.aload_n 0, 1) := by decide +kernel
theorem dX11_init_73 : decode cX11_init 73 = .ok (.bipush 8, 2) := by decide +kernel
theorem dX11_init_75 : decode cX11_init 75 = .ok (.newarray .int, 2) := by decide +kernel
theorem dX11_init_77 : decode cX11_init 77 = .ok (.putfield 41, 3) := by decide +kernel
theorem dX11_init_80 : decode cX11_init 80 = .ok (.aload_n 0, 1) := by decide +kernel
theorem dX11_init_81 : decode cX11_init 81 = .ok (.bipush 8, 2) := by decide +kernel
theorem dX11_init_83 : decode cX11_init 83 = .ok (.newarray .int, 2) := by decide +kernel
theorem dX11_init_85 : decode cX11_init 85 = .ok (.putfield 44, 3) := by decide +kernel
theorem dX11_init_88 : decode cX11_init 88 = .ok (.aload_n 0, 1) := by decide +kernel
theorem dX11_init_89 : decode cX11_init 89 = .ok (.bipush 8, 2) := by decide +kernel
theorem dX11_init_91 : decode cX11_init 91 = .ok (.newarray .int, 2) := by decide +kernel
theorem dX11_init_93 : decode cX11_init 93 = .ok (.putfield 47, 3) := by decide +kernel
theorem dX11_init_96 : decode cX11_init 96 = .ok (.aload_n 0, 1) := by decide +kernel
theorem dX11_init_97 : decode cX11_init 97 = .ok (.bipush 64, 2) := by decide +kernel
theorem dX11_init_99 : decode cX11_init 99 = .ok (.newarray .int, 2) := by decide +kernel
theorem dX11_init_101 : decode cX11_init 101 = .ok (.putfield 50, 3) := by decide +kernel
theorem dX11_init_104 : decode cX11_init 104 = .ok (.aload_n 0, 1) := by decide +kernel
theorem dX11_init_105 : decode cX11_init 105 = .ok (.bipush 7, 2) := by decide +kernel
theorem dX11_init_107 : decode cX11_init 107 = .ok (.newarray .int, 2) := by decide +kernel
theorem dX11_init_109 : decode cX11_init 109 = .ok (.putfield 53, 3) := by decide +kernel
theorem dX11_init_112 : decode cX11_init 112 = .ok (.aload_n 0, 1) := by decide +kernel
theorem dX11_init_113 : decode cX11_init 113 = .ok (.bipush 96, 2) := by decide +kernel
theorem dX11_init_115 : decode cX11_init 115 = .ok (.newarray .int, 2) := by decide +kernel
theorem dX11_init_117 : decode cX11_init 117 = .ok (.putfield 56, 3) := by decide +kernel
theorem dX11_init_120 : decode cX11_init 120 = .ok (.aload_n 0, 1) := by decide +kernel
theorem dX11_init_121 : decode cX11_init 121 = .ok (.bipush 49, 2) := by decide +kernel
theorem dX11_init_123 : decode cX11_init 123 = .ok (.newarray .int, 2) := by decide +kernel
theorem dX11_init_125 : decode cX11_init 125 = .ok (.putfield 59, 3) := by decide +kernel
theorem dX11_init_128 : decode cX11_init 128 = .ok (.aload_n 0, 1) := by decide +kernel
theorem dX11_init_129 : decode cX11_init 129 = .ok (.bipush 49, 2) := by decide +kernel
theorem dX11_init_131 : decode cX11_init 131 = .ok (.newarray .int, 2) := by decide +kernel
theorem dX11_init_133 : decode cX11_init 133 = .ok (.putfield 62, 3) := by decide +kernel
theorem dX11_init_136 : decode cX11_init 136 = .ok (.aload_n 0, 1) := by decide +kernel
theorem dX11_init_137 : decode cX11_init 137 = .ok (.sipush 441, 3) := by decide +kernel
theorem dX11_init_140 : decode cX11_init 140 = .ok (.newarray .int, 2) := by decide +kernel
theorem dX11_init_142 : decode cX11_init 142 = .ok (.putfield 65, 3) := by decide +kernel
theorem dX11_init_145 : decode cX11_init 145 = .ok (.aload_n 0, 1) := by decide +kernel
theorem dX11_init_146 : decode cX11_init 146 = .ok (.bipush 49, 2) := by decide +kernel
theorem dX11_init_148 : decode cX11_init 148 = .ok (.newarray .int, 2) := by decide +kernel
theorem dX11_init_150 : decode cX11_init 150 = .ok (.putfield 68, 3) := by decide +kernel
theorem dX11_init_153 : decode cX11_init 153 = .ok (.aload_n 0, 1) := by decide +kernel
theorem dX11_init_154 : decode cX11_init 154 = .ok (.sipush 138, 3) := by decide +kernel
theorem dX11_init_157 : decode cX11_init 157 = .ok (.newarray .int, 2) := by decide +kernel
theorem dX11_init_159 : decode cX11_init 159 = .ok (.putfield 71, 3) := by decide +kernel
theorem dX11_init_162 : decode cX11_init 162 = .ok (.aload_n 0, 1) := by decide +kernel
theorem dX11_init_163 : decode cX11_init 163 = .ok (.sipush 138, 3) := by decide +kernel
theorem dX11_init_166 : decode cX11_init 166 = .ok (.newarray .int, 2) := by decide +kernel
theorem dX11_init_168 : decode cX11_init 168 = .ok (.putfield 74, 3) := by decide +kernel
theorem dX11_init_171 : decode cX11_init 171 = .ok (.aload_n 0, 1) := by decide +kernel
theorem dX11_init_172 : decode cX11_init 172 = .ok (.bipush 14, 2) := by decide +kernel
theorem dX11_init_174 : decode cX11_init 174 = .ok (.newarray .int, 2) := by decide +kernel
theorem dX11_init_176 : decode cX11_init 176 = .ok (.putfield 77, 3) := by decide +kernel
theorem dX11_init_179 : decode cX11_init 179 = .ok (.aload_n 0, 1) := by decide +kernel
theorem dX11_init_180 : decode cX11_init 180 = .ok (.bipush 112, 2) := by decide +kernel
theorem dX11_init_182 : decode cX11_init 182 = .ok (.newarray .int, 2) := by decide +kernel
theorem dX11_init_184 : decode cX11_init 184 = .ok (.putfield 80, 3) := by decide +kernel
theorem dX11_init_187 : decode cX11_init 187 = .ok (.aload_n 0, 1) := by decide +kernel
theorem dX11_init_188 : decode cX11_init 188 = .ok (.bipush 14, 2) := by decide +kernel
theorem dX11_init_190 : decode cX11_init 190 = .ok (.newarray .int, 2) := by decide +kernel
theorem dX11_init_192 : decode cX11_init 192 = .ok (.putfield 83, 3) := by decide +kernel
theorem dX11_init_195 : decode cX11_init 195 = .ok (.aload_n 0, 1) := by decide +kernel
theorem dX11_init_196 : decode cX11_init 196 = .ok (.bipush 14, 2) := by decide +kernel
theorem dX11_init_198 : decode cX11_init 198 = .ok (.newarray .int, 2) := by decide +kernel
theorem dX11_init_200 : decode cX11_init 200 = .ok (.putfield 86, 3) := by decide +kernel
theorem dX11_init_203 : decode cX11_init 203 = .ok (.aload_n 0, 1) := by decide +kernel
theorem dX11_init_204 : decode cX11_init 204 = .ok (.bipush 8, 2) := by decide +kernel
theorem dX11_init_206 : decode cX11_init 206 = .ok (.newarray .int, 2) := by decide +kernel
theorem dX11_init_208 : decode cX11_init 208 = .ok (.putfield 89, 3) := by decide +kernel
theorem dX11_init_211 : decode cX11_init 211 = .ok (.aload_n 0, 1) := by decide +kernel
theorem dX11_init_212 : decode cX11_init 212 = .ok (.bipush 6, 2) := by decide +kernel
theorem dX11_init_214 : decode cX11_init 214 = .ok (.newarray .int, 2) := by decide +kernel
theorem dX11_init_216 : decode cX11_init 216 = .ok (.putfield 92, 3) := by decide +kernel
theorem dX11_init_219 : decode cX11_init 219 = .ok (.aload_n 0, 1) := by decide +kernel
theorem dX11_init_220 : decode cX11_init 220 = .ok (.bipush 64, 2) := by decide +kernel
theorem dX11_init_222 : decode cX11_init 222 = .ok (.newarray .int, 2) := by decide +kernel
theorem dX11_init_224 : decode cX11_init 224 = .ok (.putfield 95, 3) := by decide +kernel
theorem dX11_init_227 : decode cX11_init 227 = .ok (.aload_n 0, 1) := by decide +kernel
theorem dX11_init_228 : decode cX11_init 228 = .ok (.sipush 2048, 3) := by decide +kernel
theorem dX11_init_231 : decode cX11_init 231 = .ok (.newarray .int, 2) := by decide +kernel
theorem dX11_init_233 : decode cX11_init 233 = .ok (.putfield 98, 3) := by decide +kernel
theorem dX11_init_236 : decode cX11_init 236 = .ok (.aload_n 0, 1) := by decide +kernel
theorem dX11_init_237 : decode cX11_init 237 = .ok (.bipush 12, 2) := by decide +kernel
theorem dX11_init_239 : decode cX11_init 239 = .ok (.newarray .int, 2) := by decide +kernel
theorem dX11_init_241 : decode cX11_init 241 = .ok (.putfield 101, 3) := by decide +kernel
theorem dX11_init_244 : decode cX11_init 244 = .ok (.aload_n 0, 1) := by decide +kernel
theorem dX11_init_245 : decode cX11_init 245 = .ok (.iconst 0, 1) := by decide +kernel
theorem dX11_init_246 : decode cX11_init 246 = .ok (.putfield 104, 3) := by decide +kernel
theorem dX11_init_249 : decode cX11_init 249 = .ok (.return_, 1) := by decide +kernel
theorem dX11_in_0 : decode cX11_in 0 = .ok (.lload_n 0, 1) := by decide +kernel
theorem dX11_in_1 : decode cX11_in 1 = .ok (.lload_n 2, 1) := by decide +kernel
theorem dX11_in_2 : decode cX11_in 2 = .ok (.lcmp, 1) := by decide +kernel
theorem dX11_in_3 : decode cX11_in 3 = .ok (.ifCond .lt 14, 3) := by decide +kernel
theorem dX11_in_6 : decode cX11_in 6 = .ok (.lload_n 0, 1) := by decide +kernel
theorem dX11_in_7 : decode cX11_in 7 = .ok (.lload 4, 2) := by decide +kernel
theorem dX11_in_9 : decode cX11_in 9 = .ok (.lcmp, 1) := by decide +kernel
theorem dX11_in_10 : decode cX11_in 10 = .ok (.ifCond .gt 7, 3) := by decide +kernel
theorem dX11_in_13 : decode cX11_in 13 = .ok (.iconst 1, 1) := by decide +kernel
theorem dX11_in_14 : decode cX11_in 14 = .ok (.goto 4, 3) := by decide +kernel
theorem dX11_in_17 : decode cX11_in 17 = .ok (.iconst 0, 1) := by decide +kernel
theorem dX11_in_18 : decode cX11_in 18 = .ok (.ireturn, 1) := by decide +kernel
theorem dX11_refuse_0 : decode cX11_refuse 0 = .ok (.aload_n 0, 1) := by decide +kernel
theorem dX11_refuse_1 : decode cX11_refuse 1 = .ok (.getfield 53, 3) := by decide +kernel
theorem dX11_refuse_4 : decode cX11_refuse 4 = .ok (.iload_n 1, 1) := by decide +kernel
theorem dX11_refuse_5 : decode cX11_refuse 5 = .ok (.ineg, 1) := by decide +kernel
theorem dX11_refuse_6 : decode cX11_refuse 6 = .ok (.dup2, 1) := by decide +kernel
theorem dX11_refuse_7 : decode cX11_refuse 7 = .ok (.iaload, 1) := by decide +kernel
theorem dX11_refuse_8 : decode cX11_refuse 8 = .ok (.iconst 1, 1) := by decide +kernel
theorem dX11_refuse_9 : decode cX11_refuse 9 = .ok (.iadd, 1) := by decide +kernel
theorem dX11_refuse_10 : decode cX11_refuse 10 = .ok (.iastore, 1) := by decide +kernel
theorem dX11_refuse_11 : decode cX11_refuse 11 = .ok (.iload_n 1, 1) := by decide +kernel
theorem dX11_refuse_12 : decode cX11_refuse 12 = .ok (.ireturn, 1) := by decide +kernel
theorem dX11_wrongNumber_0 : decode cX11_wrongNumber 0 = .ok (.iload_n 0, 1) := by decide +kernel
theorem dX11_wrongNumber_1 : decode cX11_wrongNumber 1 = .ok (.iload_n 1, 1) := by decide +kernel
theorem dX11_wrongNumber_2 : decode cX11_wrongNumber 2 = .ok (.if_icmp .ge 8, 3) := by decide +kernel
theorem dX11_wrongNumber_5 : decode cX11_wrongNumber 5 = .ok (.bipush (-4), 2) := by decide +kernel
theorem dX11_wrongNumber_7 : decode cX11_wrongNumber 7 = .ok (.goto 14, 3) := by decide +kernel
theorem dX11_wrongNumber_10 : decode cX11_wrongNumber 10 = .ok (.iload_n 0, 1) := by decide +kernel
theorem dX11_wrongNumber_11 : decode cX11_wrongNumber 11 = .ok (.iload_n 2, 1) := by decide +kernel
theorem dX11_wrongNumber_12 : decode cX11_wrongNumber 12 = .ok (.if_icmp .le 8, 3) := by decide +kernel
theorem dX11_wrongNumber_15 : decode cX11_wrongNumber 15 = .ok (.bipush (-6), 2) := by decide +kernel
theorem dX11_wrongNumber_17 : decode cX11_wrongNumber 17 = .ok (.goto 4, 3) := by decide +kernel
theorem dX11_wrongNumber_20 : decode cX11_wrongNumber 20 = .ok (.iconst 0, 1) := by decide +kernel
theorem dX11_wrongNumber_21 : decode cX11_wrongNumber 21 = .ok (.ireturn, 1) := by decide +kernel
theorem dX11_wrongBit_0 : decode cX11_wrongBit 0 = .ok (.iload_n 0, 1) := by decide +kernel
theorem dX11_wrongBit_1 : decode cX11_wrongBit 1 = .ok (.ifCond .ne 19, 3) := by decide +kernel
theorem dX11_wrongBit_4 : decode cX11_wrongBit 4 = .ok (.iload_n 1, 1) := by decide +kernel
theorem dX11_wrongBit_5 : decode cX11_wrongBit 5 = .ok (.i2l, 1) := by decide +kernel
theorem dX11_wrongBit_6 : decode cX11_wrongBit 6 = .ok (.lconst 0, 1) := by decide +kernel
theorem dX11_wrongBit_7 : decode cX11_wrongBit 7 = .ok (.iload_n 2, 1) := by decide +kernel
theorem dX11_wrongBit_8 : decode cX11_wrongBit 8 = .ok (.i2l, 1) := by decide +kernel
theorem dX11_wrongBit_9 : decode cX11_wrongBit 9 = .ok (.invokestatic 107, 3) := by decide +kernel
theorem dX11_wrongBit_12 : decode cX11_wrongBit 12 = .ok (.ifCond .ne 8, 3) := by decide +kernel
theorem dX11_wrongBit_15 : decode cX11_wrongBit 15 = .ok (.bipush (-2), 2) := by decide +kernel
theorem dX11_wrongBit_17 : decode cX11_wrongBit 17 = .ok (.goto 4, 3) := by decide +kernel
theorem dX11_wrongBit_20 : decode cX11_wrongBit 20 = .ok (.iload_n 0, 1) := by decide +kernel
theorem dX11_wrongBit_21 : decode cX11_wrongBit 21 = .ok (.ireturn, 1) := by decide +kernel
theorem dX11_held_0 : decode cX11_held 0 = .ok (.iload_n 0, 1) := by decide +kernel
theorem dX11_held_1 : decode cX11_held 1 = .ok (.ifCond .ge 7, 3) := by decide +kernel
theorem dX11_held_4 : decode cX11_held 4 = .ok (.iconst 0, 1) := by decide +kernel
theorem dX11_held_5 : decode cX11_held 5 = .ok (.goto 13, 3) := by decide +kernel
theorem dX11_held_8 : decode cX11_held 8 = .ok (.iload_n 0, 1) := by decide +kernel
theorem dX11_held_9 : decode cX11_held 9 = .ok (.iload_n 1, 1) := by decide +kernel
theorem dX11_held_10 : decode cX11_held 10 = .ok (.if_icmp .le 7, 3) := by decide +kernel
theorem dX11_held_13 : decode cX11_held 13 = .ok (.iload_n 1, 1) := by decide +kernel
theorem dX11_held_14 : decode cX11_held 14 = .ok (.goto 4, 3) := by decide +kernel
theorem dX11_held_17 : decode cX11_held 17 = .ok (.iload_n 0, 1) := by decide +kernel
theorem dX11_held_18 : decode cX11_held 18 = .ok (.ireturn, 1) := by decide +kernel
theorem dX11_plainly_0 : decode cX11_plainly 0 = .ok (.iload_n 0, 1) := by decide +kernel
theorem dX11_plainly_1 : decode cX11_plainly 1 = .ok (.ifCond .ge 8, 3) := by decide +kernel
theorem dX11_plainly_4 : decode cX11_plainly 4 = .ok (.iload_n 0, 1) := by decide +kernel
theorem dX11_plainly_5 : decode cX11_plainly 5 = .ok (.ineg, 1) := by decide +kernel
theorem dX11_plainly_6 : decode cX11_plainly 6 = .ok (.goto 4, 3) := by decide +kernel
theorem dX11_plainly_9 : decode cX11_plainly 9 = .ok (.iload_n 0, 1) := by decide +kernel
theorem dX11_plainly_10 : decode cX11_plainly 10 = .ok (.ireturn, 1) := by decide +kernel
theorem dX11_isField_0 : decode cX11_isField 0 = .ok (.iload_n 1, 1) := by decide +kernel
theorem dX11_isField_1 : decode cX11_isField 1 = .ok (.i2l, 1) := by decide +kernel
theorem dX11_isField_2 : decode cX11_isField 2 = .ok (.lconst 0, 1) := by decide +kernel
theorem dX11_isField_3 : decode cX11_isField 3 = .ok (.aload_n 0, 1) := by decide +kernel
theorem dX11_isField_4 : decode cX11_isField 4 = .ok (.getfield 111, 3) := by decide +kernel
theorem dX11_isField_7 : decode cX11_isField 7 = .ok (.iconst 1, 1) := by decide +kernel
theorem dX11_isField_8 : decode cX11_isField 8 = .ok (.isub, 1) := by decide +kernel
theorem dX11_isField_9 : decode cX11_isField 9 = .ok (.i2l, 1) := by decide +kernel
theorem dX11_isField_10 : decode cX11_isField 10 = .ok (.invokestatic 107, 3) := by decide +kernel
theorem dX11_isField_13 : decode cX11_isField 13 = .ok (.ireturn, 1) := by decide +kernel
theorem dX11_isPlace_0 : decode cX11_isPlace 0 = .ok (.iload_n 0, 1) := by decide +kernel
theorem dX11_isPlace_1 : decode cX11_isPlace 1 = .ok (.i2l, 1) := by decide +kernel
theorem dX11_isPlace_2 : decode cX11_isPlace 2 = .ok (.lconst 0, 1) := by decide +kernel
theorem dX11_isPlace_3 : decode cX11_isPlace 3 = .ok (.ldc2_w 114, 3) := by decide +kernel
theorem dX11_isPlace_6 : decode cX11_isPlace 6 = .ok (.invokestatic 107, 3) := by decide +kernel
theorem dX11_isPlace_9 : decode cX11_isPlace 9 = .ok (.ireturn, 1) := by decide +kernel
theorem dX11_balance_0 : decode cX11_balance 0 = .ok (.bipush 12, 2) := by decide +kernel
theorem dX11_balance_2 : decode cX11_balance 2 = .ok (.iconst 2, 1) := by decide +kernel
theorem dX11_balance_3 : decode cX11_balance 3 = .ok (.aload_n 0, 1) := by decide +kernel
theorem dX11_balance_4 : decode cX11_balance 4 = .ok (.getfield 26, 3) := by decide +kernel
theorem dX11_balance_7 : decode cX11_balance 7 = .ok (.imul, 1) := by decide +kernel
theorem dX11_balance_8 : decode cX11_balance 8 = .ok (.iadd, 1) := by decide +kernel
theorem dX11_balance_9 : decode cX11_balance 9 = .ok (.ireturn, 1) := by decide +kernel
theorem dX11_risingNow_0 : decode cX11_risingNow 0 = .ok (.aload_n 0, 1) := by decide +kernel
theorem dX11_risingNow_1 : decode cX11_risingNow 1 = .ok (.getfield 20, 3) := by decide +kernel
theorem dX11_risingNow_4 : decode cX11_risingNow 4 = .ok (.aload_n 0, 1) := by decide +kernel
theorem dX11_risingNow_5 : decode cX11_risingNow 5 = .ok (.invokevirtual 116, 3) := by decide +kernel
theorem dX11_risingNow_8 : decode cX11_risingNow 8 = .ok (.isub, 1) := by decide +kernel
theorem dX11_risingNow_9 : decode cX11_risingNow 9 = .ok (.iconst 4, 1) := by decide +kernel
theorem dX11_risingNow_10 : decode cX11_risingNow 10 = .ok (.idiv, 1) := by decide +kernel
theorem dX11_risingNow_11 : decode cX11_risingNow 11 = .ok (.ireturn, 1) := by decide +kernel
theorem dX11_stepOn_0 : decode cX11_stepOn 0 = .ok (.aload_n 0, 1) := by decide +kernel
theorem dX11_stepOn_1 : decode cX11_stepOn 1 = .ok (.dup, 1) := by decide +kernel
theorem dX11_stepOn_2 : decode cX11_stepOn 2 = .ok (.getfield 23, 3) := by decide +kernel
theorem dX11_stepOn_5 : decode cX11_stepOn 5 = .ok (.iload_n 1, 1) := by decide +kernel
theorem dX11_stepOn_6 : decode cX11_stepOn 6 = .ok (.iconst 1, 1) := by decide +kernel
theorem dX11_stepOn_7 : decode cX11_stepOn 7 = .ok (.if_icmp .ne 7, 3) := by decide +kernel
theorem dX11_stepOn_10 : decode cX11_stepOn 10 = .ok (.iconst 1, 1) := by decide +kernel
theorem dX11_stepOn_11 : decode cX11_stepOn 11 = .ok (.goto 4, 3) := by decide +kernel
theorem dX11_stepOn_14 : decode cX11_stepOn 14 = .ok (.iconst 0, 1) := by decide +kernel
theorem dX11_stepOn_15 : decode cX11_stepOn 15 = .ok (.isub, 1) := by decide +kernel
theorem dX11_stepOn_16 : decode cX11_stepOn 16 = .ok (.putfield 23, 3) := by decide +kernel
theorem dX11_stepOn_19 : decode cX11_stepOn 19 = .ok (.aload_n 0, 1) := by decide +kernel
theorem dX11_stepOn_20 : decode cX11_stepOn 20 = .ok (.getfield 32, 3) := by decide +kernel
theorem dX11_stepOn_23 : decode cX11_stepOn 23 = .ok (.aload_n 0, 1) := by decide +kernel
theorem dX11_stepOn_24 : decode cX11_stepOn 24 = .ok (.getfield 29, 3) := by decide +kernel
theorem dX11_stepOn_27 : decode cX11_stepOn 27 = .ok (.iload_n 1, 1) := by decide +kernel
theorem dX11_stepOn_28 : decode cX11_stepOn 28 = .ok (.iconst 1, 1) := by decide +kernel
theorem dX11_stepOn_29 : decode cX11_stepOn 29 = .ok (.if_icmp .ne 7, 3) := by decide +kernel
theorem dX11_stepOn_32 : decode cX11_stepOn 32 = .ok (.iconst 4, 1) := by decide +kernel
theorem dX11_stepOn_33 : decode cX11_stepOn 33 = .ok (.goto 14, 3) := by decide +kernel
theorem dX11_stepOn_36 : decode cX11_stepOn 36 = .ok (.iload_n 1, 1) := by decide +kernel
theorem dX11_stepOn_37 : decode cX11_stepOn 37 = .ok (.iconst 2, 1) := by decide +kernel
theorem dX11_stepOn_38 : decode cX11_stepOn 38 = .ok (.if_icmp .ne 8, 3) := by decide +kernel
theorem dX11_stepOn_41 : decode cX11_stepOn 41 = .ok (.bipush (-5), 2) := by decide +kernel
theorem dX11_stepOn_43 : decode cX11_stepOn 43 = .ok (.goto 4, 3) := by decide +kernel
theorem dX11_stepOn_46 : decode cX11_stepOn 46 = .ok (.iconst 0, 1) := by decide +kernel
theorem dX11_stepOn_47 : decode cX11_stepOn 47 = .ok (.iastore, 1) := by decide +kernel
theorem dX11_stepOn_48 : decode cX11_stepOn 48 = .ok (.aload_n 0, 1) := by decide +kernel
theorem dX11_stepOn_49 : decode cX11_stepOn 49 = .ok (.getfield 32, 3) := by decide +kernel
theorem dX11_stepOn_52 : decode cX11_stepOn 52 = .ok (.iconst 0, 1) := by decide +kernel
theorem dX11_stepOn_53 : decode cX11_stepOn 53 = .ok (.iaload, 1) := by decide +kernel
theorem dX11_stepOn_54 : decode cX11_stepOn 54 = .ok (.istore_n 2, 1) := by decide +kernel
theorem dX11_stepOn_55 : decode cX11_stepOn 55 = .ok (.iconst 0, 1) := by decide +kernel
theorem dX11_stepOn_56 : decode cX11_stepOn 56 = .ok (.istore_n 3, 1) := by decide +kernel
theorem dX11_stepOn_57 : decode cX11_stepOn 57 = .ok (.iload_n 3, 1) := by decide +kernel
theorem dX11_stepOn_58 : decode cX11_stepOn 58 = .ok (.aload_n 0, 1) := by decide +kernel
theorem dX11_stepOn_59 : decode cX11_stepOn 59 = .ok (.getfield 29, 3) := by decide +kernel
theorem dX11_stepOn_62 : decode cX11_stepOn 62 = .ok (.if_icmp .ge 23, 3) := by decide +kernel
theorem dX11_stepOn_65 : decode cX11_stepOn 65 = .ok (.aload_n 0, 1) := by decide +kernel
theorem dX11_stepOn_66 : decode cX11_stepOn 66 = .ok (.getfield 32, 3) := by decide +kernel
theorem dX11_stepOn_69 : decode cX11_stepOn 69 = .ok (.iload_n 3, 1) := by decide +kernel
theorem dX11_stepOn_70 : decode cX11_stepOn 70 = .ok (.aload_n 0, 1) := by decide +kernel
theorem dX11_stepOn_71 : decode cX11_stepOn 71 = .ok (.getfield 32, 3) := by decide +kernel
theorem dX11_stepOn_74 : decode cX11_stepOn 74 = .ok (.iload_n 3, 1) := by decide +kernel
theorem dX11_stepOn_75 : decode cX11_stepOn 75 = .ok (.iconst 1, 1) := by decide +kernel
theorem dX11_stepOn_76 : decode cX11_stepOn 76 = .ok (.iadd, 1) := by decide +kernel
theorem dX11_stepOn_77 : decode cX11_stepOn 77 = .ok (.iaload, 1) := by decide +kernel
theorem dX11_stepOn_78 : decode cX11_stepOn 78 = .ok (.iastore, 1) := by decide +kernel
theorem dX11_stepOn_79 : decode cX11_stepOn 79 = .ok (.iinc 3 1, 3) := by decide +kernel
theorem dX11_stepOn_82 : decode cX11_stepOn 82 = .ok (.goto (-25), 3) := by decide +kernel
theorem dX11_stepOn_85 : decode cX11_stepOn 85 = .ok (.aload_n 0, 1) := by decide +kernel
theorem dX11_stepOn_86 : decode cX11_stepOn 86 = .ok (.getfield 32, 3) := by decide +kernel
theorem dX11_stepOn_89 : decode cX11_stepOn 89 = .ok (.aload_n 0, 1) := by decide +kernel
theorem dX11_stepOn_90 : decode cX11_stepOn 90 = .ok (.getfield 29, 3) := by decide +kernel
theorem dX11_stepOn_93 : decode cX11_stepOn 93 = .ok (.iconst 0, 1) := by decide +kernel
theorem dX11_stepOn_94 : decode cX11_stepOn 94 = .ok (.iastore, 1) := by decide +kernel
theorem dX11_stepOn_95 : decode cX11_stepOn 95 = .ok (.aload_n 0, 1) := by decide +kernel
theorem dX11_stepOn_96 : decode cX11_stepOn 96 = .ok (.aload_n 0, 1) := by decide +kernel
theorem dX11_stepOn_97 : decode cX11_stepOn 97 = .ok (.getfield 20, 3) := by decide +kernel
theorem dX11_stepOn_100 : decode cX11_stepOn 100 = .ok (.iconst 1, 1) := by decide +kernel
theorem dX11_stepOn_101 : decode cX11_stepOn 101 = .ok (.isub, 1) := by decide +kernel
theorem dX11_stepOn_102 : decode cX11_stepOn 102 = .ok (.iload_n 2, 1) := by decide +kernel
theorem dX11_stepOn_103 : decode cX11_stepOn 103 = .ok (.iadd, 1) := by decide +kernel
theorem dX11_stepOn_104 : decode cX11_stepOn 104 = .ok (.bipush 60, 2) := by decide +kernel
theorem dX11_stepOn_106 : decode cX11_stepOn 106 = .ok (.invokestatic 120, 3) := by decide +kernel
theorem dX11_stepOn_109 : decode cX11_stepOn 109 = .ok (.putfield 20, 3) := by decide +kernel
theorem dX11_stepOn_112 : decode cX11_stepOn 112 = .ok (.aload_n 0, 1) := by decide +kernel
theorem dX11_stepOn_113 : decode cX11_stepOn 113 = .ok (.invokevirtual 124, 3) := by decide +kernel
theorem dX11_stepOn_116 : decode cX11_stepOn 116 = .ok (.istore_n 3, 1) := by decide +kernel
theorem dX11_stepOn_117 : decode cX11_stepOn 117 = .ok (.aload_n 0, 1) := by decide +kernel
theorem dX11_stepOn_118 : decode cX11_stepOn 118 = .ok (.getfield 127, 3) := by decide +kernel
theorem dX11_stepOn_121 : decode cX11_stepOn 121 = .ok (.istore 4, 2) := by decide +kernel
theorem dX11_stepOn_123 : decode cX11_stepOn 123 = .ok (.aload_n 0, 1) := by decide +kernel
theorem dX11_stepOn_124 : decode cX11_stepOn 124 = .ok (.aload_n 0, 1) := by decide +kernel
theorem dX11_stepOn_125 : decode cX11_stepOn 125 = .ok (.getfield 127, 3) := by decide +kernel
theorem dX11_stepOn_128 : decode cX11_stepOn 128 = .ok (.iload_n 3, 1) := by decide +kernel
theorem dX11_stepOn_129 : decode cX11_stepOn 129 = .ok (.iadd, 1) := by decide +kernel
theorem dX11_stepOn_130 : decode cX11_stepOn 130 = .ok (.bipush 39, 2) := by decide +kernel
theorem dX11_stepOn_132 : decode cX11_stepOn 132 = .ok (.invokestatic 120, 3) := by decide +kernel
theorem dX11_stepOn_135 : decode cX11_stepOn 135 = .ok (.putfield 127, 3) := by decide +kernel
theorem dX11_stepOn_138 : decode cX11_stepOn 138 = .ok (.aload_n 0, 1) := by decide +kernel
theorem dX11_stepOn_139 : decode cX11_stepOn 139 = .ok (.iload 4, 2) := by decide +kernel
theorem dX11_stepOn_141 : decode cX11_stepOn 141 = .ok (.ifCond .le 15, 3) := by decide +kernel
theorem dX11_stepOn_144 : decode cX11_stepOn 144 = .ok (.aload_n 0, 1) := by decide +kernel
theorem dX11_stepOn_145 : decode cX11_stepOn 145 = .ok (.getfield 127, 3) := by decide +kernel
theorem dX11_stepOn_148 : decode cX11_stepOn 148 = .ok (.ifCond .ne 8, 3) := by decide +kernel
theorem dX11_stepOn_151 : decode cX11_stepOn 151 = .ok (.iload_n 3, 1) := by decide +kernel
theorem dX11_stepOn_152 : decode cX11_stepOn 152 = .ok (.ineg, 1) := by decide +kernel
theorem dX11_stepOn_153 : decode cX11_stepOn 153 = .ok (.goto 4, 3) := by decide +kernel
theorem dX11_stepOn_156 : decode cX11_stepOn 156 = .ok (.iconst 0, 1) := by decide +kernel
theorem dX11_stepOn_157 : decode cX11_stepOn 157 = .ok (.putfield 130, 3) := by decide +kernel
theorem dX11_stepOn_160 : decode cX11_stepOn 160 = .ok (.aload_n 0, 1) := by decide +kernel
theorem dX11_stepOn_161 : decode cX11_stepOn 161 = .ok (.getfield 127, 3) := by decide +kernel
theorem dX11_stepOn_164 : decode cX11_stepOn 164 = .ok (.ifCond .le 55, 3) := by decide +kernel
theorem dX11_stepOn_167 : decode cX11_stepOn 167 = .ok (.aload_n 0, 1) := by decide +kernel
theorem dX11_stepOn_168 : decode cX11_stepOn 168 = .ok (.aload_n 0, 1) := by decide +kernel
theorem dX11_stepOn_169 : decode cX11_stepOn 169 = .ok (.getfield 16, 3) := by decide +kernel
theorem dX11_stepOn_172 : decode cX11_stepOn 172 = .ok (.aload_n 0, 1) := by decide +kernel
theorem dX11_stepOn_173 : decode cX11_stepOn 173 = .ok (.getfield 7, 3) := by decide +kernel
theorem dX11_stepOn_176 : decode cX11_stepOn 176 = .ok (.aload_n 0, 1) := by decide +kernel
theorem dX11_stepOn_177 : decode cX11_stepOn 177 = .ok (.getfield 127, 3) := by decide +kernel
theorem dX11_stepOn_180 : decode cX11_stepOn 180 = .ok (.iconst 5, 1) := by decide +kernel
theorem dX11_stepOn_181 : decode cX11_stepOn 181 = .ok (.idiv, 1) := by decide +kernel
theorem dX11_stepOn_182 : decode cX11_stepOn 182 = .ok (.iaload, 1) := by decide +kernel
theorem dX11_stepOn_183 : decode cX11_stepOn 183 = .ok (.iadd, 1) := by decide +kernel
theorem dX11_stepOn_184 : decode cX11_stepOn 184 = .ok (.sipush 999, 3) := by decide +kernel
theorem dX11_stepOn_187 : decode cX11_stepOn 187 = .ok (.invokestatic 120, 3) := by decide +kernel
theorem dX11_stepOn_190 : decode cX11_stepOn 190 = .ok (.putfield 16, 3) := by decide +kernel
theorem dX11_stepOn_193 : decode cX11_stepOn 193 = .ok (.aload_n 0, 1) := by decide +kernel
theorem dX11_stepOn_194 : decode cX11_stepOn 194 = .ok (.aload_n 0, 1) := by decide +kernel
theorem dX11_stepOn_195 : decode cX11_stepOn 195 = .ok (.getfield 133, 3) := by decide +kernel
theorem dX11_stepOn_198 : decode cX11_stepOn 198 = .ok (.aload_n 0, 1) := by decide +kernel
theorem dX11_stepOn_199 : decode cX11_stepOn 199 = .ok (.getfield 13, 3) := by decide +kernel
theorem dX11_stepOn_202 : decode cX11_stepOn 202 = .ok (.aload_n 0, 1) := by decide +kernel
theorem dX11_stepOn_203 : decode cX11_stepOn 203 = .ok (.getfield 127, 3) := by decide +kernel
theorem dX11_stepOn_206 : decode cX11_stepOn 206 = .ok (.iconst 5, 1) := by decide +kernel
theorem dX11_stepOn_207 : decode cX11_stepOn 207 = .ok (.idiv, 1) := by decide +kernel
theorem dX11_stepOn_208 : decode cX11_stepOn 208 = .ok (.iaload, 1) := by decide +kernel
theorem dX11_stepOn_209 : decode cX11_stepOn 209 = .ok (.iadd, 1) := by decide +kernel
theorem dX11_stepOn_210 : decode cX11_stepOn 210 = .ok (.sipush 999, 3) := by decide +kernel
theorem dX11_stepOn_213 : decode cX11_stepOn 213 = .ok (.invokestatic 120, 3) := by decide +kernel
theorem dX11_stepOn_216 : decode cX11_stepOn 216 = .ok (.putfield 133, 3) := by decide +kernel
theorem dX11_stepOn_219 : decode cX11_stepOn 219 = .ok (.aload_n 0, 1) := by decide +kernel
theorem dX11_stepOn_220 : decode cX11_stepOn 220 = .ok (.dup, 1) := by decide +kernel
theorem dX11_stepOn_221 : decode cX11_stepOn 221 = .ok (.getfield 136, 3) := by decide +kernel
theorem dX11_stepOn_224 : decode cX11_stepOn 224 = .ok (.iconst 1, 1) := by decide +kernel
theorem dX11_stepOn_225 : decode cX11_stepOn 225 = .ok (.iadd, 1) := by decide +kernel
theorem dX11_stepOn_226 : decode cX11_stepOn 226 = .ok (.putfield 136, 3) := by decide +kernel
theorem dX11_stepOn_229 : decode cX11_stepOn 229 = .ok (.return_, 1) := by decide +kernel
theorem dX11_forgetWork_0 : decode cX11_forgetWork 0 = .ok (.iconst 0, 1) := by decide +kernel
theorem dX11_forgetWork_1 : decode cX11_forgetWork 1 = .ok (.istore_n 1, 1) := by decide +kernel
theorem dX11_forgetWork_2 : decode cX11_forgetWork 2 = .ok (.iload_n 1, 1) := by decide +kernel
theorem dX11_forgetWork_3 : decode cX11_forgetWork 3 = .ok (.bipush 6, 2) := by decide +kernel
theorem dX11_forgetWork_5 : decode cX11_forgetWork 5 = .ok (.if_icmp .ge 16, 3) := by decide +kernel
theorem dX11_forgetWork_8 : decode cX11_forgetWork 8 = .ok (.aload_n 0, 1) := by decide +kernel
theorem dX11_forgetWork_9 : decode cX11_forgetWork 9 = .ok (.getfield 32, 3) := by decide +kernel
theorem dX11_forgetWork_12 : decode cX11_forgetWork 12 = .ok (.iload_n 1, 1) := by decide +kernel
theorem dX11_forgetWork_13 : decode cX11_forgetWork 13 = .ok (.iconst 0, 1) := by decide +kernel
theorem dX11_forgetWork_14 : decode cX11_forgetWork 14 = .ok (.iastore, 1) := by decide +kernel
theorem dX11_forgetWork_15 : decode cX11_forgetWork 15 = .ok (.iinc 1 1, 3) := by decide +kernel
theorem dX11_forgetWork_18 : decode cX11_forgetWork 18 = .ok (.goto (-16), 3) := by decide +kernel
theorem dX11_forgetWork_21 : decode cX11_forgetWork 21 = .ok (.return_, 1) := by decide +kernel
theorem dX11_workUnderWay_0 : decode cX11_workUnderWay 0 = .ok (.iconst 0, 1) := by decide +kernel
theorem dX11_workUnderWay_1 : decode cX11_workUnderWay 1 = .ok (.istore_n 1, 1) := by decide +kernel
theorem dX11_workUnderWay_2 : decode cX11_workUnderWay 2 = .ok (.iconst 0, 1) := by decide +kernel
theorem dX11_workUnderWay_3 : decode cX11_workUnderWay 3 = .ok (.istore_n 2, 1) := by decide +kernel
theorem dX11_workUnderWay_4 : decode cX11_workUnderWay 4 = .ok (.iload_n 2, 1) := by decide +kernel
theorem dX11_workUnderWay_5 : decode cX11_workUnderWay 5 = .ok (.bipush 6, 2) := by decide +kernel
theorem dX11_workUnderWay_7 : decode cX11_workUnderWay 7 = .ok (.if_icmp .ge 18, 3) := by decide +kernel
theorem dX11_workUnderWay_10 : decode cX11_workUnderWay 10 = .ok (.iload_n 1, 1) := by decide +kernel
theorem dX11_workUnderWay_11 : decode cX11_workUnderWay 11 = .ok (.aload_n 0, 1) := by decide +kernel
theorem dX11_workUnderWay_12 : decode cX11_workUnderWay 12 = .ok (.getfield 32, 3) := by decide +kernel
theorem dX11_workUnderWay_15 : decode cX11_workUnderWay 15 = .ok (.iload_n 2, 1) := by decide +kernel
theorem dX11_workUnderWay_16 : decode cX11_workUnderWay 16 = .ok (.iaload, 1) := by decide +kernel
theorem dX11_workUnderWay_17 : decode cX11_workUnderWay 17 = .ok (.iadd, 1) := by decide +kernel
theorem dX11_workUnderWay_18 : decode cX11_workUnderWay 18 = .ok (.istore_n 1, 1) := by decide +kernel
theorem dX11_workUnderWay_19 : decode cX11_workUnderWay 19 = .ok (.iinc 2 1, 3) := by decide +kernel
theorem dX11_workUnderWay_22 : decode cX11_workUnderWay 22 = .ok (.goto (-18), 3) := by decide +kernel
theorem dX11_workUnderWay_25 : decode cX11_workUnderWay 25 = .ok (.iload_n 1, 1) := by decide +kernel
theorem dX11_workUnderWay_26 : decode cX11_workUnderWay 26 = .ok (.ireturn, 1) := by decide +kernel
theorem dX11_holdOn_0 : decode cX11_holdOn 0 = .ok (.aload_n 0, 1) := by decide +kernel
theorem dX11_holdOn_1 : decode cX11_holdOn 1 = .ok (.aload_n 0, 1) := by decide +kernel
theorem dX11_holdOn_2 : decode cX11_holdOn 2 = .ok (.getfield 20, 3) := by decide +kernel
theorem dX11_holdOn_5 : decode cX11_holdOn 5 = .ok (.aload_n 0, 1) := by decide +kernel
theorem dX11_holdOn_6 : decode cX11_holdOn 6 = .ok (.invokevirtual 139, 3) := by decide +kernel
theorem dX11_holdOn_9 : decode cX11_holdOn 9 = .ok (.iadd, 1) := by decide +kernel
theorem dX11_holdOn_10 : decode cX11_holdOn 10 = .ok (.aload_n 0, 1) := by decide +kernel
theorem dX11_holdOn_11 : decode cX11_holdOn 11 = .ok (.invokevirtual 116, 3) := by decide +kernel
theorem dX11_holdOn_14 : decode cX11_holdOn 14 = .ok (.if_icmp .ge 14, 3) := by decide +kernel
theorem dX11_holdOn_17 : decode cX11_holdOn 17 = .ok (.aload_n 0, 1) := by decide +kernel
theorem dX11_holdOn_18 : decode cX11_holdOn 18 = .ok (.getfield 23, 3) := by decide +kernel
theorem dX11_holdOn_21 : decode cX11_holdOn 21 = .ok (.ifCond .le 7, 3) := by decide +kernel
theorem dX11_holdOn_24 : decode cX11_holdOn 24 = .ok (.iconst 1, 1) := by decide +kernel
theorem dX11_holdOn_25 : decode cX11_holdOn 25 = .ok (.goto 4, 3) := by decide +kernel
theorem dX11_holdOn_28 : decode cX11_holdOn 28 = .ok (.iconst 0, 1) := by decide +kernel
theorem dX11_holdOn_29 : decode cX11_holdOn 29 = .ok (.invokevirtual 142, 3) := by decide +kernel
theorem dX11_holdOn_32 : decode cX11_holdOn 32 = .ok (.return_, 1) := by decide +kernel
theorem dX11_fieldAt_0 : decode cX11_fieldAt 0 = .ok (.iconst 0, 1) := by decide +kernel
theorem dX11_fieldAt_1 : decode cX11_fieldAt 1 = .ok (.istore_n 1, 1) := by decide +kernel
theorem dX11_fieldAt_2 : decode cX11_fieldAt 2 = .ok (.iload_n 1, 1) := by decide +kernel
theorem dX11_fieldAt_3 : decode cX11_fieldAt 3 = .ok (.aload_n 0, 1) := by decide +kernel
theorem dX11_fieldAt_4 : decode cX11_fieldAt 4 = .ok (.getfield 111, 3) := by decide +kernel
theorem dX11_fieldAt_7 : decode cX11_fieldAt 7 = .ok (.if_icmp .ge 79, 3) := by decide +kernel
theorem dX11_fieldAt_10 : decode cX11_fieldAt 10 = .ok (.aload_n 0, 1) := by decide +kernel
theorem dX11_fieldAt_11 : decode cX11_fieldAt 11 = .ok (.getfield 16, 3) := by decide +kernel
theorem dX11_fieldAt_14 : decode cX11_fieldAt 14 = .ok (.i2l, 1) := by decide +kernel
theorem dX11_fieldAt_15 : decode cX11_fieldAt 15 = .ok (.aload_n 0, 1) := by decide +kernel
theorem dX11_fieldAt_16 : decode cX11_fieldAt 16 = .ok (.getfield 41, 3) := by decide +kernel
theorem dX11_fieldAt_19 : decode cX11_fieldAt 19 = .ok (.iload_n 1, 1) := by decide +kernel
theorem dX11_fieldAt_20 : decode cX11_fieldAt 20 = .ok (.iaload, 1) := by decide +kernel
theorem dX11_fieldAt_21 : decode cX11_fieldAt 21 = .ok (.i2l, 1) := by decide +kernel
theorem dX11_fieldAt_22 : decode cX11_fieldAt 22 = .ok (.aload_n 0, 1) := by decide +kernel
theorem dX11_fieldAt_23 : decode cX11_fieldAt 23 = .ok (.getfield 41, 3) := by decide +kernel
theorem dX11_fieldAt_26 : decode cX11_fieldAt 26 = .ok (.iload_n 1, 1) := by decide +kernel
theorem dX11_fieldAt_27 : decode cX11_fieldAt 27 = .ok (.iaload, 1) := by decide +kernel
theorem dX11_fieldAt_28 : decode cX11_fieldAt 28 = .ok (.aload_n 0, 1) := by decide +kernel
theorem dX11_fieldAt_29 : decode cX11_fieldAt 29 = .ok (.getfield 47, 3) := by decide +kernel
theorem dX11_fieldAt_32 : decode cX11_fieldAt 32 = .ok (.iload_n 1, 1) := by decide +kernel
theorem dX11_fieldAt_33 : decode cX11_fieldAt 33 = .ok (.iaload, 1) := by decide +kernel
theorem dX11_fieldAt_34 : decode cX11_fieldAt 34 = .ok (.iadd, 1) := by decide +kernel
theorem dX11_fieldAt_35 : decode cX11_fieldAt 35 = .ok (.iconst 1, 1) := by decide +kernel
theorem dX11_fieldAt_36 : decode cX11_fieldAt 36 = .ok (.isub, 1) := by decide +kernel
theorem dX11_fieldAt_37 : decode cX11_fieldAt 37 = .ok (.i2l, 1) := by decide +kernel
theorem dX11_fieldAt_38 : decode cX11_fieldAt 38 = .ok (.invokestatic 107, 3) := by decide +kernel
theorem dX11_fieldAt_41 : decode cX11_fieldAt 41 = .ok (.ifCond .eq 39, 3) := by decide +kernel
theorem dX11_fieldAt_44 : decode cX11_fieldAt 44 = .ok (.aload_n 0, 1) := by decide +kernel
theorem dX11_fieldAt_45 : decode cX11_fieldAt 45 = .ok (.getfield 133, 3) := by decide +kernel
theorem dX11_fieldAt_48 : decode cX11_fieldAt 48 = .ok (.i2l, 1) := by decide +kernel
theorem dX11_fieldAt_49 : decode cX11_fieldAt 49 = .ok (.aload_n 0, 1) := by decide +kernel
theorem dX11_fieldAt_50 : decode cX11_fieldAt 50 = .ok (.getfield 44, 3) := by decide +kernel
theorem dX11_fieldAt_53 : decode cX11_fieldAt 53 = .ok (.iload_n 1, 1) := by decide +kernel
theorem dX11_fieldAt_54 : decode cX11_fieldAt 54 = .ok (.iaload, 1) := by decide +kernel
theorem dX11_fieldAt_55 : decode cX11_fieldAt 55 = .ok (.i2l, 1) := by decide +kernel
theorem dX11_fieldAt_56 : decode cX11_fieldAt 56 = .ok (.aload_n 0, 1) := by decide +kernel
theorem dX11_fieldAt_57 : decode cX11_fieldAt 57 = .ok (.getfield 44, 3) := by decide +kernel
theorem dX11_fieldAt_60 : decode cX11_fieldAt 60 = .ok (.iload_n 1, 1) := by decide +kernel
theorem dX11_fieldAt_61 : decode cX11_fieldAt 61 = .ok (.iaload, 1) := by decide +kernel
theorem dX11_fieldAt_62 : decode cX11_fieldAt 62 = .ok (.aload_n 0, 1) := by decide +kernel
theorem dX11_fieldAt_63 : decode cX11_fieldAt 63 = .ok (.getfield 47, 3) := by decide +kernel
theorem dX11_fieldAt_66 : decode cX11_fieldAt 66 = .ok (.iload_n 1, 1) := by decide +kernel
theorem dX11_fieldAt_67 : decode cX11_fieldAt 67 = .ok (.iaload, 1) := by decide +kernel
theorem dX11_fieldAt_68 : decode cX11_fieldAt 68 = .ok (.iadd, 1) := by decide +kernel
theorem dX11_fieldAt_69 : decode cX11_fieldAt 69 = .ok (.iconst 1, 1) := by decide +kernel
theorem dX11_fieldAt_70 : decode cX11_fieldAt 70 = .ok (.isub, 1) := by decide +kernel
theorem dX11_fieldAt_71 : decode cX11_fieldAt 71 = .ok (.i2l, 1) := by decide +kernel
theorem dX11_fieldAt_72 : decode cX11_fieldAt 72 = .ok (.invokestatic 107, 3) := by decide +kernel
theorem dX11_fieldAt_75 : decode cX11_fieldAt 75 = .ok (.ifCond .eq 5, 3) := by decide +kernel
theorem dX11_fieldAt_78 : decode cX11_fieldAt 78 = .ok (.iload_n 1, 1) := by decide +kernel
theorem dX11_fieldAt_79 : decode cX11_fieldAt 79 = .ok (.ireturn, 1) := by decide +kernel
theorem dX11_fieldAt_80 : decode cX11_fieldAt 80 = .ok (.iinc 1 1, 3) := by decide +kernel
theorem dX11_fieldAt_83 : decode cX11_fieldAt 83 = .ok (.goto (-81), 3) := by decide +kernel
theorem dX11_fieldAt_86 : decode cX11_fieldAt 86 = .ok (.bipush (-9), 2) := by decide +kernel
theorem dX11_fieldAt_88 : decode cX11_fieldAt 88 = .ok (.ireturn, 1) := by decide +kernel
theorem dX11_dragOf_0 : decode cX11_dragOf 0 = .ok (.iconst 4, 1) := by decide +kernel
theorem dX11_dragOf_1 : decode cX11_dragOf 1 = .ok (.iload_n 1, 1) := by decide +kernel
theorem dX11_dragOf_2 : decode cX11_dragOf 2 = .ok (.imul, 1) := by decide +kernel
theorem dX11_dragOf_3 : decode cX11_dragOf 3 = .ok (.iconst 3, 1) := by decide +kernel
theorem dX11_dragOf_4 : decode cX11_dragOf 4 = .ok (.aload_n 0, 1) := by decide +kernel
theorem dX11_dragOf_5 : decode cX11_dragOf 5 = .ok (.getfield 7, 3) := by decide +kernel
theorem dX11_dragOf_8 : decode cX11_dragOf 8 = .ok (.iconst 0, 1) := by decide +kernel
theorem dX11_dragOf_9 : decode cX11_dragOf 9 = .ok (.iaload, 1) := by decide +kernel
theorem dX11_dragOf_10 : decode cX11_dragOf 10 = .ok (.invokestatic 146, 3) := by decide +kernel
theorem dX11_dragOf_13 : decode cX11_dragOf 13 = .ok (.aload_n 0, 1) := by decide +kernel
theorem dX11_dragOf_14 : decode cX11_dragOf 14 = .ok (.getfield 13, 3) := by decide +kernel
theorem dX11_dragOf_17 : decode cX11_dragOf 17 = .ok (.iconst 0, 1) := by decide +kernel
theorem dX11_dragOf_18 : decode cX11_dragOf 18 = .ok (.iaload, 1) := by decide +kernel
theorem dX11_dragOf_19 : decode cX11_dragOf 19 = .ok (.iadd, 1) := by decide +kernel
theorem dX11_dragOf_20 : decode cX11_dragOf 20 = .ok (.imul, 1) := by decide +kernel
theorem dX11_dragOf_21 : decode cX11_dragOf 21 = .ok (.iadd, 1) := by decide +kernel
theorem dX11_dragOf_22 : decode cX11_dragOf 22 = .ok (.iconst 2, 1) := by decide +kernel
theorem dX11_dragOf_23 : decode cX11_dragOf 23 = .ok (.aload_n 0, 1) := by decide +kernel
theorem dX11_dragOf_24 : decode cX11_dragOf 24 = .ok (.getfield 26, 3) := by decide +kernel
theorem dX11_dragOf_27 : decode cX11_dragOf 27 = .ok (.imul, 1) := by decide +kernel
theorem dX11_dragOf_28 : decode cX11_dragOf 28 = .ok (.isub, 1) := by decide +kernel
theorem dX11_dragOf_29 : decode cX11_dragOf 29 = .ok (.istore_n 2, 1) := by decide +kernel
theorem dX11_dragOf_30 : decode cX11_dragOf 30 = .ok (.iload_n 2, 1) := by decide +kernel
theorem dX11_dragOf_31 : decode cX11_dragOf 31 = .ok (.ifCond .ge 7, 3) := by decide +kernel
theorem dX11_dragOf_34 : decode cX11_dragOf 34 = .ok (.iconst 0, 1) := by decide +kernel
theorem dX11_dragOf_35 : decode cX11_dragOf 35 = .ok (.goto 4, 3) := by decide +kernel
theorem dX11_dragOf_38 : decode cX11_dragOf 38 = .ok (.iload_n 2, 1) := by decide +kernel
theorem dX11_dragOf_39 : decode cX11_dragOf 39 = .ok (.ireturn, 1) := by decide +kernel
theorem dX11_costOf_0 : decode cX11_costOf 0 = .ok (.iload_n 1, 1) := by decide +kernel
theorem dX11_costOf_1 : decode cX11_costOf 1 = .ok (.ifCond .ge 6, 3) := by decide +kernel
theorem dX11_costOf_4 : decode cX11_costOf 4 = .ok (.bipush 40, 2) := by decide +kernel
theorem dX11_costOf_6 : decode cX11_costOf 6 = .ok (.ireturn, 1) := by decide +kernel
theorem dX11_costOf_7 : decode cX11_costOf 7 = .ok (.iload_n 2, 1) := by decide +kernel
theorem dX11_costOf_8 : decode cX11_costOf 8 = .ok (.iconst 3, 1) := by decide +kernel
theorem dX11_costOf_9 : decode cX11_costOf 9 = .ok (.if_icmp .le 9, 3) := by decide +kernel
theorem dX11_costOf_12 : decode cX11_costOf 12 = .ok (.iconst 2, 1) := by decide +kernel
theorem dX11_costOf_13 : decode cX11_costOf 13 = .ok (.iload_n 2, 1) := by decide +kernel
theorem dX11_costOf_14 : decode cX11_costOf 14 = .ok (.imul, 1) := by decide +kernel
theorem dX11_costOf_15 : decode cX11_costOf 15 = .ok (.goto 4, 3) := by decide +kernel
theorem dX11_costOf_18 : decode cX11_costOf 18 = .ok (.iload_n 2, 1) := by decide +kernel
theorem dX11_costOf_19 : decode cX11_costOf 19 = .ok (.istore_n 3, 1) := by decide +kernel
theorem dX11_costOf_20 : decode cX11_costOf 20 = .ok (.iload_n 3, 1) := by decide +kernel
theorem dX11_costOf_21 : decode cX11_costOf 21 = .ok (.aload_n 0, 1) := by decide +kernel
theorem dX11_costOf_22 : decode cX11_costOf 22 = .ok (.getfield 38, 3) := by decide +kernel
theorem dX11_costOf_25 : decode cX11_costOf 25 = .ok (.iload_n 1, 1) := by decide +kernel
theorem dX11_costOf_26 : decode cX11_costOf 26 = .ok (.iaload, 1) := by decide +kernel
theorem dX11_costOf_27 : decode cX11_costOf 27 = .ok (.iadd, 1) := by decide +kernel
theorem dX11_costOf_28 : decode cX11_costOf 28 = .ok (.iconst 5, 1) := by decide +kernel
theorem dX11_costOf_29 : decode cX11_costOf 29 = .ok (.iadd, 1) := by decide +kernel
theorem dX11_costOf_30 : decode cX11_costOf 30 = .ok (.istore 4, 2) := by decide +kernel
theorem dX11_costOf_32 : decode cX11_costOf 32 = .ok (.iload_n 3, 1) := by decide +kernel
theorem dX11_costOf_33 : decode cX11_costOf 33 = .ok (.iconst 3, 1) := by decide +kernel
theorem dX11_costOf_34 : decode cX11_costOf 34 = .ok (.aload_n 0, 1) := by decide +kernel
theorem dX11_costOf_35 : decode cX11_costOf 35 = .ok (.getfield 38, 3) := by decide +kernel
theorem dX11_costOf_38 : decode cX11_costOf 38 = .ok (.iload_n 1, 1) := by decide +kernel
theorem dX11_costOf_39 : decode cX11_costOf 39 = .ok (.iaload, 1) := by decide +kernel
theorem dX11_costOf_40 : decode cX11_costOf 40 = .ok (.imul, 1) := by decide +kernel
theorem dX11_costOf_41 : decode cX11_costOf 41 = .ok (.iadd, 1) := by decide +kernel
theorem dX11_costOf_42 : decode cX11_costOf 42 = .ok (.istore 5, 2) := by decide +kernel
theorem dX11_costOf_44 : decode cX11_costOf 44 = .ok (.aload_n 0, 1) := by decide +kernel
theorem dX11_costOf_45 : decode cX11_costOf 45 = .ok (.getfield 35, 3) := by decide +kernel
theorem dX11_costOf_48 : decode cX11_costOf 48 = .ok (.iload_n 1, 1) := by decide +kernel
theorem dX11_costOf_49 : decode cX11_costOf 49 = .ok (.iaload, 1) := by decide +kernel
theorem dX11_costOf_50 : decode cX11_costOf 50 = .ok (.tableswitch 81 1 5 #[34, 37, 40, 49, 76], 34) := by decide +kernel
theorem dX11_costOf_84 : decode cX11_costOf 84 = .ok (.iload 4, 2) := by decide +kernel
theorem dX11_costOf_86 : decode cX11_costOf 86 = .ok (.ireturn, 1) := by decide +kernel
theorem dX11_costOf_87 : decode cX11_costOf 87 = .ok (.iload 5, 2) := by decide +kernel
theorem dX11_costOf_89 : decode cX11_costOf 89 = .ok (.ireturn, 1) := by decide +kernel
theorem dX11_costOf_90 : decode cX11_costOf 90 = .ok (.iload_n 3, 1) := by decide +kernel
theorem dX11_costOf_91 : decode cX11_costOf 91 = .ok (.aload_n 0, 1) := by decide +kernel
theorem dX11_costOf_92 : decode cX11_costOf 92 = .ok (.getfield 38, 3) := by decide +kernel
theorem dX11_costOf_95 : decode cX11_costOf 95 = .ok (.iload_n 1, 1) := by decide +kernel
theorem dX11_costOf_96 : decode cX11_costOf 96 = .ok (.iaload, 1) := by decide +kernel
theorem dX11_costOf_97 : decode cX11_costOf 97 = .ok (.iadd, 1) := by decide +kernel
theorem dX11_costOf_98 : decode cX11_costOf 98 = .ok (.ireturn, 1) := by decide +kernel
theorem dX11_costOf_99 : decode cX11_costOf 99 = .ok (.iload 5, 2) := by decide +kernel
theorem dX11_costOf_101 : decode cX11_costOf 101 = .ok (.aload_n 0, 1) := by decide +kernel
theorem dX11_costOf_102 : decode cX11_costOf 102 = .ok (.iload_n 2, 1) := by decide +kernel
theorem dX11_costOf_103 : decode cX11_costOf 103 = .ok (.invokevirtual 150, 3) := by decide +kernel
theorem dX11_costOf_106 : decode cX11_costOf 106 = .ok (.bipush 10, 2) := by decide +kernel
theorem dX11_costOf_108 : decode cX11_costOf 108 = .ok (.aload_n 0, 1) := by decide +kernel
theorem dX11_costOf_109 : decode cX11_costOf 109 = .ok (.getfield 47, 3) := by decide +kernel
theorem dX11_costOf_112 : decode cX11_costOf 112 = .ok (.iload_n 1, 1) := by decide +kernel
theorem dX11_costOf_113 : decode cX11_costOf 113 = .ok (.iaload, 1) := by decide +kernel
theorem dX11_costOf_114 : decode cX11_costOf 114 = .ok (.imul, 1) := by decide +kernel
theorem dX11_costOf_115 : decode cX11_costOf 115 = .ok (.if_icmp .le 8, 3) := by decide +kernel
theorem dX11_costOf_118 : decode cX11_costOf 118 = .ok (.bipush 20, 2) := by decide +kernel
theorem dX11_costOf_120 : decode cX11_costOf 120 = .ok (.goto 4, 3) := by decide +kernel
theorem dX11_costOf_123 : decode cX11_costOf 123 = .ok (.iconst 0, 1) := by decide +kernel
theorem dX11_costOf_124 : decode cX11_costOf 124 = .ok (.iadd, 1) := by decide +kernel
theorem dX11_costOf_125 : decode cX11_costOf 125 = .ok (.ireturn, 1) := by decide +kernel
theorem dX11_costOf_126 : decode cX11_costOf 126 = .ok (.iload 4, 2) := by decide +kernel
theorem dX11_costOf_128 : decode cX11_costOf 128 = .ok (.iconst 2, 1) := by decide +kernel
theorem dX11_costOf_129 : decode cX11_costOf 129 = .ok (.idiv, 1) := by decide +kernel
theorem dX11_costOf_130 : decode cX11_costOf 130 = .ok (.ireturn, 1) := by decide +kernel
theorem dX11_costOf_131 : decode cX11_costOf 131 = .ok (.iload_n 3, 1) := by decide +kernel
theorem dX11_costOf_132 : decode cX11_costOf 132 = .ok (.ireturn, 1) := by decide +kernel
theorem dX11_feed_0 : decode cX11_feed 0 = .ok (.aload_n 0, 1) := by decide +kernel
theorem dX11_feed_1 : decode cX11_feed 1 = .ok (.iconst 0, 1) := by decide +kernel
theorem dX11_feed_2 : decode cX11_feed 2 = .ok (.putfield 104, 3) := by decide +kernel
theorem dX11_feed_5 : decode cX11_feed 5 = .ok (.iload_n 1, 1) := by decide +kernel
theorem dX11_feed_6 : decode cX11_feed 6 = .ok (.ifCond .ge 10, 3) := by decide +kernel
theorem dX11_feed_9 : decode cX11_feed 9 = .ok (.aload_n 0, 1) := by decide +kernel
theorem dX11_feed_10 : decode cX11_feed 10 = .ok (.bipush (-4), 2) := by decide +kernel
theorem dX11_feed_12 : decode cX11_feed 12 = .ok (.invokevirtual 153, 3) := by decide +kernel
theorem dX11_feed_15 : decode cX11_feed 15 = .ok (.ireturn, 1) := by decide +kernel
theorem dX11_feed_16 : decode cX11_feed 16 = .ok (.iload_n 1, 1) := by decide +kernel
theorem dX11_feed_17 : decode cX11_feed 17 = .ok (.sipush 255, 3) := by decide +kernel
theorem dX11_feed_20 : decode cX11_feed 20 = .ok (.if_icmp .gt 12, 3) := by decide +kernel
theorem dX11_feed_23 : decode cX11_feed 23 = .ok (.aload_n 0, 1) := by decide +kernel
theorem dX11_feed_24 : decode cX11_feed 24 = .ok (.getfield 156, 3) := by decide +kernel
theorem dX11_feed_27 : decode cX11_feed 27 = .ok (.bipush 96, 2) := by decide +kernel
theorem dX11_feed_29 : decode cX11_feed 29 = .ok (.if_icmp .ne 10, 3) := by decide +kernel
theorem dX11_feed_32 : decode cX11_feed 32 = .ok (.aload_n 0, 1) := by decide +kernel
theorem dX11_feed_33 : decode cX11_feed 33 = .ok (.bipush (-6), 2) := by decide +kernel
theorem dX11_feed_35 : decode cX11_feed 35 = .ok (.invokevirtual 153, 3) := by decide +kernel
theorem dX11_feed_38 : decode cX11_feed 38 = .ok (.ireturn, 1) := by decide +kernel
theorem dX11_feed_39 : decode cX11_feed 39 = .ok (.aload_n 0, 1) := by decide +kernel
theorem dX11_feed_40 : decode cX11_feed 40 = .ok (.getfield 56, 3) := by decide +kernel
theorem dX11_feed_43 : decode cX11_feed 43 = .ok (.aload_n 0, 1) := by decide +kernel
theorem dX11_feed_44 : decode cX11_feed 44 = .ok (.getfield 156, 3) := by decide +kernel
theorem dX11_feed_47 : decode cX11_feed 47 = .ok (.iload_n 1, 1) := by decide +kernel
theorem dX11_feed_48 : decode cX11_feed 48 = .ok (.iastore, 1) := by decide +kernel
theorem dX11_feed_49 : decode cX11_feed 49 = .ok (.aload_n 0, 1) := by decide +kernel
theorem dX11_feed_50 : decode cX11_feed 50 = .ok (.dup, 1) := by decide +kernel
theorem dX11_feed_51 : decode cX11_feed 51 = .ok (.getfield 156, 3) := by decide +kernel
theorem dX11_feed_54 : decode cX11_feed 54 = .ok (.iconst 1, 1) := by decide +kernel
theorem dX11_feed_55 : decode cX11_feed 55 = .ok (.iadd, 1) := by decide +kernel
theorem dX11_feed_56 : decode cX11_feed 56 = .ok (.putfield 156, 3) := by decide +kernel
theorem dX11_feed_59 : decode cX11_feed 59 = .ok (.aload_n 0, 1) := by decide +kernel
theorem dX11_feed_60 : decode cX11_feed 60 = .ok (.getfield 156, 3) := by decide +kernel
theorem dX11_feed_63 : decode cX11_feed 63 = .ok (.ireturn, 1) := by decide +kernel
theorem dX11_here_0 : decode cX11_here 0 = .ok (.aload_n 0, 1) := by decide +kernel
theorem dX11_here_1 : decode cX11_here 1 = .ok (.getfield 159, 3) := by decide +kernel
theorem dX11_here_4 : decode cX11_here 4 = .ok (.aload_n 0, 1) := by decide +kernel
theorem dX11_here_5 : decode cX11_here 5 = .ok (.getfield 156, 3) := by decide +kernel
theorem dX11_here_8 : decode cX11_here 8 = .ok (.if_icmp .ge 15, 3) := by decide +kernel
theorem dX11_here_11 : decode cX11_here 11 = .ok (.aload_n 0, 1) := by decide +kernel
theorem dX11_here_12 : decode cX11_here 12 = .ok (.getfield 56, 3) := by decide +kernel
theorem dX11_here_15 : decode cX11_here 15 = .ok (.aload_n 0, 1) := by decide +kernel
theorem dX11_here_16 : decode cX11_here 16 = .ok (.getfield 159, 3) := by decide +kernel
theorem dX11_here_19 : decode cX11_here 19 = .ok (.iaload, 1) := by decide +kernel
theorem dX11_here_20 : decode cX11_here 20 = .ok (.goto 4, 3) := by decide +kernel
theorem dX11_here_23 : decode cX11_here 23 = .ok (.iconst (-1), 1) := by decide +kernel
theorem dX11_here_24 : decode cX11_here 24 = .ok (.ireturn, 1) := by decide +kernel
theorem dX11_readDigits_0 : decode cX11_readDigits 0 = .ok (.iconst 0, 1) := by decide +kernel
theorem dX11_readDigits_1 : decode cX11_readDigits 1 = .ok (.istore_n 2, 1) := by decide +kernel
theorem dX11_readDigits_2 : decode cX11_readDigits 2 = .ok (.iconst 0, 1) := by decide +kernel
theorem dX11_readDigits_3 : decode cX11_readDigits 3 = .ok (.istore_n 3, 1) := by decide +kernel
theorem dX11_readDigits_4 : decode cX11_readDigits 4 = .ok (.iload_n 3, 1) := by decide +kernel
theorem dX11_readDigits_5 : decode cX11_readDigits 5 = .ok (.iload_n 1, 1) := by decide +kernel
theorem dX11_readDigits_6 : decode cX11_readDigits 6 = .ok (.if_icmp .ge 92, 3) := by decide +kernel
theorem dX11_readDigits_9 : decode cX11_readDigits 9 = .ok (.aload_n 0, 1) := by decide +kernel
theorem dX11_readDigits_10 : decode cX11_readDigits 10 = .ok (.aload_n 0, 1) := by decide +kernel
theorem dX11_readDigits_11 : decode cX11_readDigits 11 = .ok (.getfield 162, 3) := by decide +kernel
theorem dX11_readDigits_14 : decode cX11_readDigits 14 = .ok (.ifCond .ne 20, 3) := by decide +kernel
theorem dX11_readDigits_17 : decode cX11_readDigits 17 = .ok (.aload_n 0, 1) := by decide +kernel
theorem dX11_readDigits_18 : decode cX11_readDigits 18 = .ok (.invokevirtual 166, 3) := by decide +kernel
theorem dX11_readDigits_21 : decode cX11_readDigits 21 = .ok (.i2l, 1) := by decide +kernel
theorem dX11_readDigits_22 : decode cX11_readDigits 22 = .ok (.ldc2_w 169, 3) := by decide +kernel
theorem dX11_readDigits_25 : decode cX11_readDigits 25 = .ok (.ldc2_w 171, 3) := by decide +kernel
theorem dX11_readDigits_28 : decode cX11_readDigits 28 = .ok (.invokestatic 107, 3) := by decide +kernel
theorem dX11_readDigits_31 : decode cX11_readDigits 31 = .ok (.ifCond .ne 7, 3) := by decide +kernel
theorem dX11_readDigits_34 : decode cX11_readDigits 34 = .ok (.iconst 1, 1) := by decide +kernel
theorem dX11_readDigits_35 : decode cX11_readDigits 35 = .ok (.goto 4, 3) := by decide +kernel
theorem dX11_readDigits_38 : decode cX11_readDigits 38 = .ok (.iconst 0, 1) := by decide +kernel
theorem dX11_readDigits_39 : decode cX11_readDigits 39 = .ok (.putfield 162, 3) := by decide +kernel
theorem dX11_readDigits_42 : decode cX11_readDigits 42 = .ok (.aload_n 0, 1) := by decide +kernel
theorem dX11_readDigits_43 : decode cX11_readDigits 43 = .ok (.getfield 162, 3) := by decide +kernel
theorem dX11_readDigits_46 : decode cX11_readDigits 46 = .ok (.ifCond .eq 7, 3) := by decide +kernel
theorem dX11_readDigits_49 : decode cX11_readDigits 49 = .ok (.iconst 0, 1) := by decide +kernel
theorem dX11_readDigits_50 : decode cX11_readDigits 50 = .ok (.goto 20, 3) := by decide +kernel
theorem dX11_readDigits_53 : decode cX11_readDigits 53 = .ok (.bipush 10, 2) := by decide +kernel
theorem dX11_readDigits_55 : decode cX11_readDigits 55 = .ok (.iload_n 2, 1) := by decide +kernel
theorem dX11_readDigits_56 : decode cX11_readDigits 56 = .ok (.imul, 1) := by decide +kernel
theorem dX11_readDigits_57 : decode cX11_readDigits 57 = .ok (.aload_n 0, 1) := by decide +kernel
theorem dX11_readDigits_58 : decode cX11_readDigits 58 = .ok (.getfield 56, 3) := by decide +kernel
theorem dX11_readDigits_61 : decode cX11_readDigits 61 = .ok (.aload_n 0, 1) := by decide +kernel
theorem dX11_readDigits_62 : decode cX11_readDigits 62 = .ok (.getfield 159, 3) := by decide +kernel
theorem dX11_readDigits_65 : decode cX11_readDigits 65 = .ok (.iaload, 1) := by decide +kernel
theorem dX11_readDigits_66 : decode cX11_readDigits 66 = .ok (.iadd, 1) := by decide +kernel
theorem dX11_readDigits_67 : decode cX11_readDigits 67 = .ok (.bipush 48, 2) := by decide +kernel
theorem dX11_readDigits_69 : decode cX11_readDigits 69 = .ok (.isub, 1) := by decide +kernel
theorem dX11_readDigits_70 : decode cX11_readDigits 70 = .ok (.istore_n 2, 1) := by decide +kernel
theorem dX11_readDigits_71 : decode cX11_readDigits 71 = .ok (.aload_n 0, 1) := by decide +kernel
theorem dX11_readDigits_72 : decode cX11_readDigits 72 = .ok (.dup, 1) := by decide +kernel
theorem dX11_readDigits_73 : decode cX11_readDigits 73 = .ok (.getfield 159, 3) := by decide +kernel
theorem dX11_readDigits_76 : decode cX11_readDigits 76 = .ok (.aload_n 0, 1) := by decide +kernel
theorem dX11_readDigits_77 : decode cX11_readDigits 77 = .ok (.getfield 162, 3) := by decide +kernel
theorem dX11_readDigits_80 : decode cX11_readDigits 80 = .ok (.ifCond .eq 7, 3) := by decide +kernel
theorem dX11_readDigits_83 : decode cX11_readDigits 83 = .ok (.iconst 0, 1) := by decide +kernel
theorem dX11_readDigits_84 : decode cX11_readDigits 84 = .ok (.goto 4, 3) := by decide +kernel
theorem dX11_readDigits_87 : decode cX11_readDigits 87 = .ok (.iconst 1, 1) := by decide +kernel
theorem dX11_readDigits_88 : decode cX11_readDigits 88 = .ok (.iadd, 1) := by decide +kernel
theorem dX11_readDigits_89 : decode cX11_readDigits 89 = .ok (.putfield 159, 3) := by decide +kernel
theorem dX11_readDigits_92 : decode cX11_readDigits 92 = .ok (.iinc 3 1, 3) := by decide +kernel
theorem dX11_readDigits_95 : decode cX11_readDigits 95 = .ok (.goto (-91), 3) := by decide +kernel
theorem dX11_readDigits_98 : decode cX11_readDigits 98 = .ok (.iload_n 2, 1) := by decide +kernel
theorem dX11_readDigits_99 : decode cX11_readDigits 99 = .ok (.ireturn, 1) := by decide +kernel
theorem dX11_readSigned_0 : decode cX11_readSigned 0 = .ok (.aload_n 0, 1) := by decide +kernel
theorem dX11_readSigned_1 : decode cX11_readSigned 1 = .ok (.invokevirtual 166, 3) := by decide +kernel
theorem dX11_readSigned_4 : decode cX11_readSigned 4 = .ok (.istore_n 1, 1) := by decide +kernel
theorem dX11_readSigned_5 : decode cX11_readSigned 5 = .ok (.aload_n 0, 1) := by decide +kernel
theorem dX11_readSigned_6 : decode cX11_readSigned 6 = .ok (.aload_n 0, 1) := by decide +kernel
theorem dX11_readSigned_7 : decode cX11_readSigned 7 = .ok (.getfield 162, 3) := by decide +kernel
theorem dX11_readSigned_10 : decode cX11_readSigned 10 = .ok (.ifCond .ne 15, 3) := by decide +kernel
theorem dX11_readSigned_13 : decode cX11_readSigned 13 = .ok (.iload_n 1, 1) := by decide +kernel
theorem dX11_readSigned_14 : decode cX11_readSigned 14 = .ok (.bipush 43, 2) := by decide +kernel
theorem dX11_readSigned_16 : decode cX11_readSigned 16 = .ok (.if_icmp .eq 13, 3) := by decide +kernel
theorem dX11_readSigned_19 : decode cX11_readSigned 19 = .ok (.iload_n 1, 1) := by decide +kernel
theorem dX11_readSigned_20 : decode cX11_readSigned 20 = .ok (.bipush 45, 2) := by decide +kernel
theorem dX11_readSigned_22 : decode cX11_readSigned 22 = .ok (.if_icmp .eq 7, 3) := by decide +kernel
theorem dX11_readSigned_25 : decode cX11_readSigned 25 = .ok (.iconst 1, 1) := by decide +kernel
theorem dX11_readSigned_26 : decode cX11_readSigned 26 = .ok (.goto 4, 3) := by decide +kernel
theorem dX11_readSigned_29 : decode cX11_readSigned 29 = .ok (.iconst 0, 1) := by decide +kernel
theorem dX11_readSigned_30 : decode cX11_readSigned 30 = .ok (.putfield 162, 3) := by decide +kernel
theorem dX11_readSigned_33 : decode cX11_readSigned 33 = .ok (.aload_n 0, 1) := by decide +kernel
theorem dX11_readSigned_34 : decode cX11_readSigned 34 = .ok (.dup, 1) := by decide +kernel
theorem dX11_readSigned_35 : decode cX11_readSigned 35 = .ok (.getfield 159, 3) := by decide +kernel
theorem dX11_readSigned_38 : decode cX11_readSigned 38 = .ok (.aload_n 0, 1) := by decide +kernel
theorem dX11_readSigned_39 : decode cX11_readSigned 39 = .ok (.getfield 162, 3) := by decide +kernel
theorem dX11_readSigned_42 : decode cX11_readSigned 42 = .ok (.ifCond .eq 7, 3) := by decide +kernel
theorem dX11_readSigned_45 : decode cX11_readSigned 45 = .ok (.iconst 0, 1) := by decide +kernel
theorem dX11_readSigned_46 : decode cX11_readSigned 46 = .ok (.goto 4, 3) := by decide +kernel
theorem dX11_readSigned_49 : decode cX11_readSigned 49 = .ok (.iconst 1, 1) := by decide +kernel
theorem dX11_readSigned_50 : decode cX11_readSigned 50 = .ok (.iadd, 1) := by decide +kernel
theorem dX11_readSigned_51 : decode cX11_readSigned 51 = .ok (.putfield 159, 3) := by decide +kernel
theorem dX11_readSigned_54 : decode cX11_readSigned 54 = .ok (.aload_n 0, 1) := by decide +kernel
theorem dX11_readSigned_55 : decode cX11_readSigned 55 = .ok (.iconst 1, 1) := by decide +kernel
theorem dX11_readSigned_56 : decode cX11_readSigned 56 = .ok (.invokevirtual 173, 3) := by decide +kernel
theorem dX11_readSigned_59 : decode cX11_readSigned 59 = .ok (.istore_n 2, 1) := by decide +kernel
theorem dX11_readSigned_60 : decode cX11_readSigned 60 = .ok (.iload_n 1, 1) := by decide +kernel
theorem dX11_readSigned_61 : decode cX11_readSigned 61 = .ok (.bipush 45, 2) := by decide +kernel
theorem dX11_readSigned_63 : decode cX11_readSigned 63 = .ok (.if_icmp .ne 8, 3) := by decide +kernel
theorem dX11_readSigned_66 : decode cX11_readSigned 66 = .ok (.iload_n 2, 1) := by decide +kernel
theorem dX11_readSigned_67 : decode cX11_readSigned 67 = .ok (.ineg, 1) := by decide +kernel
theorem dX11_readSigned_68 : decode cX11_readSigned 68 = .ok (.goto 4, 3) := by decide +kernel
theorem dX11_readSigned_71 : decode cX11_readSigned 71 = .ok (.iload_n 2, 1) := by decide +kernel
theorem dX11_readSigned_72 : decode cX11_readSigned 72 = .ok (.ireturn, 1) := by decide +kernel
theorem dX11_isLetter_0 : decode cX11_isLetter 0 = .ok (.iload_n 0, 1) := by decide +kernel
theorem dX11_isLetter_1 : decode cX11_isLetter 1 = .ok (.bipush 119, 2) := by decide +kernel
theorem dX11_isLetter_3 : decode cX11_isLetter 3 = .ok (.if_icmp .eq 39, 3) := by decide +kernel
theorem dX11_isLetter_6 : decode cX11_isLetter 6 = .ok (.iload_n 0, 1) := by decide +kernel
theorem dX11_isLetter_7 : decode cX11_isLetter 7 = .ok (.bipush 102, 2) := by decide +kernel
theorem dX11_isLetter_9 : decode cX11_isLetter 9 = .ok (.if_icmp .eq 33, 3) := by decide +kernel
theorem dX11_isLetter_12 : decode cX11_isLetter 12 = .ok (.iload_n 0, 1) := by decide +kernel
theorem dX11_isLetter_13 : decode cX11_isLetter 13 = .ok (.bipush 114, 2) := by decide +kernel
theorem dX11_isLetter_15 : decode cX11_isLetter 15 = .ok (.if_icmp .eq 27, 3) := by decide +kernel
theorem dX11_isLetter_18 : decode cX11_isLetter 18 = .ok (.iload_n 0, 1) := by decide +kernel
theorem dX11_isLetter_19 : decode cX11_isLetter 19 = .ok (.bipush 98, 2) := by decide +kernel
theorem dX11_isLetter_21 : decode cX11_isLetter 21 = .ok (.if_icmp .eq 21, 3) := by decide +kernel
theorem dX11_isLetter_24 : decode cX11_isLetter 24 = .ok (.iload_n 0, 1) := by decide +kernel
theorem dX11_isLetter_25 : decode cX11_isLetter 25 = .ok (.bipush 104, 2) := by decide +kernel
theorem dX11_isLetter_27 : decode cX11_isLetter 27 = .ok (.if_icmp .eq 15, 3) := by decide +kernel
theorem dX11_isLetter_30 : decode cX11_isLetter 30 = .ok (.iload_n 0, 1) := by decide +kernel
theorem dX11_isLetter_31 : decode cX11_isLetter 31 = .ok (.bipush 108, 2) := by decide +kernel
theorem dX11_isLetter_33 : decode cX11_isLetter 33 = .ok (.if_icmp .eq 9, 3) := by decide +kernel
theorem dX11_isLetter_36 : decode cX11_isLetter 36 = .ok (.iload_n 0, 1) := by decide +kernel
theorem dX11_isLetter_37 : decode cX11_isLetter 37 = .ok (.bipush 97, 2) := by decide +kernel
theorem dX11_isLetter_39 : decode cX11_isLetter 39 = .ok (.if_icmp .ne 7, 3) := by decide +kernel
theorem dX11_isLetter_42 : decode cX11_isLetter 42 = .ok (.iconst 1, 1) := by decide +kernel
theorem dX11_isLetter_43 : decode cX11_isLetter 43 = .ok (.goto 4, 3) := by decide +kernel
theorem dX11_isLetter_46 : decode cX11_isLetter 46 = .ok (.iconst 0, 1) := by decide +kernel
theorem dX11_isLetter_47 : decode cX11_isLetter 47 = .ok (.ireturn, 1) := by decide +kernel
theorem dX11_readActs_0 : decode cX11_readActs 0 = .ok (.iconst 0, 1) := by decide +kernel
theorem dX11_readActs_1 : decode cX11_readActs 1 = .ok (.istore_n 2, 1) := by decide +kernel
theorem dX11_readActs_2 : decode cX11_readActs 2 = .ok (.aload_n 0, 1) := by decide +kernel
theorem dX11_readActs_3 : decode cX11_readActs 3 = .ok (.getfield 162, 3) := by decide +kernel
theorem dX11_readActs_6 : decode cX11_readActs 6 = .ok (.ifCond .ne 52, 3) := by decide +kernel
theorem dX11_readActs_9 : decode cX11_readActs 9 = .ok (.iload_n 2, 1) := by decide +kernel
theorem dX11_readActs_10 : decode cX11_readActs 10 = .ok (.bipush 9, 2) := by decide +kernel
theorem dX11_readActs_12 : decode cX11_readActs 12 = .ok (.if_icmp .ge 46, 3) := by decide +kernel
theorem dX11_readActs_15 : decode cX11_readActs 15 = .ok (.iload_n 2, 1) := by decide +kernel
theorem dX11_readActs_16 : decode cX11_readActs 16 = .ok (.ifCond .eq 20, 3) := by decide +kernel
theorem dX11_readActs_19 : decode cX11_readActs 19 = .ok (.aload_n 0, 1) := by decide +kernel
theorem dX11_readActs_20 : decode cX11_readActs 20 = .ok (.invokevirtual 166, 3) := by decide +kernel
theorem dX11_readActs_23 : decode cX11_readActs 23 = .ok (.i2l, 1) := by decide +kernel
theorem dX11_readActs_24 : decode cX11_readActs 24 = .ok (.ldc2_w 169, 3) := by decide +kernel
theorem dX11_readActs_27 : decode cX11_readActs 27 = .ok (.ldc2_w 171, 3) := by decide +kernel
theorem dX11_readActs_30 : decode cX11_readActs 30 = .ok (.invokestatic 107, 3) := by decide +kernel
theorem dX11_readActs_33 : decode cX11_readActs 33 = .ok (.ifCond .eq 25, 3) := by decide +kernel
theorem dX11_readActs_36 : decode cX11_readActs 36 = .ok (.aload_n 0, 1) := by decide +kernel
theorem dX11_readActs_37 : decode cX11_readActs 37 = .ok (.getfield 65, 3) := by decide +kernel
theorem dX11_readActs_40 : decode cX11_readActs 40 = .ok (.bipush 9, 2) := by decide +kernel
theorem dX11_readActs_42 : decode cX11_readActs 42 = .ok (.iload_n 1, 1) := by decide +kernel
theorem dX11_readActs_43 : decode cX11_readActs 43 = .ok (.imul, 1) := by decide +kernel
theorem dX11_readActs_44 : decode cX11_readActs 44 = .ok (.iload_n 2, 1) := by decide +kernel
theorem dX11_readActs_45 : decode cX11_readActs 45 = .ok (.iadd, 1) := by decide +kernel
theorem dX11_readActs_46 : decode cX11_readActs 46 = .ok (.aload_n 0, 1) := by decide +kernel
theorem dX11_readActs_47 : decode cX11_readActs 47 = .ok (.iconst 1, 1) := by decide +kernel
theorem dX11_readActs_48 : decode cX11_readActs 48 = .ok (.invokevirtual 173, 3) := by decide +kernel
theorem dX11_readActs_51 : decode cX11_readActs 51 = .ok (.iastore, 1) := by decide +kernel
theorem dX11_readActs_52 : decode cX11_readActs 52 = .ok (.iinc 2 1, 3) := by decide +kernel
theorem dX11_readActs_55 : decode cX11_readActs 55 = .ok (.goto (-53), 3) := by decide +kernel
theorem dX11_readActs_58 : decode cX11_readActs 58 = .ok (.aload_n 0, 1) := by decide +kernel
theorem dX11_readActs_59 : decode cX11_readActs 59 = .ok (.getfield 68, 3) := by decide +kernel
theorem dX11_readActs_62 : decode cX11_readActs 62 = .ok (.iload_n 1, 1) := by decide +kernel
theorem dX11_readActs_63 : decode cX11_readActs 63 = .ok (.iload_n 2, 1) := by decide +kernel
theorem dX11_readActs_64 : decode cX11_readActs 64 = .ok (.iastore, 1) := by decide +kernel
theorem dX11_readActs_65 : decode cX11_readActs 65 = .ok (.return_, 1) := by decide +kernel
theorem dX11_readStatement_0 : decode cX11_readStatement 0 = .ok (.aload_n 0, 1) := by decide +kernel
theorem dX11_readStatement_1 : decode cX11_readStatement 1 = .ok (.getfield 176, 3) := by decide +kernel
theorem dX11_readStatement_4 : decode cX11_readStatement 4 = .ok (.istore_n 1, 1) := by decide +kernel
theorem dX11_readStatement_5 : decode cX11_readStatement 5 = .ok (.aload_n 0, 1) := by decide +kernel
theorem dX11_readStatement_6 : decode cX11_readStatement 6 = .ok (.invokevirtual 166, 3) := by decide +kernel
theorem dX11_readStatement_9 : decode cX11_readStatement 9 = .ok (.istore_n 2, 1) := by decide +kernel
theorem dX11_readStatement_10 : decode cX11_readStatement 10 = .ok (.bipush 9, 2) := by decide +kernel
theorem dX11_readStatement_12 : decode cX11_readStatement 12 = .ok (.iload_n 1, 1) := by decide +kernel
theorem dX11_readStatement_13 : decode cX11_readStatement 13 = .ok (.imul, 1) := by decide +kernel
theorem dX11_readStatement_14 : decode cX11_readStatement 14 = .ok (.istore_n 3, 1) := by decide +kernel
theorem dX11_readStatement_15 : decode cX11_readStatement 15 = .ok (.aload_n 0, 1) := by decide +kernel
theorem dX11_readStatement_16 : decode cX11_readStatement 16 = .ok (.getfield 59, 3) := by decide +kernel
theorem dX11_readStatement_19 : decode cX11_readStatement 19 = .ok (.iload_n 1, 1) := by decide +kernel
theorem dX11_readStatement_20 : decode cX11_readStatement 20 = .ok (.aload_n 0, 1) := by decide +kernel
theorem dX11_readStatement_21 : decode cX11_readStatement 21 = .ok (.getfield 159, 3) := by decide +kernel
theorem dX11_readStatement_24 : decode cX11_readStatement 24 = .ok (.iastore, 1) := by decide +kernel
theorem dX11_readStatement_25 : decode cX11_readStatement 25 = .ok (.aload_n 0, 1) := by decide +kernel
theorem dX11_readStatement_26 : decode cX11_readStatement 26 = .ok (.getfield 62, 3) := by decide +kernel
theorem dX11_readStatement_29 : decode cX11_readStatement 29 = .ok (.iload_n 1, 1) := by decide +kernel
theorem dX11_readStatement_30 : decode cX11_readStatement 30 = .ok (.iload_n 2, 1) := by decide +kernel
theorem dX11_readStatement_31 : decode cX11_readStatement 31 = .ok (.iastore, 1) := by decide +kernel
theorem dX11_readStatement_32 : decode cX11_readStatement 32 = .ok (.aload_n 0, 1) := by decide +kernel
theorem dX11_readStatement_33 : decode cX11_readStatement 33 = .ok (.aload_n 0, 1) := by decide +kernel
theorem dX11_readStatement_34 : decode cX11_readStatement 34 = .ok (.getfield 162, 3) := by decide +kernel
theorem dX11_readStatement_37 : decode cX11_readStatement 37 = .ok (.ifCond .ne 10, 3) := by decide +kernel
theorem dX11_readStatement_40 : decode cX11_readStatement 40 = .ok (.iload_n 2, 1) := by decide +kernel
theorem dX11_readStatement_41 : decode cX11_readStatement 41 = .ok (.invokestatic 179, 3) := by decide +kernel
theorem dX11_readStatement_44 : decode cX11_readStatement 44 = .ok (.ifCond .ne 7, 3) := by decide +kernel
theorem dX11_readStatement_47 : decode cX11_readStatement 47 = .ok (.iconst 1, 1) := by decide +kernel
theorem dX11_readStatement_48 : decode cX11_readStatement 48 = .ok (.goto 4, 3) := by decide +kernel
theorem dX11_readStatement_51 : decode cX11_readStatement 51 = .ok (.iconst 0, 1) := by decide +kernel
theorem dX11_readStatement_52 : decode cX11_readStatement 52 = .ok (.putfield 162, 3) := by decide +kernel
theorem dX11_readStatement_55 : decode cX11_readStatement 55 = .ok (.aload_n 0, 1) := by decide +kernel
theorem dX11_readStatement_56 : decode cX11_readStatement 56 = .ok (.dup, 1) := by decide +kernel
theorem dX11_readStatement_57 : decode cX11_readStatement 57 = .ok (.getfield 159, 3) := by decide +kernel
theorem dX11_readStatement_60 : decode cX11_readStatement 60 = .ok (.aload_n 0, 1) := by decide +kernel
theorem dX11_readStatement_61 : decode cX11_readStatement 61 = .ok (.getfield 162, 3) := by decide +kernel
theorem dX11_readStatement_64 : decode cX11_readStatement 64 = .ok (.ifCond .eq 7, 3) := by decide +kernel
theorem dX11_readStatement_67 : decode cX11_readStatement 67 = .ok (.iconst 0, 1) := by decide +kernel
theorem dX11_readStatement_68 : decode cX11_readStatement 68 = .ok (.goto 4, 3) := by decide +kernel
theorem dX11_readStatement_71 : decode cX11_readStatement 71 = .ok (.iconst 1, 1) := by decide +kernel
theorem dX11_readStatement_72 : decode cX11_readStatement 72 = .ok (.iadd, 1) := by decide +kernel
theorem dX11_readStatement_73 : decode cX11_readStatement 73 = .ok (.putfield 159, 3) := by decide +kernel
theorem dX11_readStatement_76 : decode cX11_readStatement 76 = .ok (.iload_n 2, 1) := by decide +kernel
theorem dX11_readStatement_77 : decode cX11_readStatement 77 = .ok (.lookupswitch 272 #[(98, 204), (102, 98), (104, 244), (108, 258), (114, 164), (119, 59)], 59) := by decide +kernel
theorem dX11_readStatement_136 : decode cX11_readStatement 136 = .ok (.aload_n 0, 1) := by decide +kernel
theorem dX11_readStatement_137 : decode cX11_readStatement 137 = .ok (.getfield 65, 3) := by decide +kernel
theorem dX11_readStatement_140 : decode cX11_readStatement 140 = .ok (.iload_n 3, 1) := by decide +kernel
theorem dX11_readStatement_141 : decode cX11_readStatement 141 = .ok (.aload_n 0, 1) := by decide +kernel
theorem dX11_readStatement_142 : decode cX11_readStatement 142 = .ok (.iconst 1, 1) := by decide +kernel
theorem dX11_readStatement_143 : decode cX11_readStatement 143 = .ok (.invokevirtual 173, 3) := by decide +kernel
theorem dX11_readStatement_146 : decode cX11_readStatement 146 = .ok (.iastore, 1) := by decide +kernel
theorem dX11_readStatement_147 : decode cX11_readStatement 147 = .ok (.aload_n 0, 1) := by decide +kernel
theorem dX11_readStatement_148 : decode cX11_readStatement 148 = .ok (.getfield 65, 3) := by decide +kernel
theorem dX11_readStatement_151 : decode cX11_readStatement 151 = .ok (.iload_n 3, 1) := by decide +kernel
theorem dX11_readStatement_152 : decode cX11_readStatement 152 = .ok (.iconst 1, 1) := by decide +kernel
theorem dX11_readStatement_153 : decode cX11_readStatement 153 = .ok (.iadd, 1) := by decide +kernel
theorem dX11_readStatement_154 : decode cX11_readStatement 154 = .ok (.aload_n 0, 1) := by decide +kernel
theorem dX11_readStatement_155 : decode cX11_readStatement 155 = .ok (.invokevirtual 183, 3) := by decide +kernel
theorem dX11_readStatement_158 : decode cX11_readStatement 158 = .ok (.iastore, 1) := by decide +kernel
theorem dX11_readStatement_159 : decode cX11_readStatement 159 = .ok (.aload_n 0, 1) := by decide +kernel
theorem dX11_readStatement_160 : decode cX11_readStatement 160 = .ok (.getfield 65, 3) := by decide +kernel
theorem dX11_readStatement_163 : decode cX11_readStatement 163 = .ok (.iload_n 3, 1) := by decide +kernel
theorem dX11_readStatement_164 : decode cX11_readStatement 164 = .ok (.iconst 2, 1) := by decide +kernel
theorem dX11_readStatement_165 : decode cX11_readStatement 165 = .ok (.iadd, 1) := by decide +kernel
theorem dX11_readStatement_166 : decode cX11_readStatement 166 = .ok (.aload_n 0, 1) := by decide +kernel
theorem dX11_readStatement_167 : decode cX11_readStatement 167 = .ok (.iconst 1, 1) := by decide +kernel
theorem dX11_readStatement_168 : decode cX11_readStatement 168 = .ok (.invokevirtual 173, 3) := by decide +kernel
theorem dX11_readStatement_171 : decode cX11_readStatement 171 = .ok (.iastore, 1) := by decide +kernel
theorem dX11_readStatement_172 : decode cX11_readStatement 172 = .ok (.goto 182, 3) := by decide +kernel
theorem dX11_readStatement_175 : decode cX11_readStatement 175 = .ok (.aload_n 0, 1) := by decide +kernel
theorem dX11_readStatement_176 : decode cX11_readStatement 176 = .ok (.getfield 65, 3) := by decide +kernel
theorem dX11_readStatement_179 : decode cX11_readStatement 179 = .ok (.iload_n 3, 1) := by decide +kernel
theorem dX11_readStatement_180 : decode cX11_readStatement 180 = .ok (.aload_n 0, 1) := by decide +kernel
theorem dX11_readStatement_181 : decode cX11_readStatement 181 = .ok (.iconst 1, 1) := by decide +kernel
theorem dX11_readStatement_182 : decode cX11_readStatement 182 = .ok (.invokevirtual 173, 3) := by decide +kernel
theorem dX11_readStatement_185 : decode cX11_readStatement 185 = .ok (.iastore, 1) := by decide +kernel
theorem dX11_readStatement_186 : decode cX11_readStatement 186 = .ok (.aload_n 0, 1) := by decide +kernel
theorem dX11_readStatement_187 : decode cX11_readStatement 187 = .ok (.getfield 65, 3) := by decide +kernel
theorem dX11_readStatement_190 : decode cX11_readStatement 190 = .ok (.iload_n 3, 1) := by decide +kernel
theorem dX11_readStatement_191 : decode cX11_readStatement 191 = .ok (.iconst 1, 1) := by decide +kernel
theorem dX11_readStatement_192 : decode cX11_readStatement 192 = .ok (.iadd, 1) := by decide +kernel
theorem dX11_readStatement_193 : decode cX11_readStatement 193 = .ok (.aload_n 0, 1) := by decide +kernel
theorem dX11_readStatement_194 : decode cX11_readStatement 194 = .ok (.iconst 1, 1) := by decide +kernel
theorem dX11_readStatement_195 : decode cX11_readStatement 195 = .ok (.invokevirtual 173, 3) := by decide +kernel
theorem dX11_readStatement_198 : decode cX11_readStatement 198 = .ok (.iastore, 1) := by decide +kernel
theorem dX11_readStatement_199 : decode cX11_readStatement 199 = .ok (.aload_n 0, 1) := by decide +kernel
theorem dX11_readStatement_200 : decode cX11_readStatement 200 = .ok (.getfield 65, 3) := by decide +kernel
theorem dX11_readStatement_203 : decode cX11_readStatement 203 = .ok (.iload_n 3, 1) := by decide +kernel
theorem dX11_readStatement_204 : decode cX11_readStatement 204 = .ok (.iconst 2, 1) := by decide +kernel
theorem dX11_readStatement_205 : decode cX11_readStatement 205 = .ok (.iadd, 1) := by decide +kernel
theorem dX11_readStatement_206 : decode cX11_readStatement 206 = .ok (.aload_n 0, 1) := by decide +kernel
theorem dX11_readStatement_207 : decode cX11_readStatement 207 = .ok (.iconst 3, 1) := by decide +kernel
theorem dX11_readStatement_208 : decode cX11_readStatement 208 = .ok (.invokevirtual 173, 3) := by decide +kernel
theorem dX11_readStatement_211 : decode cX11_readStatement 211 = .ok (.iastore, 1) := by decide +kernel
theorem dX11_readStatement_212 : decode cX11_readStatement 212 = .ok (.aload_n 0, 1) := by decide +kernel
theorem dX11_readStatement_213 : decode cX11_readStatement 213 = .ok (.getfield 65, 3) := by decide +kernel
theorem dX11_readStatement_216 : decode cX11_readStatement 216 = .ok (.iload_n 3, 1) := by decide +kernel
theorem dX11_readStatement_217 : decode cX11_readStatement 217 = .ok (.iconst 3, 1) := by decide +kernel
theorem dX11_readStatement_218 : decode cX11_readStatement 218 = .ok (.iadd, 1) := by decide +kernel
theorem dX11_readStatement_219 : decode cX11_readStatement 219 = .ok (.aload_n 0, 1) := by decide +kernel
theorem dX11_readStatement_220 : decode cX11_readStatement 220 = .ok (.iconst 3, 1) := by decide +kernel
theorem dX11_readStatement_221 : decode cX11_readStatement 221 = .ok (.invokevirtual 173, 3) := by decide +kernel
theorem dX11_readStatement_224 : decode cX11_readStatement 224 = .ok (.iastore, 1) := by decide +kernel
theorem dX11_readStatement_225 : decode cX11_readStatement 225 = .ok (.aload_n 0, 1) := by decide +kernel
theorem dX11_readStatement_226 : decode cX11_readStatement 226 = .ok (.getfield 65, 3) := by decide +kernel
theorem dX11_readStatement_229 : decode cX11_readStatement 229 = .ok (.iload_n 3, 1) := by decide +kernel
theorem dX11_readStatement_230 : decode cX11_readStatement 230 = .ok (.iconst 4, 1) := by decide +kernel
theorem dX11_readStatement_231 : decode cX11_readStatement 231 = .ok (.iadd, 1) := by decide +kernel
theorem dX11_readStatement_232 : decode cX11_readStatement 232 = .ok (.aload_n 0, 1) := by decide +kernel
theorem dX11_readStatement_233 : decode cX11_readStatement 233 = .ok (.iconst 2, 1) := by decide +kernel
theorem dX11_readStatement_234 : decode cX11_readStatement 234 = .ok (.invokevirtual 173, 3) := by decide +kernel
theorem dX11_readStatement_237 : decode cX11_readStatement 237 = .ok (.iastore, 1) := by decide +kernel
theorem dX11_readStatement_238 : decode cX11_readStatement 238 = .ok (.goto 116, 3) := by decide +kernel
theorem dX11_readStatement_241 : decode cX11_readStatement 241 = .ok (.aload_n 0, 1) := by decide +kernel
theorem dX11_readStatement_242 : decode cX11_readStatement 242 = .ok (.getfield 65, 3) := by decide +kernel
theorem dX11_readStatement_245 : decode cX11_readStatement 245 = .ok (.iload_n 3, 1) := by decide +kernel
theorem dX11_readStatement_246 : decode cX11_readStatement 246 = .ok (.aload_n 0, 1) := by decide +kernel
theorem dX11_readStatement_247 : decode cX11_readStatement 247 = .ok (.iconst 1, 1) := by decide +kernel
theorem dX11_readStatement_248 : decode cX11_readStatement 248 = .ok (.invokevirtual 173, 3) := by decide +kernel
theorem dX11_readStatement_251 : decode cX11_readStatement 251 = .ok (.iastore, 1) := by decide +kernel
theorem dX11_readStatement_252 : decode cX11_readStatement 252 = .ok (.aload_n 0, 1) := by decide +kernel
theorem dX11_readStatement_253 : decode cX11_readStatement 253 = .ok (.getfield 65, 3) := by decide +kernel
theorem dX11_readStatement_256 : decode cX11_readStatement 256 = .ok (.iload_n 3, 1) := by decide +kernel
theorem dX11_readStatement_257 : decode cX11_readStatement 257 = .ok (.iconst 1, 1) := by decide +kernel
theorem dX11_readStatement_258 : decode cX11_readStatement 258 = .ok (.iadd, 1) := by decide +kernel
theorem dX11_readStatement_259 : decode cX11_readStatement 259 = .ok (.aload_n 0, 1) := by decide +kernel
theorem dX11_readStatement_260 : decode cX11_readStatement 260 = .ok (.iconst 1, 1) := by decide +kernel
theorem dX11_readStatement_261 : decode cX11_readStatement 261 = .ok (.invokevirtual 173, 3) := by decide +kernel
theorem dX11_readStatement_264 : decode cX11_readStatement 264 = .ok (.iastore, 1) := by decide +kernel
theorem dX11_readStatement_265 : decode cX11_readStatement 265 = .ok (.aload_n 0, 1) := by decide +kernel
theorem dX11_readStatement_266 : decode cX11_readStatement 266 = .ok (.getfield 65, 3) := by decide +kernel
theorem dX11_readStatement_269 : decode cX11_readStatement 269 = .ok (.iload_n 3, 1) := by decide +kernel
theorem dX11_readStatement_270 : decode cX11_readStatement 270 = .ok (.iconst 2, 1) := by decide +kernel
theorem dX11_readStatement_271 : decode cX11_readStatement 271 = .ok (.iadd, 1) := by decide +kernel
theorem dX11_readStatement_272 : decode cX11_readStatement 272 = .ok (.aload_n 0, 1) := by decide +kernel
theorem dX11_readStatement_273 : decode cX11_readStatement 273 = .ok (.iconst 2, 1) := by decide +kernel
theorem dX11_readStatement_274 : decode cX11_readStatement 274 = .ok (.invokevirtual 173, 3) := by decide +kernel
theorem dX11_readStatement_277 : decode cX11_readStatement 277 = .ok (.iastore, 1) := by decide +kernel
theorem dX11_readStatement_278 : decode cX11_readStatement 278 = .ok (.goto 76, 3) := by decide +kernel
theorem dX11_readStatement_281 : decode cX11_readStatement 281 = .ok (.aload_n 0, 1) := by decide +kernel
theorem dX11_readStatement_282 : decode cX11_readStatement 282 = .ok (.getfield 65, 3) := by decide +kernel
theorem dX11_readStatement_285 : decode cX11_readStatement 285 = .ok (.iload_n 3, 1) := by decide +kernel
theorem dX11_readStatement_286 : decode cX11_readStatement 286 = .ok (.aload_n 0, 1) := by decide +kernel
theorem dX11_readStatement_287 : decode cX11_readStatement 287 = .ok (.iconst 2, 1) := by decide +kernel
theorem dX11_readStatement_288 : decode cX11_readStatement 288 = .ok (.invokevirtual 173, 3) := by decide +kernel
theorem dX11_readStatement_291 : decode cX11_readStatement 291 = .ok (.iastore, 1) := by decide +kernel
theorem dX11_readStatement_292 : decode cX11_readStatement 292 = .ok (.aload_n 0, 1) := by decide +kernel
theorem dX11_readStatement_293 : decode cX11_readStatement 293 = .ok (.getfield 65, 3) := by decide +kernel
theorem dX11_readStatement_296 : decode cX11_readStatement 296 = .ok (.iload_n 3, 1) := by decide +kernel
theorem dX11_readStatement_297 : decode cX11_readStatement 297 = .ok (.iconst 1, 1) := by decide +kernel
theorem dX11_readStatement_298 : decode cX11_readStatement 298 = .ok (.iadd, 1) := by decide +kernel
theorem dX11_readStatement_299 : decode cX11_readStatement 299 = .ok (.aload_n 0, 1) := by decide +kernel
theorem dX11_readStatement_300 : decode cX11_readStatement 300 = .ok (.iconst 2, 1) := by decide +kernel
theorem dX11_readStatement_301 : decode cX11_readStatement 301 = .ok (.invokevirtual 173, 3) := by decide +kernel
theorem dX11_readStatement_304 : decode cX11_readStatement 304 = .ok (.iastore, 1) := by decide +kernel
theorem dX11_readStatement_305 : decode cX11_readStatement 305 = .ok (.aload_n 0, 1) := by decide +kernel
theorem dX11_readStatement_306 : decode cX11_readStatement 306 = .ok (.getfield 65, 3) := by decide +kernel
theorem dX11_readStatement_309 : decode cX11_readStatement 309 = .ok (.iload_n 3, 1) := by decide +kernel
theorem dX11_readStatement_310 : decode cX11_readStatement 310 = .ok (.iconst 2, 1) := by decide +kernel
theorem dX11_readStatement_311 : decode cX11_readStatement 311 = .ok (.iadd, 1) := by decide +kernel
theorem dX11_readStatement_312 : decode cX11_readStatement 312 = .ok (.aload_n 0, 1) := by decide +kernel
theorem dX11_readStatement_313 : decode cX11_readStatement 313 = .ok (.iconst 1, 1) := by decide +kernel
theorem dX11_readStatement_314 : decode cX11_readStatement 314 = .ok (.invokevirtual 173, 3) := by decide +kernel
theorem dX11_readStatement_317 : decode cX11_readStatement 317 = .ok (.iastore, 1) := by decide +kernel
theorem dX11_readStatement_318 : decode cX11_readStatement 318 = .ok (.goto 36, 3) := by decide +kernel
theorem dX11_readStatement_321 : decode cX11_readStatement 321 = .ok (.aload_n 0, 1) := by decide +kernel
theorem dX11_readStatement_322 : decode cX11_readStatement 322 = .ok (.getfield 65, 3) := by decide +kernel
theorem dX11_readStatement_325 : decode cX11_readStatement 325 = .ok (.iload_n 3, 1) := by decide +kernel
theorem dX11_readStatement_326 : decode cX11_readStatement 326 = .ok (.aload_n 0, 1) := by decide +kernel
theorem dX11_readStatement_327 : decode cX11_readStatement 327 = .ok (.iconst 2, 1) := by decide +kernel
theorem dX11_readStatement_328 : decode cX11_readStatement 328 = .ok (.invokevirtual 173, 3) := by decide +kernel
theorem dX11_readStatement_331 : decode cX11_readStatement 331 = .ok (.iastore, 1) := by decide +kernel
theorem dX11_readStatement_332 : decode cX11_readStatement 332 = .ok (.goto 22, 3) := by decide +kernel
theorem dX11_readStatement_335 : decode cX11_readStatement 335 = .ok (.aload_n 0, 1) := by decide +kernel
theorem dX11_readStatement_336 : decode cX11_readStatement 336 = .ok (.getfield 65, 3) := by decide +kernel
theorem dX11_readStatement_339 : decode cX11_readStatement 339 = .ok (.iload_n 3, 1) := by decide +kernel
theorem dX11_readStatement_340 : decode cX11_readStatement 340 = .ok (.aload_n 0, 1) := by decide +kernel
theorem dX11_readStatement_341 : decode cX11_readStatement 341 = .ok (.iconst 1, 1) := by decide +kernel
theorem dX11_readStatement_342 : decode cX11_readStatement 342 = .ok (.invokevirtual 173, 3) := by decide +kernel
theorem dX11_readStatement_345 : decode cX11_readStatement 345 = .ok (.iastore, 1) := by decide +kernel
theorem dX11_readStatement_346 : decode cX11_readStatement 346 = .ok (.goto 8, 3) := by decide +kernel
theorem dX11_readStatement_349 : decode cX11_readStatement 349 = .ok (.aload_n 0, 1) := by decide +kernel
theorem dX11_readStatement_350 : decode cX11_readStatement 350 = .ok (.iload_n 1, 1) := by decide +kernel
theorem dX11_readStatement_351 : decode cX11_readStatement 351 = .ok (.invokevirtual 186, 3) := by decide +kernel
theorem dX11_readStatement_354 : decode cX11_readStatement 354 = .ok (.aload_n 0, 1) := by decide +kernel
theorem dX11_readStatement_355 : decode cX11_readStatement 355 = .ok (.aload_n 0, 1) := by decide +kernel
theorem dX11_readStatement_356 : decode cX11_readStatement 356 = .ok (.getfield 162, 3) := by decide +kernel
theorem dX11_readStatement_359 : decode cX11_readStatement 359 = .ok (.ifCond .ne 12, 3) := by decide +kernel
theorem dX11_readStatement_362 : decode cX11_readStatement 362 = .ok (.aload_n 0, 1) := by decide +kernel
theorem dX11_readStatement_363 : decode cX11_readStatement 363 = .ok (.invokevirtual 166, 3) := by decide +kernel
theorem dX11_readStatement_366 : decode cX11_readStatement 366 = .ok (.bipush 59, 2) := by decide +kernel
theorem dX11_readStatement_368 : decode cX11_readStatement 368 = .ok (.if_icmp .eq 7, 3) := by decide +kernel
theorem dX11_readStatement_371 : decode cX11_readStatement 371 = .ok (.iconst 1, 1) := by decide +kernel
theorem dX11_readStatement_372 : decode cX11_readStatement 372 = .ok (.goto 4, 3) := by decide +kernel
theorem dX11_readStatement_375 : decode cX11_readStatement 375 = .ok (.iconst 0, 1) := by decide +kernel
theorem dX11_readStatement_376 : decode cX11_readStatement 376 = .ok (.putfield 162, 3) := by decide +kernel
theorem dX11_readStatement_379 : decode cX11_readStatement 379 = .ok (.aload_n 0, 1) := by decide +kernel
theorem dX11_readStatement_380 : decode cX11_readStatement 380 = .ok (.dup, 1) := by decide +kernel
theorem dX11_readStatement_381 : decode cX11_readStatement 381 = .ok (.getfield 159, 3) := by decide +kernel
theorem dX11_readStatement_384 : decode cX11_readStatement 384 = .ok (.aload_n 0, 1) := by decide +kernel
theorem dX11_readStatement_385 : decode cX11_readStatement 385 = .ok (.getfield 162, 3) := by decide +kernel
theorem dX11_readStatement_388 : decode cX11_readStatement 388 = .ok (.ifCond .eq 7, 3) := by decide +kernel
theorem dX11_readStatement_391 : decode cX11_readStatement 391 = .ok (.iconst 0, 1) := by decide +kernel
theorem dX11_readStatement_392 : decode cX11_readStatement 392 = .ok (.goto 4, 3) := by decide +kernel
theorem dX11_readStatement_395 : decode cX11_readStatement 395 = .ok (.iconst 1, 1) := by decide +kernel
theorem dX11_readStatement_396 : decode cX11_readStatement 396 = .ok (.iadd, 1) := by decide +kernel
theorem dX11_readStatement_397 : decode cX11_readStatement 397 = .ok (.putfield 159, 3) := by decide +kernel
theorem dX11_readStatement_400 : decode cX11_readStatement 400 = .ok (.aload_n 0, 1) := by decide +kernel
theorem dX11_readStatement_401 : decode cX11_readStatement 401 = .ok (.dup, 1) := by decide +kernel
theorem dX11_readStatement_402 : decode cX11_readStatement 402 = .ok (.getfield 176, 3) := by decide +kernel
theorem dX11_readStatement_405 : decode cX11_readStatement 405 = .ok (.iconst 1, 1) := by decide +kernel
theorem dX11_readStatement_406 : decode cX11_readStatement 406 = .ok (.iadd, 1) := by decide +kernel
theorem dX11_readStatement_407 : decode cX11_readStatement 407 = .ok (.putfield 176, 3) := by decide +kernel
theorem dX11_readStatement_410 : decode cX11_readStatement 410 = .ok (.return_, 1) := by decide +kernel
theorem dX11_fieldComes_0 : decode cX11_fieldComes 0 = .ok (.aload_n 0, 1) := by decide +kernel
theorem dX11_fieldComes_1 : decode cX11_fieldComes 1 = .ok (.getfield 65, 3) := by decide +kernel
theorem dX11_fieldComes_4 : decode cX11_fieldComes 4 = .ok (.iload_n 1, 1) := by decide +kernel
theorem dX11_fieldComes_5 : decode cX11_fieldComes 5 = .ok (.iaload, 1) := by decide +kernel
theorem dX11_fieldComes_6 : decode cX11_fieldComes 6 = .ok (.bipush 6, 2) := by decide +kernel
theorem dX11_fieldComes_8 : decode cX11_fieldComes 8 = .ok (.if_icmp .ge 35, 3) := by decide +kernel
theorem dX11_fieldComes_11 : decode cX11_fieldComes 11 = .ok (.aload_n 0, 1) := by decide +kernel
theorem dX11_fieldComes_12 : decode cX11_fieldComes 12 = .ok (.getfield 65, 3) := by decide +kernel
theorem dX11_fieldComes_15 : decode cX11_fieldComes 15 = .ok (.iload_n 1, 1) := by decide +kernel
theorem dX11_fieldComes_16 : decode cX11_fieldComes 16 = .ok (.iconst 4, 1) := by decide +kernel
theorem dX11_fieldComes_17 : decode cX11_fieldComes 17 = .ok (.iadd, 1) := by decide +kernel
theorem dX11_fieldComes_18 : decode cX11_fieldComes 18 = .ok (.iaload, 1) := by decide +kernel
theorem dX11_fieldComes_19 : decode cX11_fieldComes 19 = .ok (.i2l, 1) := by decide +kernel
theorem dX11_fieldComes_20 : decode cX11_fieldComes 20 = .ok (.lconst 1, 1) := by decide +kernel
theorem dX11_fieldComes_21 : decode cX11_fieldComes 21 = .ok (.ldc2_w 189, 3) := by decide +kernel
theorem dX11_fieldComes_24 : decode cX11_fieldComes 24 = .ok (.invokestatic 107, 3) := by decide +kernel
theorem dX11_fieldComes_27 : decode cX11_fieldComes 27 = .ok (.ifCond .eq 16, 3) := by decide +kernel
theorem dX11_fieldComes_30 : decode cX11_fieldComes 30 = .ok (.aload_n 0, 1) := by decide +kernel
theorem dX11_fieldComes_31 : decode cX11_fieldComes 31 = .ok (.getfield 111, 3) := by decide +kernel
theorem dX11_fieldComes_34 : decode cX11_fieldComes 34 = .ok (.bipush 8, 2) := by decide +kernel
theorem dX11_fieldComes_36 : decode cX11_fieldComes 36 = .ok (.if_icmp .ge 7, 3) := by decide +kernel
theorem dX11_fieldComes_39 : decode cX11_fieldComes 39 = .ok (.iconst 1, 1) := by decide +kernel
theorem dX11_fieldComes_40 : decode cX11_fieldComes 40 = .ok (.goto 4, 3) := by decide +kernel
theorem dX11_fieldComes_43 : decode cX11_fieldComes 43 = .ok (.iconst 0, 1) := by decide +kernel
theorem dX11_fieldComes_44 : decode cX11_fieldComes 44 = .ok (.istore_n 2, 1) := by decide +kernel
theorem dX11_fieldComes_45 : decode cX11_fieldComes 45 = .ok (.iload_n 2, 1) := by decide +kernel
theorem dX11_fieldComes_46 : decode cX11_fieldComes 46 = .ok (.ifCond .eq 96, 3) := by decide +kernel
theorem dX11_fieldComes_49 : decode cX11_fieldComes 49 = .ok (.aload_n 0, 1) := by decide +kernel
theorem dX11_fieldComes_50 : decode cX11_fieldComes 50 = .ok (.getfield 35, 3) := by decide +kernel
theorem dX11_fieldComes_53 : decode cX11_fieldComes 53 = .ok (.aload_n 0, 1) := by decide +kernel
theorem dX11_fieldComes_54 : decode cX11_fieldComes 54 = .ok (.getfield 111, 3) := by decide +kernel
theorem dX11_fieldComes_57 : decode cX11_fieldComes 57 = .ok (.aload_n 0, 1) := by decide +kernel
theorem dX11_fieldComes_58 : decode cX11_fieldComes 58 = .ok (.getfield 65, 3) := by decide +kernel
theorem dX11_fieldComes_61 : decode cX11_fieldComes 61 = .ok (.iload_n 1, 1) := by decide +kernel
theorem dX11_fieldComes_62 : decode cX11_fieldComes 62 = .ok (.iaload, 1) := by decide +kernel
theorem dX11_fieldComes_63 : decode cX11_fieldComes 63 = .ok (.iastore, 1) := by decide +kernel
theorem dX11_fieldComes_64 : decode cX11_fieldComes 64 = .ok (.aload_n 0, 1) := by decide +kernel
theorem dX11_fieldComes_65 : decode cX11_fieldComes 65 = .ok (.getfield 38, 3) := by decide +kernel
theorem dX11_fieldComes_68 : decode cX11_fieldComes 68 = .ok (.aload_n 0, 1) := by decide +kernel
theorem dX11_fieldComes_69 : decode cX11_fieldComes 69 = .ok (.getfield 111, 3) := by decide +kernel
theorem dX11_fieldComes_72 : decode cX11_fieldComes 72 = .ok (.aload_n 0, 1) := by decide +kernel
theorem dX11_fieldComes_73 : decode cX11_fieldComes 73 = .ok (.getfield 65, 3) := by decide +kernel
theorem dX11_fieldComes_76 : decode cX11_fieldComes 76 = .ok (.iload_n 1, 1) := by decide +kernel
theorem dX11_fieldComes_77 : decode cX11_fieldComes 77 = .ok (.iconst 1, 1) := by decide +kernel
theorem dX11_fieldComes_78 : decode cX11_fieldComes 78 = .ok (.iadd, 1) := by decide +kernel
theorem dX11_fieldComes_79 : decode cX11_fieldComes 79 = .ok (.iaload, 1) := by decide +kernel
theorem dX11_fieldComes_80 : decode cX11_fieldComes 80 = .ok (.iastore, 1) := by decide +kernel
theorem dX11_fieldComes_81 : decode cX11_fieldComes 81 = .ok (.aload_n 0, 1) := by decide +kernel
theorem dX11_fieldComes_82 : decode cX11_fieldComes 82 = .ok (.getfield 41, 3) := by decide +kernel
theorem dX11_fieldComes_85 : decode cX11_fieldComes 85 = .ok (.aload_n 0, 1) := by decide +kernel
theorem dX11_fieldComes_86 : decode cX11_fieldComes 86 = .ok (.getfield 111, 3) := by decide +kernel
theorem dX11_fieldComes_89 : decode cX11_fieldComes 89 = .ok (.aload_n 0, 1) := by decide +kernel
theorem dX11_fieldComes_90 : decode cX11_fieldComes 90 = .ok (.getfield 65, 3) := by decide +kernel
theorem dX11_fieldComes_93 : decode cX11_fieldComes 93 = .ok (.iload_n 1, 1) := by decide +kernel
theorem dX11_fieldComes_94 : decode cX11_fieldComes 94 = .ok (.iconst 2, 1) := by decide +kernel
theorem dX11_fieldComes_95 : decode cX11_fieldComes 95 = .ok (.iadd, 1) := by decide +kernel
theorem dX11_fieldComes_96 : decode cX11_fieldComes 96 = .ok (.iaload, 1) := by decide +kernel
theorem dX11_fieldComes_97 : decode cX11_fieldComes 97 = .ok (.iastore, 1) := by decide +kernel
theorem dX11_fieldComes_98 : decode cX11_fieldComes 98 = .ok (.aload_n 0, 1) := by decide +kernel
theorem dX11_fieldComes_99 : decode cX11_fieldComes 99 = .ok (.getfield 44, 3) := by decide +kernel
theorem dX11_fieldComes_102 : decode cX11_fieldComes 102 = .ok (.aload_n 0, 1) := by decide +kernel
theorem dX11_fieldComes_103 : decode cX11_fieldComes 103 = .ok (.getfield 111, 3) := by decide +kernel
theorem dX11_fieldComes_106 : decode cX11_fieldComes 106 = .ok (.aload_n 0, 1) := by decide +kernel
theorem dX11_fieldComes_107 : decode cX11_fieldComes 107 = .ok (.getfield 65, 3) := by decide +kernel
theorem dX11_fieldComes_110 : decode cX11_fieldComes 110 = .ok (.iload_n 1, 1) := by decide +kernel
theorem dX11_fieldComes_111 : decode cX11_fieldComes 111 = .ok (.iconst 3, 1) := by decide +kernel
theorem dX11_fieldComes_112 : decode cX11_fieldComes 112 = .ok (.iadd, 1) := by decide +kernel
theorem dX11_fieldComes_113 : decode cX11_fieldComes 113 = .ok (.iaload, 1) := by decide +kernel
theorem dX11_fieldComes_114 : decode cX11_fieldComes 114 = .ok (.iastore, 1) := by decide +kernel
theorem dX11_fieldComes_115 : decode cX11_fieldComes 115 = .ok (.aload_n 0, 1) := by decide +kernel
theorem dX11_fieldComes_116 : decode cX11_fieldComes 116 = .ok (.getfield 47, 3) := by decide +kernel
theorem dX11_fieldComes_119 : decode cX11_fieldComes 119 = .ok (.aload_n 0, 1) := by decide +kernel
theorem dX11_fieldComes_120 : decode cX11_fieldComes 120 = .ok (.getfield 111, 3) := by decide +kernel
theorem dX11_fieldComes_123 : decode cX11_fieldComes 123 = .ok (.aload_n 0, 1) := by decide +kernel
theorem dX11_fieldComes_124 : decode cX11_fieldComes 124 = .ok (.getfield 65, 3) := by decide +kernel
theorem dX11_fieldComes_127 : decode cX11_fieldComes 127 = .ok (.iload_n 1, 1) := by decide +kernel
theorem dX11_fieldComes_128 : decode cX11_fieldComes 128 = .ok (.iconst 4, 1) := by decide +kernel
theorem dX11_fieldComes_129 : decode cX11_fieldComes 129 = .ok (.iadd, 1) := by decide +kernel
theorem dX11_fieldComes_130 : decode cX11_fieldComes 130 = .ok (.iaload, 1) := by decide +kernel
theorem dX11_fieldComes_131 : decode cX11_fieldComes 131 = .ok (.iastore, 1) := by decide +kernel
theorem dX11_fieldComes_132 : decode cX11_fieldComes 132 = .ok (.aload_n 0, 1) := by decide +kernel
theorem dX11_fieldComes_133 : decode cX11_fieldComes 133 = .ok (.dup, 1) := by decide +kernel
theorem dX11_fieldComes_134 : decode cX11_fieldComes 134 = .ok (.getfield 111, 3) := by decide +kernel
theorem dX11_fieldComes_137 : decode cX11_fieldComes 137 = .ok (.iconst 1, 1) := by decide +kernel
theorem dX11_fieldComes_138 : decode cX11_fieldComes 138 = .ok (.iadd, 1) := by decide +kernel
theorem dX11_fieldComes_139 : decode cX11_fieldComes 139 = .ok (.putfield 111, 3) := by decide +kernel
theorem dX11_fieldComes_142 : decode cX11_fieldComes 142 = .ok (.iload_n 2, 1) := by decide +kernel
theorem dX11_fieldComes_143 : decode cX11_fieldComes 143 = .ok (.ireturn, 1) := by decide +kernel
theorem dX11_lagBecomes_0 : decode cX11_lagBecomes 0 = .ok (.iload_n 1, 1) := by decide +kernel
theorem dX11_lagBecomes_1 : decode cX11_lagBecomes 1 = .ok (.aload_n 0, 1) := by decide +kernel
theorem dX11_lagBecomes_2 : decode cX11_lagBecomes 2 = .ok (.getfield 29, 3) := by decide +kernel
theorem dX11_lagBecomes_5 : decode cX11_lagBecomes 5 = .ok (.if_icmp .eq 7, 3) := by decide +kernel
theorem dX11_lagBecomes_8 : decode cX11_lagBecomes 8 = .ok (.aload_n 0, 1) := by decide +kernel
theorem dX11_lagBecomes_9 : decode cX11_lagBecomes 9 = .ok (.invokevirtual 191, 3) := by decide +kernel
theorem dX11_lagBecomes_12 : decode cX11_lagBecomes 12 = .ok (.aload_n 0, 1) := by decide +kernel
theorem dX11_lagBecomes_13 : decode cX11_lagBecomes 13 = .ok (.iload_n 1, 1) := by decide +kernel
theorem dX11_lagBecomes_14 : decode cX11_lagBecomes 14 = .ok (.putfield 29, 3) := by decide +kernel
theorem dX11_lagBecomes_17 : decode cX11_lagBecomes 17 = .ok (.return_, 1) := by decide +kernel
theorem dX11_settingsCome_0 : decode cX11_settingsCome 0 = .ok (.bipush 9, 2) := by decide +kernel
theorem dX11_settingsCome_2 : decode cX11_settingsCome 2 = .ok (.iload_n 1, 1) := by decide +kernel
theorem dX11_settingsCome_3 : decode cX11_settingsCome 3 = .ok (.imul, 1) := by decide +kernel
theorem dX11_settingsCome_4 : decode cX11_settingsCome 4 = .ok (.istore_n 2, 1) := by decide +kernel
theorem dX11_settingsCome_5 : decode cX11_settingsCome 5 = .ok (.iconst 0, 1) := by decide +kernel
theorem dX11_settingsCome_6 : decode cX11_settingsCome 6 = .ok (.istore_n 3, 1) := by decide +kernel
theorem dX11_settingsCome_7 : decode cX11_settingsCome 7 = .ok (.aload_n 0, 1) := by decide +kernel
theorem dX11_settingsCome_8 : decode cX11_settingsCome 8 = .ok (.getfield 62, 3) := by decide +kernel
theorem dX11_settingsCome_11 : decode cX11_settingsCome 11 = .ok (.iload_n 1, 1) := by decide +kernel
theorem dX11_settingsCome_12 : decode cX11_settingsCome 12 = .ok (.iaload, 1) := by decide +kernel
theorem dX11_settingsCome_13 : decode cX11_settingsCome 13 = .ok (.bipush 98, 2) := by decide +kernel
theorem dX11_settingsCome_15 : decode cX11_settingsCome 15 = .ok (.if_icmp .ne 122, 3) := by decide +kernel
theorem dX11_settingsCome_18 : decode cX11_settingsCome 18 = .ok (.aload_n 0, 1) := by decide +kernel
theorem dX11_settingsCome_19 : decode cX11_settingsCome 19 = .ok (.getfield 65, 3) := by decide +kernel
theorem dX11_settingsCome_22 : decode cX11_settingsCome 22 = .ok (.iload_n 2, 1) := by decide +kernel
theorem dX11_settingsCome_23 : decode cX11_settingsCome 23 = .ok (.iaload, 1) := by decide +kernel
theorem dX11_settingsCome_24 : decode cX11_settingsCome 24 = .ok (.bipush 60, 2) := by decide +kernel
theorem dX11_settingsCome_26 : decode cX11_settingsCome 26 = .ok (.if_icmp .gt 39, 3) := by decide +kernel
theorem dX11_settingsCome_29 : decode cX11_settingsCome 29 = .ok (.aload_n 0, 1) := by decide +kernel
theorem dX11_settingsCome_30 : decode cX11_settingsCome 30 = .ok (.getfield 65, 3) := by decide +kernel
theorem dX11_settingsCome_33 : decode cX11_settingsCome 33 = .ok (.iload_n 2, 1) := by decide +kernel
theorem dX11_settingsCome_34 : decode cX11_settingsCome 34 = .ok (.iconst 1, 1) := by decide +kernel
theorem dX11_settingsCome_35 : decode cX11_settingsCome 35 = .ok (.iadd, 1) := by decide +kernel
theorem dX11_settingsCome_36 : decode cX11_settingsCome 36 = .ok (.iaload, 1) := by decide +kernel
theorem dX11_settingsCome_37 : decode cX11_settingsCome 37 = .ok (.bipush 60, 2) := by decide +kernel
theorem dX11_settingsCome_39 : decode cX11_settingsCome 39 = .ok (.if_icmp .gt 26, 3) := by decide +kernel
theorem dX11_settingsCome_42 : decode cX11_settingsCome 42 = .ok (.aload_n 0, 1) := by decide +kernel
theorem dX11_settingsCome_43 : decode cX11_settingsCome 43 = .ok (.getfield 65, 3) := by decide +kernel
theorem dX11_settingsCome_46 : decode cX11_settingsCome 46 = .ok (.iload_n 2, 1) := by decide +kernel
theorem dX11_settingsCome_47 : decode cX11_settingsCome 47 = .ok (.iconst 2, 1) := by decide +kernel
theorem dX11_settingsCome_48 : decode cX11_settingsCome 48 = .ok (.iadd, 1) := by decide +kernel
theorem dX11_settingsCome_49 : decode cX11_settingsCome 49 = .ok (.iaload, 1) := by decide +kernel
theorem dX11_settingsCome_50 : decode cX11_settingsCome 50 = .ok (.i2l, 1) := by decide +kernel
theorem dX11_settingsCome_51 : decode cX11_settingsCome 51 = .ok (.lconst 1, 1) := by decide +kernel
theorem dX11_settingsCome_52 : decode cX11_settingsCome 52 = .ok (.ldc2_w 194, 3) := by decide +kernel
theorem dX11_settingsCome_55 : decode cX11_settingsCome 55 = .ok (.invokestatic 107, 3) := by decide +kernel
theorem dX11_settingsCome_58 : decode cX11_settingsCome 58 = .ok (.ifCond .eq 7, 3) := by decide +kernel
theorem dX11_settingsCome_61 : decode cX11_settingsCome 61 = .ok (.iconst 1, 1) := by decide +kernel
theorem dX11_settingsCome_62 : decode cX11_settingsCome 62 = .ok (.goto 4, 3) := by decide +kernel
theorem dX11_settingsCome_65 : decode cX11_settingsCome 65 = .ok (.iconst 0, 1) := by decide +kernel
theorem dX11_settingsCome_66 : decode cX11_settingsCome 66 = .ok (.istore_n 3, 1) := by decide +kernel
theorem dX11_settingsCome_67 : decode cX11_settingsCome 67 = .ok (.aload_n 0, 1) := by decide +kernel
theorem dX11_settingsCome_68 : decode cX11_settingsCome 68 = .ok (.iload_n 3, 1) := by decide +kernel
theorem dX11_settingsCome_69 : decode cX11_settingsCome 69 = .ok (.ifCond .eq 12, 3) := by decide +kernel
theorem dX11_settingsCome_72 : decode cX11_settingsCome 72 = .ok (.aload_n 0, 1) := by decide +kernel
theorem dX11_settingsCome_73 : decode cX11_settingsCome 73 = .ok (.getfield 65, 3) := by decide +kernel
theorem dX11_settingsCome_76 : decode cX11_settingsCome 76 = .ok (.iload_n 2, 1) := by decide +kernel
theorem dX11_settingsCome_77 : decode cX11_settingsCome 77 = .ok (.iaload, 1) := by decide +kernel
theorem dX11_settingsCome_78 : decode cX11_settingsCome 78 = .ok (.goto 7, 3) := by decide +kernel
theorem dX11_settingsCome_81 : decode cX11_settingsCome 81 = .ok (.aload_n 0, 1) := by decide +kernel
theorem dX11_settingsCome_82 : decode cX11_settingsCome 82 = .ok (.getfield 20, 3) := by decide +kernel
theorem dX11_settingsCome_85 : decode cX11_settingsCome 85 = .ok (.putfield 20, 3) := by decide +kernel
theorem dX11_settingsCome_88 : decode cX11_settingsCome 88 = .ok (.aload_n 0, 1) := by decide +kernel
theorem dX11_settingsCome_89 : decode cX11_settingsCome 89 = .ok (.iload_n 3, 1) := by decide +kernel
theorem dX11_settingsCome_90 : decode cX11_settingsCome 90 = .ok (.ifCond .eq 14, 3) := by decide +kernel
theorem dX11_settingsCome_93 : decode cX11_settingsCome 93 = .ok (.aload_n 0, 1) := by decide +kernel
theorem dX11_settingsCome_94 : decode cX11_settingsCome 94 = .ok (.getfield 65, 3) := by decide +kernel
theorem dX11_settingsCome_97 : decode cX11_settingsCome 97 = .ok (.iload_n 2, 1) := by decide +kernel
theorem dX11_settingsCome_98 : decode cX11_settingsCome 98 = .ok (.iconst 1, 1) := by decide +kernel
theorem dX11_settingsCome_99 : decode cX11_settingsCome 99 = .ok (.iadd, 1) := by decide +kernel
theorem dX11_settingsCome_100 : decode cX11_settingsCome 100 = .ok (.iaload, 1) := by decide +kernel
theorem dX11_settingsCome_101 : decode cX11_settingsCome 101 = .ok (.goto 7, 3) := by decide +kernel
theorem dX11_settingsCome_104 : decode cX11_settingsCome 104 = .ok (.aload_n 0, 1) := by decide +kernel
theorem dX11_settingsCome_105 : decode cX11_settingsCome 105 = .ok (.getfield 23, 3) := by decide +kernel
theorem dX11_settingsCome_108 : decode cX11_settingsCome 108 = .ok (.putfield 23, 3) := by decide +kernel
theorem dX11_settingsCome_111 : decode cX11_settingsCome 111 = .ok (.aload_n 0, 1) := by decide +kernel
theorem dX11_settingsCome_112 : decode cX11_settingsCome 112 = .ok (.iload_n 3, 1) := by decide +kernel
theorem dX11_settingsCome_113 : decode cX11_settingsCome 113 = .ok (.ifCond .eq 14, 3) := by decide +kernel
theorem dX11_settingsCome_116 : decode cX11_settingsCome 116 = .ok (.aload_n 0, 1) := by decide +kernel
theorem dX11_settingsCome_117 : decode cX11_settingsCome 117 = .ok (.getfield 65, 3) := by decide +kernel
theorem dX11_settingsCome_120 : decode cX11_settingsCome 120 = .ok (.iload_n 2, 1) := by decide +kernel
theorem dX11_settingsCome_121 : decode cX11_settingsCome 121 = .ok (.iconst 2, 1) := by decide +kernel
theorem dX11_settingsCome_122 : decode cX11_settingsCome 122 = .ok (.iadd, 1) := by decide +kernel
theorem dX11_settingsCome_123 : decode cX11_settingsCome 123 = .ok (.iaload, 1) := by decide +kernel
theorem dX11_settingsCome_124 : decode cX11_settingsCome 124 = .ok (.goto 7, 3) := by decide +kernel
theorem dX11_settingsCome_127 : decode cX11_settingsCome 127 = .ok (.aload_n 0, 1) := by decide +kernel
theorem dX11_settingsCome_128 : decode cX11_settingsCome 128 = .ok (.getfield 26, 3) := by decide +kernel
theorem dX11_settingsCome_131 : decode cX11_settingsCome 131 = .ok (.putfield 26, 3) := by decide +kernel
theorem dX11_settingsCome_134 : decode cX11_settingsCome 134 = .ok (.goto 90, 3) := by decide +kernel
theorem dX11_settingsCome_137 : decode cX11_settingsCome 137 = .ok (.aload_n 0, 1) := by decide +kernel
theorem dX11_settingsCome_138 : decode cX11_settingsCome 138 = .ok (.getfield 62, 3) := by decide +kernel
theorem dX11_settingsCome_141 : decode cX11_settingsCome 141 = .ok (.iload_n 1, 1) := by decide +kernel
theorem dX11_settingsCome_142 : decode cX11_settingsCome 142 = .ok (.iaload, 1) := by decide +kernel
theorem dX11_settingsCome_143 : decode cX11_settingsCome 143 = .ok (.bipush 104, 2) := by decide +kernel
theorem dX11_settingsCome_145 : decode cX11_settingsCome 145 = .ok (.if_icmp .ne 44, 3) := by decide +kernel
theorem dX11_settingsCome_148 : decode cX11_settingsCome 148 = .ok (.aload_n 0, 1) := by decide +kernel
theorem dX11_settingsCome_149 : decode cX11_settingsCome 149 = .ok (.getfield 65, 3) := by decide +kernel
theorem dX11_settingsCome_152 : decode cX11_settingsCome 152 = .ok (.iload_n 2, 1) := by decide +kernel
theorem dX11_settingsCome_153 : decode cX11_settingsCome 153 = .ok (.iaload, 1) := by decide +kernel
theorem dX11_settingsCome_154 : decode cX11_settingsCome 154 = .ok (.bipush 40, 2) := by decide +kernel
theorem dX11_settingsCome_156 : decode cX11_settingsCome 156 = .ok (.if_icmp .ge 7, 3) := by decide +kernel
theorem dX11_settingsCome_159 : decode cX11_settingsCome 159 = .ok (.iconst 1, 1) := by decide +kernel
theorem dX11_settingsCome_160 : decode cX11_settingsCome 160 = .ok (.goto 4, 3) := by decide +kernel
theorem dX11_settingsCome_163 : decode cX11_settingsCome 163 = .ok (.iconst 0, 1) := by decide +kernel
theorem dX11_settingsCome_164 : decode cX11_settingsCome 164 = .ok (.istore_n 3, 1) := by decide +kernel
theorem dX11_settingsCome_165 : decode cX11_settingsCome 165 = .ok (.aload_n 0, 1) := by decide +kernel
theorem dX11_settingsCome_166 : decode cX11_settingsCome 166 = .ok (.iload_n 3, 1) := by decide +kernel
theorem dX11_settingsCome_167 : decode cX11_settingsCome 167 = .ok (.ifCond .eq 12, 3) := by decide +kernel
theorem dX11_settingsCome_170 : decode cX11_settingsCome 170 = .ok (.aload_n 0, 1) := by decide +kernel
theorem dX11_settingsCome_171 : decode cX11_settingsCome 171 = .ok (.getfield 65, 3) := by decide +kernel
theorem dX11_settingsCome_174 : decode cX11_settingsCome 174 = .ok (.iload_n 2, 1) := by decide +kernel
theorem dX11_settingsCome_175 : decode cX11_settingsCome 175 = .ok (.iaload, 1) := by decide +kernel
theorem dX11_settingsCome_176 : decode cX11_settingsCome 176 = .ok (.goto 7, 3) := by decide +kernel
theorem dX11_settingsCome_179 : decode cX11_settingsCome 179 = .ok (.aload_n 0, 1) := by decide +kernel
theorem dX11_settingsCome_180 : decode cX11_settingsCome 180 = .ok (.getfield 127, 3) := by decide +kernel
theorem dX11_settingsCome_183 : decode cX11_settingsCome 183 = .ok (.putfield 127, 3) := by decide +kernel
theorem dX11_settingsCome_186 : decode cX11_settingsCome 186 = .ok (.goto 38, 3) := by decide +kernel
theorem dX11_settingsCome_189 : decode cX11_settingsCome 189 = .ok (.aload_n 0, 1) := by decide +kernel
theorem dX11_settingsCome_190 : decode cX11_settingsCome 190 = .ok (.getfield 65, 3) := by decide +kernel
theorem dX11_settingsCome_193 : decode cX11_settingsCome 193 = .ok (.iload_n 2, 1) := by decide +kernel
theorem dX11_settingsCome_194 : decode cX11_settingsCome 194 = .ok (.iaload, 1) := by decide +kernel
theorem dX11_settingsCome_195 : decode cX11_settingsCome 195 = .ok (.bipush 6, 2) := by decide +kernel
theorem dX11_settingsCome_197 : decode cX11_settingsCome 197 = .ok (.if_icmp .ge 7, 3) := by decide +kernel
theorem dX11_settingsCome_200 : decode cX11_settingsCome 200 = .ok (.iconst 1, 1) := by decide +kernel
theorem dX11_settingsCome_201 : decode cX11_settingsCome 201 = .ok (.goto 4, 3) := by decide +kernel
theorem dX11_settingsCome_204 : decode cX11_settingsCome 204 = .ok (.iconst 0, 1) := by decide +kernel
theorem dX11_settingsCome_205 : decode cX11_settingsCome 205 = .ok (.istore_n 3, 1) := by decide +kernel
theorem dX11_settingsCome_206 : decode cX11_settingsCome 206 = .ok (.iload_n 3, 1) := by decide +kernel
theorem dX11_settingsCome_207 : decode cX11_settingsCome 207 = .ok (.ifCond .eq 17, 3) := by decide +kernel
theorem dX11_settingsCome_210 : decode cX11_settingsCome 210 = .ok (.aload_n 0, 1) := by decide +kernel
theorem dX11_settingsCome_211 : decode cX11_settingsCome 211 = .ok (.aload_n 0, 1) := by decide +kernel
theorem dX11_settingsCome_212 : decode cX11_settingsCome 212 = .ok (.getfield 65, 3) := by decide +kernel
theorem dX11_settingsCome_215 : decode cX11_settingsCome 215 = .ok (.iload_n 2, 1) := by decide +kernel
theorem dX11_settingsCome_216 : decode cX11_settingsCome 216 = .ok (.iaload, 1) := by decide +kernel
theorem dX11_settingsCome_217 : decode cX11_settingsCome 217 = .ok (.invokevirtual 196, 3) := by decide +kernel
theorem dX11_settingsCome_220 : decode cX11_settingsCome 220 = .ok (.aload_n 0, 1) := by decide +kernel
theorem dX11_settingsCome_221 : decode cX11_settingsCome 221 = .ok (.invokevirtual 191, 3) := by decide +kernel
theorem dX11_settingsCome_224 : decode cX11_settingsCome 224 = .ok (.iload_n 3, 1) := by decide +kernel
theorem dX11_settingsCome_225 : decode cX11_settingsCome 225 = .ok (.ireturn, 1) := by decide +kernel
theorem dX11_actsCome_0 : decode cX11_actsCome 0 = .ok (.iconst 0, 1) := by decide +kernel
theorem dX11_actsCome_1 : decode cX11_actsCome 1 = .ok (.istore_n 2, 1) := by decide +kernel
theorem dX11_actsCome_2 : decode cX11_actsCome 2 = .ok (.iload_n 2, 1) := by decide +kernel
theorem dX11_actsCome_3 : decode cX11_actsCome 3 = .ok (.aload_n 0, 1) := by decide +kernel
theorem dX11_actsCome_4 : decode cX11_actsCome 4 = .ok (.getfield 68, 3) := by decide +kernel
theorem dX11_actsCome_7 : decode cX11_actsCome 7 = .ok (.iload_n 1, 1) := by decide +kernel
theorem dX11_actsCome_8 : decode cX11_actsCome 8 = .ok (.iaload, 1) := by decide +kernel
theorem dX11_actsCome_9 : decode cX11_actsCome 9 = .ok (.if_icmp .ge 55, 3) := by decide +kernel
theorem dX11_actsCome_12 : decode cX11_actsCome 12 = .ok (.aload_n 0, 1) := by decide +kernel
theorem dX11_actsCome_13 : decode cX11_actsCome 13 = .ok (.getfield 65, 3) := by decide +kernel
theorem dX11_actsCome_16 : decode cX11_actsCome 16 = .ok (.bipush 9, 2) := by decide +kernel
theorem dX11_actsCome_18 : decode cX11_actsCome 18 = .ok (.iload_n 1, 1) := by decide +kernel
theorem dX11_actsCome_19 : decode cX11_actsCome 19 = .ok (.imul, 1) := by decide +kernel
theorem dX11_actsCome_20 : decode cX11_actsCome 20 = .ok (.iload_n 2, 1) := by decide +kernel
theorem dX11_actsCome_21 : decode cX11_actsCome 21 = .ok (.iadd, 1) := by decide +kernel
theorem dX11_actsCome_22 : decode cX11_actsCome 22 = .ok (.iaload, 1) := by decide +kernel
theorem dX11_actsCome_23 : decode cX11_actsCome 23 = .ok (.istore_n 3, 1) := by decide +kernel
theorem dX11_actsCome_24 : decode cX11_actsCome 24 = .ok (.iload_n 3, 1) := by decide +kernel
theorem dX11_actsCome_25 : decode cX11_actsCome 25 = .ok (.iconst 2, 1) := by decide +kernel
theorem dX11_actsCome_26 : decode cX11_actsCome 26 = .ok (.if_icmp .gt 25, 3) := by decide +kernel
theorem dX11_actsCome_29 : decode cX11_actsCome 29 = .ok (.iload_n 3, 1) := by decide +kernel
theorem dX11_actsCome_30 : decode cX11_actsCome 30 = .ok (.iconst 1, 1) := by decide +kernel
theorem dX11_actsCome_31 : decode cX11_actsCome 31 = .ok (.if_icmp .ne 10, 3) := by decide +kernel
theorem dX11_actsCome_34 : decode cX11_actsCome 34 = .ok (.aload_n 0, 1) := by decide +kernel
theorem dX11_actsCome_35 : decode cX11_actsCome 35 = .ok (.getfield 23, 3) := by decide +kernel
theorem dX11_actsCome_38 : decode cX11_actsCome 38 = .ok (.ifCond .eq 13, 3) := by decide +kernel
theorem dX11_actsCome_41 : decode cX11_actsCome 41 = .ok (.aload_n 0, 1) := by decide +kernel
theorem dX11_actsCome_42 : decode cX11_actsCome 42 = .ok (.getfield 136, 3) := by decide +kernel
theorem dX11_actsCome_45 : decode cX11_actsCome 45 = .ok (.sipush 999, 3) := by decide +kernel
theorem dX11_actsCome_48 : decode cX11_actsCome 48 = .ok (.if_icmp .ne 5, 3) := by decide +kernel
theorem dX11_actsCome_51 : decode cX11_actsCome 51 = .ok (.iconst 0, 1) := by decide +kernel
theorem dX11_actsCome_52 : decode cX11_actsCome 52 = .ok (.ireturn, 1) := by decide +kernel
theorem dX11_actsCome_53 : decode cX11_actsCome 53 = .ok (.aload_n 0, 1) := by decide +kernel
theorem dX11_actsCome_54 : decode cX11_actsCome 54 = .ok (.iload_n 3, 1) := by decide +kernel
theorem dX11_actsCome_55 : decode cX11_actsCome 55 = .ok (.invokevirtual 142, 3) := by decide +kernel
theorem dX11_actsCome_58 : decode cX11_actsCome 58 = .ok (.iinc 2 1, 3) := by decide +kernel
theorem dX11_actsCome_61 : decode cX11_actsCome 61 = .ok (.goto (-59), 3) := by decide +kernel
theorem dX11_actsCome_64 : decode cX11_actsCome 64 = .ok (.iconst 1, 1) := by decide +kernel
theorem dX11_actsCome_65 : decode cX11_actsCome 65 = .ok (.ireturn, 1) := by decide +kernel
theorem dX11_putRoad_0 : decode cX11_putRoad 0 = .ok (.aload_n 0, 1) := by decide +kernel
theorem dX11_putRoad_1 : decode cX11_putRoad 1 = .ok (.getfield 50, 3) := by decide +kernel
theorem dX11_putRoad_4 : decode cX11_putRoad 4 = .ok (.bipush 8, 2) := by decide +kernel
theorem dX11_putRoad_6 : decode cX11_putRoad 6 = .ok (.iload_n 1, 1) := by decide +kernel
theorem dX11_putRoad_7 : decode cX11_putRoad 7 = .ok (.imul, 1) := by decide +kernel
theorem dX11_putRoad_8 : decode cX11_putRoad 8 = .ok (.iload_n 2, 1) := by decide +kernel
theorem dX11_putRoad_9 : decode cX11_putRoad 9 = .ok (.iadd, 1) := by decide +kernel
theorem dX11_putRoad_10 : decode cX11_putRoad 10 = .ok (.iload_n 3, 1) := by decide +kernel
theorem dX11_putRoad_11 : decode cX11_putRoad 11 = .ok (.iastore, 1) := by decide +kernel
theorem dX11_putRoad_12 : decode cX11_putRoad 12 = .ok (.aload_n 0, 1) := by decide +kernel
theorem dX11_putRoad_13 : decode cX11_putRoad 13 = .ok (.getfield 50, 3) := by decide +kernel
theorem dX11_putRoad_16 : decode cX11_putRoad 16 = .ok (.bipush 8, 2) := by decide +kernel
theorem dX11_putRoad_18 : decode cX11_putRoad 18 = .ok (.iload_n 2, 1) := by decide +kernel
theorem dX11_putRoad_19 : decode cX11_putRoad 19 = .ok (.imul, 1) := by decide +kernel
theorem dX11_putRoad_20 : decode cX11_putRoad 20 = .ok (.iload_n 1, 1) := by decide +kernel
theorem dX11_putRoad_21 : decode cX11_putRoad 21 = .ok (.iadd, 1) := by decide +kernel
theorem dX11_putRoad_22 : decode cX11_putRoad 22 = .ok (.iload_n 3, 1) := by decide +kernel
theorem dX11_putRoad_23 : decode cX11_putRoad 23 = .ok (.iastore, 1) := by decide +kernel
theorem dX11_putRoad_24 : decode cX11_putRoad 24 = .ok (.return_, 1) := by decide +kernel
theorem dX11_comes_0 : decode cX11_comes 0 = .ok (.bipush 9, 2) := by decide +kernel
theorem dX11_comes_2 : decode cX11_comes 2 = .ok (.iload_n 1, 1) := by decide +kernel
theorem dX11_comes_3 : decode cX11_comes 3 = .ok (.imul, 1) := by decide +kernel
theorem dX11_comes_4 : decode cX11_comes 4 = .ok (.istore_n 2, 1) := by decide +kernel
theorem dX11_comes_5 : decode cX11_comes 5 = .ok (.iconst 1, 1) := by decide +kernel
theorem dX11_comes_6 : decode cX11_comes 6 = .ok (.istore_n 3, 1) := by decide +kernel
theorem dX11_comes_7 : decode cX11_comes 7 = .ok (.aload_n 0, 1) := by decide +kernel
theorem dX11_comes_8 : decode cX11_comes 8 = .ok (.getfield 62, 3) := by decide +kernel
theorem dX11_comes_11 : decode cX11_comes 11 = .ok (.iload_n 1, 1) := by decide +kernel
theorem dX11_comes_12 : decode cX11_comes 12 = .ok (.iaload, 1) := by decide +kernel
theorem dX11_comes_13 : decode cX11_comes 13 = .ok (.lookupswitch 197 #[(97, 191), (102, 104), (114, 110), (119, 43)], 43) := by decide +kernel
theorem dX11_comes_56 : decode cX11_comes 56 = .ok (.aload_n 0, 1) := by decide +kernel
theorem dX11_comes_57 : decode cX11_comes 57 = .ok (.getfield 65, 3) := by decide +kernel
theorem dX11_comes_60 : decode cX11_comes 60 = .ok (.iload_n 2, 1) := by decide +kernel
theorem dX11_comes_61 : decode cX11_comes 61 = .ok (.iaload, 1) := by decide +kernel
theorem dX11_comes_62 : decode cX11_comes 62 = .ok (.bipush 8, 2) := by decide +kernel
theorem dX11_comes_64 : decode cX11_comes 64 = .ok (.if_icmp .ge 7, 3) := by decide +kernel
theorem dX11_comes_67 : decode cX11_comes 67 = .ok (.iconst 1, 1) := by decide +kernel
theorem dX11_comes_68 : decode cX11_comes 68 = .ok (.goto 4, 3) := by decide +kernel
theorem dX11_comes_71 : decode cX11_comes 71 = .ok (.iconst 0, 1) := by decide +kernel
theorem dX11_comes_72 : decode cX11_comes 72 = .ok (.istore_n 3, 1) := by decide +kernel
theorem dX11_comes_73 : decode cX11_comes 73 = .ok (.iload_n 3, 1) := by decide +kernel
theorem dX11_comes_74 : decode cX11_comes 74 = .ok (.ifCond .eq 41, 3) := by decide +kernel
theorem dX11_comes_77 : decode cX11_comes 77 = .ok (.aload_n 0, 1) := by decide +kernel
theorem dX11_comes_78 : decode cX11_comes 78 = .ok (.getfield 7, 3) := by decide +kernel
theorem dX11_comes_81 : decode cX11_comes 81 = .ok (.aload_n 0, 1) := by decide +kernel
theorem dX11_comes_82 : decode cX11_comes 82 = .ok (.getfield 65, 3) := by decide +kernel
theorem dX11_comes_85 : decode cX11_comes 85 = .ok (.iload_n 2, 1) := by decide +kernel
theorem dX11_comes_86 : decode cX11_comes 86 = .ok (.iaload, 1) := by decide +kernel
theorem dX11_comes_87 : decode cX11_comes 87 = .ok (.aload_n 0, 1) := by decide +kernel
theorem dX11_comes_88 : decode cX11_comes 88 = .ok (.getfield 65, 3) := by decide +kernel
theorem dX11_comes_91 : decode cX11_comes 91 = .ok (.iload_n 2, 1) := by decide +kernel
theorem dX11_comes_92 : decode cX11_comes 92 = .ok (.iconst 1, 1) := by decide +kernel
theorem dX11_comes_93 : decode cX11_comes 93 = .ok (.iadd, 1) := by decide +kernel
theorem dX11_comes_94 : decode cX11_comes 94 = .ok (.iaload, 1) := by decide +kernel
theorem dX11_comes_95 : decode cX11_comes 95 = .ok (.iastore, 1) := by decide +kernel
theorem dX11_comes_96 : decode cX11_comes 96 = .ok (.aload_n 0, 1) := by decide +kernel
theorem dX11_comes_97 : decode cX11_comes 97 = .ok (.getfield 13, 3) := by decide +kernel
theorem dX11_comes_100 : decode cX11_comes 100 = .ok (.aload_n 0, 1) := by decide +kernel
theorem dX11_comes_101 : decode cX11_comes 101 = .ok (.getfield 65, 3) := by decide +kernel
theorem dX11_comes_104 : decode cX11_comes 104 = .ok (.iload_n 2, 1) := by decide +kernel
theorem dX11_comes_105 : decode cX11_comes 105 = .ok (.iaload, 1) := by decide +kernel
theorem dX11_comes_106 : decode cX11_comes 106 = .ok (.aload_n 0, 1) := by decide +kernel
theorem dX11_comes_107 : decode cX11_comes 107 = .ok (.getfield 65, 3) := by decide +kernel
theorem dX11_comes_110 : decode cX11_comes 110 = .ok (.iload_n 2, 1) := by decide +kernel
theorem dX11_comes_111 : decode cX11_comes 111 = .ok (.iconst 2, 1) := by decide +kernel
theorem dX11_comes_112 : decode cX11_comes 112 = .ok (.iadd, 1) := by decide +kernel
theorem dX11_comes_113 : decode cX11_comes 113 = .ok (.iaload, 1) := by decide +kernel
theorem dX11_comes_114 : decode cX11_comes 114 = .ok (.iastore, 1) := by decide +kernel
theorem dX11_comes_115 : decode cX11_comes 115 = .ok (.iload_n 3, 1) := by decide +kernel
theorem dX11_comes_116 : decode cX11_comes 116 = .ok (.ireturn, 1) := by decide +kernel
theorem dX11_comes_117 : decode cX11_comes 117 = .ok (.aload_n 0, 1) := by decide +kernel
theorem dX11_comes_118 : decode cX11_comes 118 = .ok (.iload_n 2, 1) := by decide +kernel
theorem dX11_comes_119 : decode cX11_comes 119 = .ok (.invokevirtual 199, 3) := by decide +kernel
theorem dX11_comes_122 : decode cX11_comes 122 = .ok (.ireturn, 1) := by decide +kernel
theorem dX11_comes_123 : decode cX11_comes 123 = .ok (.aload_n 0, 1) := by decide +kernel
theorem dX11_comes_124 : decode cX11_comes 124 = .ok (.getfield 65, 3) := by decide +kernel
theorem dX11_comes_127 : decode cX11_comes 127 = .ok (.iload_n 2, 1) := by decide +kernel
theorem dX11_comes_128 : decode cX11_comes 128 = .ok (.iaload, 1) := by decide +kernel
theorem dX11_comes_129 : decode cX11_comes 129 = .ok (.invokestatic 202, 3) := by decide +kernel
theorem dX11_comes_132 : decode cX11_comes 132 = .ok (.ifCond .eq 38, 3) := by decide +kernel
theorem dX11_comes_135 : decode cX11_comes 135 = .ok (.aload_n 0, 1) := by decide +kernel
theorem dX11_comes_136 : decode cX11_comes 136 = .ok (.getfield 65, 3) := by decide +kernel
theorem dX11_comes_139 : decode cX11_comes 139 = .ok (.iload_n 2, 1) := by decide +kernel
theorem dX11_comes_140 : decode cX11_comes 140 = .ok (.iconst 1, 1) := by decide +kernel
theorem dX11_comes_141 : decode cX11_comes 141 = .ok (.iadd, 1) := by decide +kernel
theorem dX11_comes_142 : decode cX11_comes 142 = .ok (.iaload, 1) := by decide +kernel
theorem dX11_comes_143 : decode cX11_comes 143 = .ok (.invokestatic 202, 3) := by decide +kernel
theorem dX11_comes_146 : decode cX11_comes 146 = .ok (.ifCond .eq 24, 3) := by decide +kernel
theorem dX11_comes_149 : decode cX11_comes 149 = .ok (.aload_n 0, 1) := by decide +kernel
theorem dX11_comes_150 : decode cX11_comes 150 = .ok (.getfield 65, 3) := by decide +kernel
theorem dX11_comes_153 : decode cX11_comes 153 = .ok (.iload_n 2, 1) := by decide +kernel
theorem dX11_comes_154 : decode cX11_comes 154 = .ok (.iaload, 1) := by decide +kernel
theorem dX11_comes_155 : decode cX11_comes 155 = .ok (.aload_n 0, 1) := by decide +kernel
theorem dX11_comes_156 : decode cX11_comes 156 = .ok (.getfield 65, 3) := by decide +kernel
theorem dX11_comes_159 : decode cX11_comes 159 = .ok (.iload_n 2, 1) := by decide +kernel
theorem dX11_comes_160 : decode cX11_comes 160 = .ok (.iconst 1, 1) := by decide +kernel
theorem dX11_comes_161 : decode cX11_comes 161 = .ok (.iadd, 1) := by decide +kernel
theorem dX11_comes_162 : decode cX11_comes 162 = .ok (.iaload, 1) := by decide +kernel
theorem dX11_comes_163 : decode cX11_comes 163 = .ok (.if_icmp .eq 7, 3) := by decide +kernel
theorem dX11_comes_166 : decode cX11_comes 166 = .ok (.iconst 1, 1) := by decide +kernel
theorem dX11_comes_167 : decode cX11_comes 167 = .ok (.goto 4, 3) := by decide +kernel
theorem dX11_comes_170 : decode cX11_comes 170 = .ok (.iconst 0, 1) := by decide +kernel
theorem dX11_comes_171 : decode cX11_comes 171 = .ok (.istore_n 3, 1) := by decide +kernel
theorem dX11_comes_172 : decode cX11_comes 172 = .ok (.iload_n 3, 1) := by decide +kernel
theorem dX11_comes_173 : decode cX11_comes 173 = .ok (.ifCond .eq 29, 3) := by decide +kernel
theorem dX11_comes_176 : decode cX11_comes 176 = .ok (.aload_n 0, 1) := by decide +kernel
theorem dX11_comes_177 : decode cX11_comes 177 = .ok (.aload_n 0, 1) := by decide +kernel
theorem dX11_comes_178 : decode cX11_comes 178 = .ok (.getfield 65, 3) := by decide +kernel
theorem dX11_comes_181 : decode cX11_comes 181 = .ok (.iload_n 2, 1) := by decide +kernel
theorem dX11_comes_182 : decode cX11_comes 182 = .ok (.iaload, 1) := by decide +kernel
theorem dX11_comes_183 : decode cX11_comes 183 = .ok (.aload_n 0, 1) := by decide +kernel
theorem dX11_comes_184 : decode cX11_comes 184 = .ok (.getfield 65, 3) := by decide +kernel
theorem dX11_comes_187 : decode cX11_comes 187 = .ok (.iload_n 2, 1) := by decide +kernel
theorem dX11_comes_188 : decode cX11_comes 188 = .ok (.iconst 1, 1) := by decide +kernel
theorem dX11_comes_189 : decode cX11_comes 189 = .ok (.iadd, 1) := by decide +kernel
theorem dX11_comes_190 : decode cX11_comes 190 = .ok (.iaload, 1) := by decide +kernel
theorem dX11_comes_191 : decode cX11_comes 191 = .ok (.aload_n 0, 1) := by decide +kernel
theorem dX11_comes_192 : decode cX11_comes 192 = .ok (.getfield 65, 3) := by decide +kernel
theorem dX11_comes_195 : decode cX11_comes 195 = .ok (.iload_n 2, 1) := by decide +kernel
theorem dX11_comes_196 : decode cX11_comes 196 = .ok (.iconst 2, 1) := by decide +kernel
theorem dX11_comes_197 : decode cX11_comes 197 = .ok (.iadd, 1) := by decide +kernel
theorem dX11_comes_198 : decode cX11_comes 198 = .ok (.iaload, 1) := by decide +kernel
theorem dX11_comes_199 : decode cX11_comes 199 = .ok (.invokevirtual 205, 3) := by decide +kernel
theorem dX11_comes_202 : decode cX11_comes 202 = .ok (.iload_n 3, 1) := by decide +kernel
theorem dX11_comes_203 : decode cX11_comes 203 = .ok (.ireturn, 1) := by decide +kernel
theorem dX11_comes_204 : decode cX11_comes 204 = .ok (.aload_n 0, 1) := by decide +kernel
theorem dX11_comes_205 : decode cX11_comes 205 = .ok (.iload_n 1, 1) := by decide +kernel
theorem dX11_comes_206 : decode cX11_comes 206 = .ok (.invokevirtual 209, 3) := by decide +kernel
theorem dX11_comes_209 : decode cX11_comes 209 = .ok (.ireturn, 1) := by decide +kernel
theorem dX11_comes_210 : decode cX11_comes 210 = .ok (.aload_n 0, 1) := by decide +kernel
theorem dX11_comes_211 : decode cX11_comes 211 = .ok (.iload_n 1, 1) := by decide +kernel
theorem dX11_comes_212 : decode cX11_comes 212 = .ok (.invokevirtual 212, 3) := by decide +kernel
theorem dX11_comes_215 : decode cX11_comes 215 = .ok (.ireturn, 1) := by decide +kernel
theorem dX11_land_0 : decode cX11_land 0 = .ok (.aload_n 0, 1) := by decide +kernel
theorem dX11_land_1 : decode cX11_land 1 = .ok (.iconst 0, 1) := by decide +kernel
theorem dX11_land_2 : decode cX11_land 2 = .ok (.putfield 104, 3) := by decide +kernel
theorem dX11_land_5 : decode cX11_land 5 = .ok (.aload_n 0, 1) := by decide +kernel
theorem dX11_land_6 : decode cX11_land 6 = .ok (.iconst 0, 1) := by decide +kernel
theorem dX11_land_7 : decode cX11_land 7 = .ok (.putfield 159, 3) := by decide +kernel
theorem dX11_land_10 : decode cX11_land 10 = .ok (.aload_n 0, 1) := by decide +kernel
theorem dX11_land_11 : decode cX11_land 11 = .ok (.iconst 0, 1) := by decide +kernel
theorem dX11_land_12 : decode cX11_land 12 = .ok (.putfield 162, 3) := by decide +kernel
theorem dX11_land_15 : decode cX11_land 15 = .ok (.aload_n 0, 1) := by decide +kernel
theorem dX11_land_16 : decode cX11_land 16 = .ok (.iconst 0, 1) := by decide +kernel
theorem dX11_land_17 : decode cX11_land 17 = .ok (.putfield 176, 3) := by decide +kernel
theorem dX11_land_20 : decode cX11_land 20 = .ok (.aload_n 0, 1) := by decide +kernel
theorem dX11_land_21 : decode cX11_land 21 = .ok (.getfield 162, 3) := by decide +kernel
theorem dX11_land_24 : decode cX11_land 24 = .ok (.ifCond .ne 28, 3) := by decide +kernel
theorem dX11_land_27 : decode cX11_land 27 = .ok (.aload_n 0, 1) := by decide +kernel
theorem dX11_land_28 : decode cX11_land 28 = .ok (.getfield 176, 3) := by decide +kernel
theorem dX11_land_31 : decode cX11_land 31 = .ok (.ifCond .eq 14, 3) := by decide +kernel
theorem dX11_land_34 : decode cX11_land 34 = .ok (.aload_n 0, 1) := by decide +kernel
theorem dX11_land_35 : decode cX11_land 35 = .ok (.getfield 159, 3) := by decide +kernel
theorem dX11_land_38 : decode cX11_land 38 = .ok (.aload_n 0, 1) := by decide +kernel
theorem dX11_land_39 : decode cX11_land 39 = .ok (.getfield 156, 3) := by decide +kernel
theorem dX11_land_42 : decode cX11_land 42 = .ok (.if_icmp .ge 10, 3) := by decide +kernel
theorem dX11_land_45 : decode cX11_land 45 = .ok (.aload_n 0, 1) := by decide +kernel
theorem dX11_land_46 : decode cX11_land 46 = .ok (.invokevirtual 215, 3) := by decide +kernel
theorem dX11_land_49 : decode cX11_land 49 = .ok (.goto (-29), 3) := by decide +kernel
theorem dX11_land_52 : decode cX11_land 52 = .ok (.aload_n 0, 1) := by decide +kernel
theorem dX11_land_53 : decode cX11_land 53 = .ok (.iconst 0, 1) := by decide +kernel
theorem dX11_land_54 : decode cX11_land 54 = .ok (.putfield 156, 3) := by decide +kernel
theorem dX11_land_57 : decode cX11_land 57 = .ok (.aload_n 0, 1) := by decide +kernel
theorem dX11_land_58 : decode cX11_land 58 = .ok (.getfield 162, 3) := by decide +kernel
theorem dX11_land_61 : decode cX11_land 61 = .ok (.ifCond .eq 12, 3) := by decide +kernel
theorem dX11_land_64 : decode cX11_land 64 = .ok (.sipush (-1000), 3) := by decide +kernel
theorem dX11_land_67 : decode cX11_land 67 = .ok (.aload_n 0, 1) := by decide +kernel
theorem dX11_land_68 : decode cX11_land 68 = .ok (.getfield 159, 3) := by decide +kernel
theorem dX11_land_71 : decode cX11_land 71 = .ok (.isub, 1) := by decide +kernel
theorem dX11_land_72 : decode cX11_land 72 = .ok (.ireturn, 1) := by decide +kernel
theorem dX11_land_73 : decode cX11_land 73 = .ok (.aload_n 0, 1) := by decide +kernel
theorem dX11_land_74 : decode cX11_land 74 = .ok (.aload_n 0, 1) := by decide +kernel
theorem dX11_land_75 : decode cX11_land 75 = .ok (.getfield 71, 3) := by decide +kernel
theorem dX11_land_78 : decode cX11_land 78 = .ok (.iconst 1, 1) := by decide +kernel
theorem dX11_land_79 : decode cX11_land 79 = .ok (.invokevirtual 218, 3) := by decide +kernel
theorem dX11_land_82 : decode cX11_land 82 = .ok (.iconst 0, 1) := by decide +kernel
theorem dX11_land_83 : decode cX11_land 83 = .ok (.istore_n 1, 1) := by decide +kernel
theorem dX11_land_84 : decode cX11_land 84 = .ok (.iload_n 1, 1) := by decide +kernel
theorem dX11_land_85 : decode cX11_land 85 = .ok (.aload_n 0, 1) := by decide +kernel
theorem dX11_land_86 : decode cX11_land 86 = .ok (.getfield 176, 3) := by decide +kernel
theorem dX11_land_89 : decode cX11_land 89 = .ok (.if_icmp .ge 37, 3) := by decide +kernel
theorem dX11_land_92 : decode cX11_land 92 = .ok (.aload_n 0, 1) := by decide +kernel
theorem dX11_land_93 : decode cX11_land 93 = .ok (.iload_n 1, 1) := by decide +kernel
theorem dX11_land_94 : decode cX11_land 94 = .ok (.invokevirtual 222, 3) := by decide +kernel
theorem dX11_land_97 : decode cX11_land 97 = .ok (.ifCond .ne 23, 3) := by decide +kernel
theorem dX11_land_100 : decode cX11_land 100 = .ok (.aload_n 0, 1) := by decide +kernel
theorem dX11_land_101 : decode cX11_land 101 = .ok (.aload_n 0, 1) := by decide +kernel
theorem dX11_land_102 : decode cX11_land 102 = .ok (.getfield 71, 3) := by decide +kernel
theorem dX11_land_105 : decode cX11_land 105 = .ok (.iconst 0, 1) := by decide +kernel
theorem dX11_land_106 : decode cX11_land 106 = .ok (.invokevirtual 218, 3) := by decide +kernel
theorem dX11_land_109 : decode cX11_land 109 = .ok (.sipush (-2000), 3) := by decide +kernel
theorem dX11_land_112 : decode cX11_land 112 = .ok (.aload_n 0, 1) := by decide +kernel
theorem dX11_land_113 : decode cX11_land 113 = .ok (.getfield 59, 3) := by decide +kernel
theorem dX11_land_116 : decode cX11_land 116 = .ok (.iload_n 1, 1) := by decide +kernel
theorem dX11_land_117 : decode cX11_land 117 = .ok (.iaload, 1) := by decide +kernel
theorem dX11_land_118 : decode cX11_land 118 = .ok (.isub, 1) := by decide +kernel
theorem dX11_land_119 : decode cX11_land 119 = .ok (.ireturn, 1) := by decide +kernel
theorem dX11_land_120 : decode cX11_land 120 = .ok (.iinc 1 1, 3) := by decide +kernel
theorem dX11_land_123 : decode cX11_land 123 = .ok (.goto (-39), 3) := by decide +kernel
theorem dX11_land_126 : decode cX11_land 126 = .ok (.aload_n 0, 1) := by decide +kernel
theorem dX11_land_127 : decode cX11_land 127 = .ok (.iconst 0, 1) := by decide +kernel
theorem dX11_land_128 : decode cX11_land 128 = .ok (.putfield 225, 3) := by decide +kernel
theorem dX11_land_131 : decode cX11_land 131 = .ok (.aload_n 0, 1) := by decide +kernel
theorem dX11_land_132 : decode cX11_land 132 = .ok (.getfield 176, 3) := by decide +kernel
theorem dX11_land_135 : decode cX11_land 135 = .ok (.ireturn, 1) := by decide +kernel
theorem dX11_carry_0 : decode cX11_carry 0 = .ok (.aload_n 0, 1) := by decide +kernel
theorem dX11_carry_1 : decode cX11_carry 1 = .ok (.getfield 228, 3) := by decide +kernel
theorem dX11_carry_4 : decode cX11_carry 4 = .ok (.ifCond .eq 13, 3) := by decide +kernel
theorem dX11_carry_7 : decode cX11_carry 7 = .ok (.aload_n 0, 1) := by decide +kernel
theorem dX11_carry_8 : decode cX11_carry 8 = .ok (.getfield 231, 3) := by decide +kernel
theorem dX11_carry_11 : decode cX11_carry 11 = .ok (.aload_n 0, 1) := by decide +kernel
theorem dX11_carry_12 : decode cX11_carry 12 = .ok (.getfield 234, 3) := by decide +kernel
theorem dX11_carry_15 : decode cX11_carry 15 = .ok (.iload_n 1, 1) := by decide +kernel
theorem dX11_carry_16 : decode cX11_carry 16 = .ok (.iastore, 1) := by decide +kernel
theorem dX11_carry_17 : decode cX11_carry 17 = .ok (.aload_n 0, 1) := by decide +kernel
theorem dX11_carry_18 : decode cX11_carry 18 = .ok (.dup, 1) := by decide +kernel
theorem dX11_carry_19 : decode cX11_carry 19 = .ok (.getfield 234, 3) := by decide +kernel
theorem dX11_carry_22 : decode cX11_carry 22 = .ok (.iconst 1, 1) := by decide +kernel
theorem dX11_carry_23 : decode cX11_carry 23 = .ok (.iadd, 1) := by decide +kernel
theorem dX11_carry_24 : decode cX11_carry 24 = .ok (.putfield 234, 3) := by decide +kernel
theorem dX11_carry_27 : decode cX11_carry 27 = .ok (.aload_n 0, 1) := by decide +kernel
theorem dX11_carry_28 : decode cX11_carry 28 = .ok (.getfield 231, 3) := by decide +kernel
theorem dX11_carry_31 : decode cX11_carry 31 = .ok (.aload_n 0, 1) := by decide +kernel
theorem dX11_carry_32 : decode cX11_carry 32 = .ok (.getfield 234, 3) := by decide +kernel
theorem dX11_carry_35 : decode cX11_carry 35 = .ok (.iconst 1, 1) := by decide +kernel
theorem dX11_carry_36 : decode cX11_carry 36 = .ok (.isub, 1) := by decide +kernel
theorem dX11_carry_37 : decode cX11_carry 37 = .ok (.iaload, 1) := by decide +kernel
theorem dX11_carry_38 : decode cX11_carry 38 = .ok (.ireturn, 1) := by decide +kernel
theorem dX11_carryFlight_0 : decode cX11_carryFlight 0 = .ok (.aload_n 0, 1) := by decide +kernel
theorem dX11_carryFlight_1 : decode cX11_carryFlight 1 = .ok (.aload_n 0, 1) := by decide +kernel
theorem dX11_carryFlight_2 : decode cX11_carryFlight 2 = .ok (.aload_n 0, 1) := by decide +kernel
theorem dX11_carryFlight_3 : decode cX11_carryFlight 3 = .ok (.getfield 127, 3) := by decide +kernel
theorem dX11_carryFlight_6 : decode cX11_carryFlight 6 = .ok (.invokevirtual 237, 3) := by decide +kernel
theorem dX11_carryFlight_9 : decode cX11_carryFlight 9 = .ok (.putfield 127, 3) := by decide +kernel
theorem dX11_carryFlight_12 : decode cX11_carryFlight 12 = .ok (.aload_n 0, 1) := by decide +kernel
theorem dX11_carryFlight_13 : decode cX11_carryFlight 13 = .ok (.aload_n 0, 1) := by decide +kernel
theorem dX11_carryFlight_14 : decode cX11_carryFlight 14 = .ok (.aload_n 0, 1) := by decide +kernel
theorem dX11_carryFlight_15 : decode cX11_carryFlight 15 = .ok (.getfield 16, 3) := by decide +kernel
theorem dX11_carryFlight_18 : decode cX11_carryFlight 18 = .ok (.invokevirtual 237, 3) := by decide +kernel
theorem dX11_carryFlight_21 : decode cX11_carryFlight 21 = .ok (.putfield 16, 3) := by decide +kernel
theorem dX11_carryFlight_24 : decode cX11_carryFlight 24 = .ok (.aload_n 0, 1) := by decide +kernel
theorem dX11_carryFlight_25 : decode cX11_carryFlight 25 = .ok (.aload_n 0, 1) := by decide +kernel
theorem dX11_carryFlight_26 : decode cX11_carryFlight 26 = .ok (.aload_n 0, 1) := by decide +kernel
theorem dX11_carryFlight_27 : decode cX11_carryFlight 27 = .ok (.getfield 133, 3) := by decide +kernel
theorem dX11_carryFlight_30 : decode cX11_carryFlight 30 = .ok (.invokevirtual 237, 3) := by decide +kernel
theorem dX11_carryFlight_33 : decode cX11_carryFlight 33 = .ok (.putfield 133, 3) := by decide +kernel
theorem dX11_carryFlight_36 : decode cX11_carryFlight 36 = .ok (.aload_n 0, 1) := by decide +kernel
theorem dX11_carryFlight_37 : decode cX11_carryFlight 37 = .ok (.aload_n 0, 1) := by decide +kernel
theorem dX11_carryFlight_38 : decode cX11_carryFlight 38 = .ok (.aload_n 0, 1) := by decide +kernel
theorem dX11_carryFlight_39 : decode cX11_carryFlight 39 = .ok (.getfield 20, 3) := by decide +kernel
theorem dX11_carryFlight_42 : decode cX11_carryFlight 42 = .ok (.invokevirtual 237, 3) := by decide +kernel
theorem dX11_carryFlight_45 : decode cX11_carryFlight 45 = .ok (.putfield 20, 3) := by decide +kernel
theorem dX11_carryFlight_48 : decode cX11_carryFlight 48 = .ok (.aload_n 0, 1) := by decide +kernel
theorem dX11_carryFlight_49 : decode cX11_carryFlight 49 = .ok (.aload_n 0, 1) := by decide +kernel
theorem dX11_carryFlight_50 : decode cX11_carryFlight 50 = .ok (.aload_n 0, 1) := by decide +kernel
theorem dX11_carryFlight_51 : decode cX11_carryFlight 51 = .ok (.getfield 23, 3) := by decide +kernel
theorem dX11_carryFlight_54 : decode cX11_carryFlight 54 = .ok (.invokevirtual 237, 3) := by decide +kernel
theorem dX11_carryFlight_57 : decode cX11_carryFlight 57 = .ok (.putfield 23, 3) := by decide +kernel
theorem dX11_carryFlight_60 : decode cX11_carryFlight 60 = .ok (.aload_n 0, 1) := by decide +kernel
theorem dX11_carryFlight_61 : decode cX11_carryFlight 61 = .ok (.aload_n 0, 1) := by decide +kernel
theorem dX11_carryFlight_62 : decode cX11_carryFlight 62 = .ok (.aload_n 0, 1) := by decide +kernel
theorem dX11_carryFlight_63 : decode cX11_carryFlight 63 = .ok (.getfield 26, 3) := by decide +kernel
theorem dX11_carryFlight_66 : decode cX11_carryFlight 66 = .ok (.invokevirtual 237, 3) := by decide +kernel
theorem dX11_carryFlight_69 : decode cX11_carryFlight 69 = .ok (.putfield 26, 3) := by decide +kernel
theorem dX11_carryFlight_72 : decode cX11_carryFlight 72 = .ok (.aload_n 0, 1) := by decide +kernel
theorem dX11_carryFlight_73 : decode cX11_carryFlight 73 = .ok (.aload_n 0, 1) := by decide +kernel
theorem dX11_carryFlight_74 : decode cX11_carryFlight 74 = .ok (.aload_n 0, 1) := by decide +kernel
theorem dX11_carryFlight_75 : decode cX11_carryFlight 75 = .ok (.getfield 29, 3) := by decide +kernel
theorem dX11_carryFlight_78 : decode cX11_carryFlight 78 = .ok (.invokevirtual 237, 3) := by decide +kernel
theorem dX11_carryFlight_81 : decode cX11_carryFlight 81 = .ok (.putfield 29, 3) := by decide +kernel
theorem dX11_carryFlight_84 : decode cX11_carryFlight 84 = .ok (.aload_n 0, 1) := by decide +kernel
theorem dX11_carryFlight_85 : decode cX11_carryFlight 85 = .ok (.aload_n 0, 1) := by decide +kernel
theorem dX11_carryFlight_86 : decode cX11_carryFlight 86 = .ok (.aload_n 0, 1) := by decide +kernel
theorem dX11_carryFlight_87 : decode cX11_carryFlight 87 = .ok (.getfield 136, 3) := by decide +kernel
theorem dX11_carryFlight_90 : decode cX11_carryFlight 90 = .ok (.invokevirtual 237, 3) := by decide +kernel
theorem dX11_carryFlight_93 : decode cX11_carryFlight 93 = .ok (.putfield 136, 3) := by decide +kernel
theorem dX11_carryFlight_96 : decode cX11_carryFlight 96 = .ok (.iconst 0, 1) := by decide +kernel
theorem dX11_carryFlight_97 : decode cX11_carryFlight 97 = .ok (.istore_n 1, 1) := by decide +kernel
theorem dX11_carryFlight_98 : decode cX11_carryFlight 98 = .ok (.iload_n 1, 1) := by decide +kernel
theorem dX11_carryFlight_99 : decode cX11_carryFlight 99 = .ok (.bipush 6, 2) := by decide +kernel
theorem dX11_carryFlight_101 : decode cX11_carryFlight 101 = .ok (.if_icmp .ge 25, 3) := by decide +kernel
theorem dX11_carryFlight_104 : decode cX11_carryFlight 104 = .ok (.aload_n 0, 1) := by decide +kernel
theorem dX11_carryFlight_105 : decode cX11_carryFlight 105 = .ok (.getfield 32, 3) := by decide +kernel
theorem dX11_carryFlight_108 : decode cX11_carryFlight 108 = .ok (.iload_n 1, 1) := by decide +kernel
theorem dX11_carryFlight_109 : decode cX11_carryFlight 109 = .ok (.aload_n 0, 1) := by decide +kernel
theorem dX11_carryFlight_110 : decode cX11_carryFlight 110 = .ok (.aload_n 0, 1) := by decide +kernel
theorem dX11_carryFlight_111 : decode cX11_carryFlight 111 = .ok (.getfield 32, 3) := by decide +kernel
theorem dX11_carryFlight_114 : decode cX11_carryFlight 114 = .ok (.iload_n 1, 1) := by decide +kernel
theorem dX11_carryFlight_115 : decode cX11_carryFlight 115 = .ok (.iaload, 1) := by decide +kernel
theorem dX11_carryFlight_116 : decode cX11_carryFlight 116 = .ok (.invokevirtual 237, 3) := by decide +kernel
theorem dX11_carryFlight_119 : decode cX11_carryFlight 119 = .ok (.iastore, 1) := by decide +kernel
theorem dX11_carryFlight_120 : decode cX11_carryFlight 120 = .ok (.iinc 1 1, 3) := by decide +kernel
theorem dX11_carryFlight_123 : decode cX11_carryFlight 123 = .ok (.goto (-25), 3) := by decide +kernel
theorem dX11_carryFlight_126 : decode cX11_carryFlight 126 = .ok (.return_, 1) := by decide +kernel
theorem dX11_carryAll_0 : decode cX11_carryAll 0 = .ok (.aload_n 0, 1) := by decide +kernel
theorem dX11_carryAll_1 : decode cX11_carryAll 1 = .ok (.aload_n 1, 1) := by decide +kernel
theorem dX11_carryAll_2 : decode cX11_carryAll 2 = .ok (.putfield 231, 3) := by decide +kernel
theorem dX11_carryAll_5 : decode cX11_carryAll 5 = .ok (.aload_n 0, 1) := by decide +kernel
theorem dX11_carryAll_6 : decode cX11_carryAll 6 = .ok (.iload_n 2, 1) := by decide +kernel
theorem dX11_carryAll_7 : decode cX11_carryAll 7 = .ok (.putfield 228, 3) := by decide +kernel
theorem dX11_carryAll_10 : decode cX11_carryAll 10 = .ok (.aload_n 0, 1) := by decide +kernel
theorem dX11_carryAll_11 : decode cX11_carryAll 11 = .ok (.iconst 0, 1) := by decide +kernel
theorem dX11_carryAll_12 : decode cX11_carryAll 12 = .ok (.putfield 234, 3) := by decide +kernel
theorem dX11_carryAll_15 : decode cX11_carryAll 15 = .ok (.aload_n 0, 1) := by decide +kernel
theorem dX11_carryAll_16 : decode cX11_carryAll 16 = .ok (.invokevirtual 240, 3) := by decide +kernel
theorem dX11_carryAll_19 : decode cX11_carryAll 19 = .ok (.aload_n 0, 1) := by decide +kernel
theorem dX11_carryAll_20 : decode cX11_carryAll 20 = .ok (.aload_n 0, 1) := by decide +kernel
theorem dX11_carryAll_21 : decode cX11_carryAll 21 = .ok (.aload_n 0, 1) := by decide +kernel
theorem dX11_carryAll_22 : decode cX11_carryAll 22 = .ok (.getfield 111, 3) := by decide +kernel
theorem dX11_carryAll_25 : decode cX11_carryAll 25 = .ok (.invokevirtual 237, 3) := by decide +kernel
theorem dX11_carryAll_28 : decode cX11_carryAll 28 = .ok (.putfield 111, 3) := by decide +kernel
theorem dX11_carryAll_31 : decode cX11_carryAll 31 = .ok (.aload_n 0, 1) := by decide +kernel
theorem dX11_carryAll_32 : decode cX11_carryAll 32 = .ok (.aload_n 0, 1) := by decide +kernel
theorem dX11_carryAll_33 : decode cX11_carryAll 33 = .ok (.aload_n 0, 1) := by decide +kernel
theorem dX11_carryAll_34 : decode cX11_carryAll 34 = .ok (.getfield 243, 3) := by decide +kernel
theorem dX11_carryAll_37 : decode cX11_carryAll 37 = .ok (.invokevirtual 237, 3) := by decide +kernel
theorem dX11_carryAll_40 : decode cX11_carryAll 40 = .ok (.putfield 243, 3) := by decide +kernel
theorem dX11_carryAll_43 : decode cX11_carryAll 43 = .ok (.iconst 0, 1) := by decide +kernel
theorem dX11_carryAll_44 : decode cX11_carryAll 44 = .ok (.istore_n 3, 1) := by decide +kernel
theorem dX11_carryAll_45 : decode cX11_carryAll 45 = .ok (.iload_n 3, 1) := by decide +kernel
theorem dX11_carryAll_46 : decode cX11_carryAll 46 = .ok (.bipush 8, 2) := by decide +kernel
theorem dX11_carryAll_48 : decode cX11_carryAll 48 = .ok (.if_icmp .ge 121, 3) := by decide +kernel
theorem dX11_carryAll_51 : decode cX11_carryAll 51 = .ok (.aload_n 0, 1) := by decide +kernel
theorem dX11_carryAll_52 : decode cX11_carryAll 52 = .ok (.getfield 7, 3) := by decide +kernel
theorem dX11_carryAll_55 : decode cX11_carryAll 55 = .ok (.iload_n 3, 1) := by decide +kernel
theorem dX11_carryAll_56 : decode cX11_carryAll 56 = .ok (.aload_n 0, 1) := by decide +kernel
theorem dX11_carryAll_57 : decode cX11_carryAll 57 = .ok (.aload_n 0, 1) := by decide +kernel
theorem dX11_carryAll_58 : decode cX11_carryAll 58 = .ok (.getfield 7, 3) := by decide +kernel
theorem dX11_carryAll_61 : decode cX11_carryAll 61 = .ok (.iload_n 3, 1) := by decide +kernel
theorem dX11_carryAll_62 : decode cX11_carryAll 62 = .ok (.iaload, 1) := by decide +kernel
theorem dX11_carryAll_63 : decode cX11_carryAll 63 = .ok (.invokevirtual 237, 3) := by decide +kernel
theorem dX11_carryAll_66 : decode cX11_carryAll 66 = .ok (.iastore, 1) := by decide +kernel
theorem dX11_carryAll_67 : decode cX11_carryAll 67 = .ok (.aload_n 0, 1) := by decide +kernel
theorem dX11_carryAll_68 : decode cX11_carryAll 68 = .ok (.getfield 13, 3) := by decide +kernel
theorem dX11_carryAll_71 : decode cX11_carryAll 71 = .ok (.iload_n 3, 1) := by decide +kernel
theorem dX11_carryAll_72 : decode cX11_carryAll 72 = .ok (.aload_n 0, 1) := by decide +kernel
theorem dX11_carryAll_73 : decode cX11_carryAll 73 = .ok (.aload_n 0, 1) := by decide +kernel
theorem dX11_carryAll_74 : decode cX11_carryAll 74 = .ok (.getfield 13, 3) := by decide +kernel
theorem dX11_carryAll_77 : decode cX11_carryAll 77 = .ok (.iload_n 3, 1) := by decide +kernel
theorem dX11_carryAll_78 : decode cX11_carryAll 78 = .ok (.iaload, 1) := by decide +kernel
theorem dX11_carryAll_79 : decode cX11_carryAll 79 = .ok (.invokevirtual 237, 3) := by decide +kernel
theorem dX11_carryAll_82 : decode cX11_carryAll 82 = .ok (.iastore, 1) := by decide +kernel
theorem dX11_carryAll_83 : decode cX11_carryAll 83 = .ok (.aload_n 0, 1) := by decide +kernel
theorem dX11_carryAll_84 : decode cX11_carryAll 84 = .ok (.getfield 35, 3) := by decide +kernel
theorem dX11_carryAll_87 : decode cX11_carryAll 87 = .ok (.iload_n 3, 1) := by decide +kernel
theorem dX11_carryAll_88 : decode cX11_carryAll 88 = .ok (.aload_n 0, 1) := by decide +kernel
theorem dX11_carryAll_89 : decode cX11_carryAll 89 = .ok (.aload_n 0, 1) := by decide +kernel
theorem dX11_carryAll_90 : decode cX11_carryAll 90 = .ok (.getfield 35, 3) := by decide +kernel
theorem dX11_carryAll_93 : decode cX11_carryAll 93 = .ok (.iload_n 3, 1) := by decide +kernel
theorem dX11_carryAll_94 : decode cX11_carryAll 94 = .ok (.iaload, 1) := by decide +kernel
theorem dX11_carryAll_95 : decode cX11_carryAll 95 = .ok (.invokevirtual 237, 3) := by decide +kernel
theorem dX11_carryAll_98 : decode cX11_carryAll 98 = .ok (.iastore, 1) := by decide +kernel
theorem dX11_carryAll_99 : decode cX11_carryAll 99 = .ok (.aload_n 0, 1) := by decide +kernel
theorem dX11_carryAll_100 : decode cX11_carryAll 100 = .ok (.getfield 38, 3) := by decide +kernel
theorem dX11_carryAll_103 : decode cX11_carryAll 103 = .ok (.iload_n 3, 1) := by decide +kernel
theorem dX11_carryAll_104 : decode cX11_carryAll 104 = .ok (.aload_n 0, 1) := by decide +kernel
theorem dX11_carryAll_105 : decode cX11_carryAll 105 = .ok (.aload_n 0, 1) := by decide +kernel
theorem dX11_carryAll_106 : decode cX11_carryAll 106 = .ok (.getfield 38, 3) := by decide +kernel
theorem dX11_carryAll_109 : decode cX11_carryAll 109 = .ok (.iload_n 3, 1) := by decide +kernel
theorem dX11_carryAll_110 : decode cX11_carryAll 110 = .ok (.iaload, 1) := by decide +kernel
theorem dX11_carryAll_111 : decode cX11_carryAll 111 = .ok (.invokevirtual 237, 3) := by decide +kernel
theorem dX11_carryAll_114 : decode cX11_carryAll 114 = .ok (.iastore, 1) := by decide +kernel
theorem dX11_carryAll_115 : decode cX11_carryAll 115 = .ok (.aload_n 0, 1) := by decide +kernel
theorem dX11_carryAll_116 : decode cX11_carryAll 116 = .ok (.getfield 41, 3) := by decide +kernel
theorem dX11_carryAll_119 : decode cX11_carryAll 119 = .ok (.iload_n 3, 1) := by decide +kernel
theorem dX11_carryAll_120 : decode cX11_carryAll 120 = .ok (.aload_n 0, 1) := by decide +kernel
theorem dX11_carryAll_121 : decode cX11_carryAll 121 = .ok (.aload_n 0, 1) := by decide +kernel
theorem dX11_carryAll_122 : decode cX11_carryAll 122 = .ok (.getfield 41, 3) := by decide +kernel
theorem dX11_carryAll_125 : decode cX11_carryAll 125 = .ok (.iload_n 3, 1) := by decide +kernel
theorem dX11_carryAll_126 : decode cX11_carryAll 126 = .ok (.iaload, 1) := by decide +kernel
theorem dX11_carryAll_127 : decode cX11_carryAll 127 = .ok (.invokevirtual 237, 3) := by decide +kernel
theorem dX11_carryAll_130 : decode cX11_carryAll 130 = .ok (.iastore, 1) := by decide +kernel
theorem dX11_carryAll_131 : decode cX11_carryAll 131 = .ok (.aload_n 0, 1) := by decide +kernel
theorem dX11_carryAll_132 : decode cX11_carryAll 132 = .ok (.getfield 44, 3) := by decide +kernel
theorem dX11_carryAll_135 : decode cX11_carryAll 135 = .ok (.iload_n 3, 1) := by decide +kernel
theorem dX11_carryAll_136 : decode cX11_carryAll 136 = .ok (.aload_n 0, 1) := by decide +kernel
theorem dX11_carryAll_137 : decode cX11_carryAll 137 = .ok (.aload_n 0, 1) := by decide +kernel
theorem dX11_carryAll_138 : decode cX11_carryAll 138 = .ok (.getfield 44, 3) := by decide +kernel
theorem dX11_carryAll_141 : decode cX11_carryAll 141 = .ok (.iload_n 3, 1) := by decide +kernel
theorem dX11_carryAll_142 : decode cX11_carryAll 142 = .ok (.iaload, 1) := by decide +kernel
theorem dX11_carryAll_143 : decode cX11_carryAll 143 = .ok (.invokevirtual 237, 3) := by decide +kernel
theorem dX11_carryAll_146 : decode cX11_carryAll 146 = .ok (.iastore, 1) := by decide +kernel
theorem dX11_carryAll_147 : decode cX11_carryAll 147 = .ok (.aload_n 0, 1) := by decide +kernel
theorem dX11_carryAll_148 : decode cX11_carryAll 148 = .ok (.getfield 47, 3) := by decide +kernel
theorem dX11_carryAll_151 : decode cX11_carryAll 151 = .ok (.iload_n 3, 1) := by decide +kernel
theorem dX11_carryAll_152 : decode cX11_carryAll 152 = .ok (.aload_n 0, 1) := by decide +kernel
theorem dX11_carryAll_153 : decode cX11_carryAll 153 = .ok (.aload_n 0, 1) := by decide +kernel
theorem dX11_carryAll_154 : decode cX11_carryAll 154 = .ok (.getfield 47, 3) := by decide +kernel
theorem dX11_carryAll_157 : decode cX11_carryAll 157 = .ok (.iload_n 3, 1) := by decide +kernel
theorem dX11_carryAll_158 : decode cX11_carryAll 158 = .ok (.iaload, 1) := by decide +kernel
theorem dX11_carryAll_159 : decode cX11_carryAll 159 = .ok (.invokevirtual 237, 3) := by decide +kernel
theorem dX11_carryAll_162 : decode cX11_carryAll 162 = .ok (.iastore, 1) := by decide +kernel
theorem dX11_carryAll_163 : decode cX11_carryAll 163 = .ok (.iinc 3 1, 3) := by decide +kernel
theorem dX11_carryAll_166 : decode cX11_carryAll 166 = .ok (.goto (-121), 3) := by decide +kernel
theorem dX11_carryAll_169 : decode cX11_carryAll 169 = .ok (.iconst 0, 1) := by decide +kernel
theorem dX11_carryAll_170 : decode cX11_carryAll 170 = .ok (.istore_n 3, 1) := by decide +kernel
theorem dX11_carryAll_171 : decode cX11_carryAll 171 = .ok (.iload_n 3, 1) := by decide +kernel
theorem dX11_carryAll_172 : decode cX11_carryAll 172 = .ok (.bipush 64, 2) := by decide +kernel
theorem dX11_carryAll_174 : decode cX11_carryAll 174 = .ok (.if_icmp .ge 25, 3) := by decide +kernel
theorem dX11_carryAll_177 : decode cX11_carryAll 177 = .ok (.aload_n 0, 1) := by decide +kernel
theorem dX11_carryAll_178 : decode cX11_carryAll 178 = .ok (.getfield 50, 3) := by decide +kernel
theorem dX11_carryAll_181 : decode cX11_carryAll 181 = .ok (.iload_n 3, 1) := by decide +kernel
theorem dX11_carryAll_182 : decode cX11_carryAll 182 = .ok (.aload_n 0, 1) := by decide +kernel
theorem dX11_carryAll_183 : decode cX11_carryAll 183 = .ok (.aload_n 0, 1) := by decide +kernel
theorem dX11_carryAll_184 : decode cX11_carryAll 184 = .ok (.getfield 50, 3) := by decide +kernel
theorem dX11_carryAll_187 : decode cX11_carryAll 187 = .ok (.iload_n 3, 1) := by decide +kernel
theorem dX11_carryAll_188 : decode cX11_carryAll 188 = .ok (.iaload, 1) := by decide +kernel
theorem dX11_carryAll_189 : decode cX11_carryAll 189 = .ok (.invokevirtual 237, 3) := by decide +kernel
theorem dX11_carryAll_192 : decode cX11_carryAll 192 = .ok (.iastore, 1) := by decide +kernel
theorem dX11_carryAll_193 : decode cX11_carryAll 193 = .ok (.iinc 3 1, 3) := by decide +kernel
theorem dX11_carryAll_196 : decode cX11_carryAll 196 = .ok (.goto (-25), 3) := by decide +kernel
theorem dX11_carryAll_199 : decode cX11_carryAll 199 = .ok (.return_, 1) := by decide +kernel
theorem dX11_open_0 : decode cX11_open 0 = .ok (.aload_n 0, 1) := by decide +kernel
theorem dX11_open_1 : decode cX11_open 1 = .ok (.aload_n 0, 1) := by decide +kernel
theorem dX11_open_2 : decode cX11_open 2 = .ok (.getfield 77, 3) := by decide +kernel
theorem dX11_open_5 : decode cX11_open 5 = .ok (.putfield 231, 3) := by decide +kernel
theorem dX11_open_8 : decode cX11_open 8 = .ok (.aload_n 0, 1) := by decide +kernel
theorem dX11_open_9 : decode cX11_open 9 = .ok (.iconst 1, 1) := by decide +kernel
theorem dX11_open_10 : decode cX11_open 10 = .ok (.putfield 228, 3) := by decide +kernel
theorem dX11_open_13 : decode cX11_open 13 = .ok (.aload_n 0, 1) := by decide +kernel
theorem dX11_open_14 : decode cX11_open 14 = .ok (.iconst 0, 1) := by decide +kernel
theorem dX11_open_15 : decode cX11_open 15 = .ok (.putfield 234, 3) := by decide +kernel
theorem dX11_open_18 : decode cX11_open 18 = .ok (.aload_n 0, 1) := by decide +kernel
theorem dX11_open_19 : decode cX11_open 19 = .ok (.invokevirtual 240, 3) := by decide +kernel
theorem dX11_open_22 : decode cX11_open 22 = .ok (.return_, 1) := by decide +kernel
theorem dX11_again_0 : decode cX11_again 0 = .ok (.aload_n 0, 1) := by decide +kernel
theorem dX11_again_1 : decode cX11_again 1 = .ok (.aload_n 0, 1) := by decide +kernel
theorem dX11_again_2 : decode cX11_again 2 = .ok (.getfield 77, 3) := by decide +kernel
theorem dX11_again_5 : decode cX11_again 5 = .ok (.putfield 231, 3) := by decide +kernel
theorem dX11_again_8 : decode cX11_again 8 = .ok (.aload_n 0, 1) := by decide +kernel
theorem dX11_again_9 : decode cX11_again 9 = .ok (.iconst 0, 1) := by decide +kernel
theorem dX11_again_10 : decode cX11_again 10 = .ok (.putfield 228, 3) := by decide +kernel
theorem dX11_again_13 : decode cX11_again 13 = .ok (.aload_n 0, 1) := by decide +kernel
theorem dX11_again_14 : decode cX11_again 14 = .ok (.iconst 0, 1) := by decide +kernel
theorem dX11_again_15 : decode cX11_again 15 = .ok (.putfield 234, 3) := by decide +kernel
theorem dX11_again_18 : decode cX11_again 18 = .ok (.aload_n 0, 1) := by decide +kernel
theorem dX11_again_19 : decode cX11_again 19 = .ok (.invokevirtual 240, 3) := by decide +kernel
theorem dX11_again_22 : decode cX11_again 22 = .ok (.return_, 1) := by decide +kernel
theorem dX11_image_0 : decode cX11_image 0 = .ok (.aload_n 0, 1) := by decide +kernel
theorem dX11_image_1 : decode cX11_image 1 = .ok (.iconst 0, 1) := by decide +kernel
theorem dX11_image_2 : decode cX11_image 2 = .ok (.putfield 104, 3) := by decide +kernel
theorem dX11_image_5 : decode cX11_image 5 = .ok (.aload_n 0, 1) := by decide +kernel
theorem dX11_image_6 : decode cX11_image 6 = .ok (.iconst 1, 1) := by decide +kernel
theorem dX11_image_7 : decode cX11_image 7 = .ok (.putfield 246, 3) := by decide +kernel
theorem dX11_image_10 : decode cX11_image 10 = .ok (.aload_n 0, 1) := by decide +kernel
theorem dX11_image_11 : decode cX11_image 11 = .ok (.aload_n 0, 1) := by decide +kernel
theorem dX11_image_12 : decode cX11_image 12 = .ok (.getfield 74, 3) := by decide +kernel
theorem dX11_image_15 : decode cX11_image 15 = .ok (.iconst 1, 1) := by decide +kernel
theorem dX11_image_16 : decode cX11_image 16 = .ok (.invokevirtual 218, 3) := by decide +kernel
theorem dX11_image_19 : decode cX11_image 19 = .ok (.aload_n 0, 1) := by decide +kernel
theorem dX11_image_20 : decode cX11_image 20 = .ok (.getfield 136, 3) := by decide +kernel
theorem dX11_image_23 : decode cX11_image 23 = .ok (.ireturn, 1) := by decide +kernel
theorem dX11_restore_0 : decode cX11_restore 0 = .ok (.aload_n 0, 1) := by decide +kernel
theorem dX11_restore_1 : decode cX11_restore 1 = .ok (.iconst 0, 1) := by decide +kernel
theorem dX11_restore_2 : decode cX11_restore 2 = .ok (.putfield 104, 3) := by decide +kernel
theorem dX11_restore_5 : decode cX11_restore 5 = .ok (.aload_n 0, 1) := by decide +kernel
theorem dX11_restore_6 : decode cX11_restore 6 = .ok (.getfield 246, 3) := by decide +kernel
theorem dX11_restore_9 : decode cX11_restore 9 = .ok (.ifCond .ne 10, 3) := by decide +kernel
theorem dX11_restore_12 : decode cX11_restore 12 = .ok (.aload_n 0, 1) := by decide +kernel
theorem dX11_restore_13 : decode cX11_restore 13 = .ok (.bipush (-3), 2) := by decide +kernel
theorem dX11_restore_15 : decode cX11_restore 15 = .ok (.invokevirtual 153, 3) := by decide +kernel
theorem dX11_restore_18 : decode cX11_restore 18 = .ok (.ireturn, 1) := by decide +kernel
theorem dX11_restore_19 : decode cX11_restore 19 = .ok (.aload_n 0, 1) := by decide +kernel
theorem dX11_restore_20 : decode cX11_restore 20 = .ok (.aload_n 0, 1) := by decide +kernel
theorem dX11_restore_21 : decode cX11_restore 21 = .ok (.getfield 74, 3) := by decide +kernel
theorem dX11_restore_24 : decode cX11_restore 24 = .ok (.iconst 0, 1) := by decide +kernel
theorem dX11_restore_25 : decode cX11_restore 25 = .ok (.invokevirtual 218, 3) := by decide +kernel
theorem dX11_restore_28 : decode cX11_restore 28 = .ok (.aload_n 0, 1) := by decide +kernel
theorem dX11_restore_29 : decode cX11_restore 29 = .ok (.iconst 0, 1) := by decide +kernel
theorem dX11_restore_30 : decode cX11_restore 30 = .ok (.putfield 225, 3) := by decide +kernel
theorem dX11_restore_33 : decode cX11_restore 33 = .ok (.aload_n 0, 1) := by decide +kernel
theorem dX11_restore_34 : decode cX11_restore 34 = .ok (.getfield 136, 3) := by decide +kernel
theorem dX11_restore_37 : decode cX11_restore 37 = .ok (.ireturn, 1) := by decide +kernel
theorem dX11_layer_0 : decode cX11_layer 0 = .ok (.aload_n 0, 1) := by decide +kernel
theorem dX11_layer_1 : decode cX11_layer 1 = .ok (.iconst 0, 1) := by decide +kernel
theorem dX11_layer_2 : decode cX11_layer 2 = .ok (.putfield 104, 3) := by decide +kernel
theorem dX11_layer_5 : decode cX11_layer 5 = .ok (.iload_n 1, 1) := by decide +kernel
theorem dX11_layer_6 : decode cX11_layer 6 = .ok (.i2l, 1) := by decide +kernel
theorem dX11_layer_7 : decode cX11_layer 7 = .ok (.lconst 0, 1) := by decide +kernel
theorem dX11_layer_8 : decode cX11_layer 8 = .ok (.ldc2_w 114, 3) := by decide +kernel
theorem dX11_layer_11 : decode cX11_layer 11 = .ok (.invokestatic 107, 3) := by decide +kernel
theorem dX11_layer_14 : decode cX11_layer 14 = .ok (.ifCond .eq 13, 3) := by decide +kernel
theorem dX11_layer_17 : decode cX11_layer 17 = .ok (.iload_n 2, 1) := by decide +kernel
theorem dX11_layer_18 : decode cX11_layer 18 = .ok (.i2l, 1) := by decide +kernel
theorem dX11_layer_19 : decode cX11_layer 19 = .ok (.lconst 0, 1) := by decide +kernel
theorem dX11_layer_20 : decode cX11_layer 20 = .ok (.lconst 1, 1) := by decide +kernel
theorem dX11_layer_21 : decode cX11_layer 21 = .ok (.invokestatic 107, 3) := by decide +kernel
theorem dX11_layer_24 : decode cX11_layer 24 = .ok (.ifCond .ne 29, 3) := by decide +kernel
theorem dX11_layer_27 : decode cX11_layer 27 = .ok (.ldc 249, 2) := by decide +kernel
theorem dX11_layer_29 : decode cX11_layer 29 = .ok (.aload_n 0, 1) := by decide +kernel
theorem dX11_layer_30 : decode cX11_layer 30 = .ok (.iload_n 1, 1) := by decide +kernel
theorem dX11_layer_31 : decode cX11_layer 31 = .ok (.i2l, 1) := by decide +kernel
theorem dX11_layer_32 : decode cX11_layer 32 = .ok (.lconst 0, 1) := by decide +kernel
theorem dX11_layer_33 : decode cX11_layer 33 = .ok (.ldc2_w 114, 3) := by decide +kernel
theorem dX11_layer_36 : decode cX11_layer 36 = .ok (.invokestatic 107, 3) := by decide +kernel
theorem dX11_layer_39 : decode cX11_layer 39 = .ok (.ifCond .eq 8, 3) := by decide +kernel
theorem dX11_layer_42 : decode cX11_layer 42 = .ok (.bipush (-2), 2) := by decide +kernel
theorem dX11_layer_44 : decode cX11_layer 44 = .ok (.goto 4, 3) := by decide +kernel
theorem dX11_layer_47 : decode cX11_layer 47 = .ok (.iconst (-1), 1) := by decide +kernel
theorem dX11_layer_48 : decode cX11_layer 48 = .ok (.invokevirtual 153, 3) := by decide +kernel
theorem dX11_layer_51 : decode cX11_layer 51 = .ok (.isub, 1) := by decide +kernel
theorem dX11_layer_52 : decode cX11_layer 52 = .ok (.ireturn, 1) := by decide +kernel
theorem dX11_layer_53 : decode cX11_layer 53 = .ok (.iload_n 2, 1) := by decide +kernel
theorem dX11_layer_54 : decode cX11_layer 54 = .ok (.ifCond .ne 12, 3) := by decide +kernel
theorem dX11_layer_57 : decode cX11_layer 57 = .ok (.aload_n 0, 1) := by decide +kernel
theorem dX11_layer_58 : decode cX11_layer 58 = .ok (.getfield 7, 3) := by decide +kernel
theorem dX11_layer_61 : decode cX11_layer 61 = .ok (.iload_n 1, 1) := by decide +kernel
theorem dX11_layer_62 : decode cX11_layer 62 = .ok (.iaload, 1) := by decide +kernel
theorem dX11_layer_63 : decode cX11_layer 63 = .ok (.goto 9, 3) := by decide +kernel
theorem dX11_layer_66 : decode cX11_layer 66 = .ok (.aload_n 0, 1) := by decide +kernel
theorem dX11_layer_67 : decode cX11_layer 67 = .ok (.getfield 13, 3) := by decide +kernel
theorem dX11_layer_70 : decode cX11_layer 70 = .ok (.iload_n 1, 1) := by decide +kernel
theorem dX11_layer_71 : decode cX11_layer 71 = .ok (.iaload, 1) := by decide +kernel
theorem dX11_layer_72 : decode cX11_layer 72 = .ok (.ireturn, 1) := by decide +kernel
theorem dX11_wind_0 : decode cX11_wind 0 = .ok (.aload_n 0, 1) := by decide +kernel
theorem dX11_wind_1 : decode cX11_wind 1 = .ok (.iconst 0, 1) := by decide +kernel
theorem dX11_wind_2 : decode cX11_wind 2 = .ok (.putfield 104, 3) := by decide +kernel
theorem dX11_wind_5 : decode cX11_wind 5 = .ok (.iconst 0, 1) := by decide +kernel
theorem dX11_wind_6 : decode cX11_wind 6 = .ok (.istore 4, 2) := by decide +kernel
theorem dX11_wind_8 : decode cX11_wind 8 = .ok (.iload_n 1, 1) := by decide +kernel
theorem dX11_wind_9 : decode cX11_wind 9 = .ok (.i2l, 1) := by decide +kernel
theorem dX11_wind_10 : decode cX11_wind 10 = .ok (.lconst 0, 1) := by decide +kernel
theorem dX11_wind_11 : decode cX11_wind 11 = .ok (.ldc2_w 114, 3) := by decide +kernel
theorem dX11_wind_14 : decode cX11_wind 14 = .ok (.invokestatic 107, 3) := by decide +kernel
theorem dX11_wind_17 : decode cX11_wind 17 = .ok (.ifCond .ne 9, 3) := by decide +kernel
theorem dX11_wind_20 : decode cX11_wind 20 = .ok (.iconst (-1), 1) := by decide +kernel
theorem dX11_wind_21 : decode cX11_wind 21 = .ok (.istore 4, 2) := by decide +kernel
theorem dX11_wind_23 : decode cX11_wind 23 = .ok (.goto 36, 3) := by decide +kernel
theorem dX11_wind_26 : decode cX11_wind 26 = .ok (.iload_n 2, 1) := by decide +kernel
theorem dX11_wind_27 : decode cX11_wind 27 = .ok (.bipush (-9), 2) := by decide +kernel
theorem dX11_wind_29 : decode cX11_wind 29 = .ok (.if_icmp .lt 7, 3) := by decide +kernel
theorem dX11_wind_32 : decode cX11_wind 32 = .ok (.iload_n 3, 1) := by decide +kernel
theorem dX11_wind_33 : decode cX11_wind 33 = .ok (.ifCond .ge 10, 3) := by decide +kernel
theorem dX11_wind_36 : decode cX11_wind 36 = .ok (.bipush (-4), 2) := by decide +kernel
theorem dX11_wind_38 : decode cX11_wind 38 = .ok (.istore 4, 2) := by decide +kernel
theorem dX11_wind_40 : decode cX11_wind 40 = .ok (.goto 19, 3) := by decide +kernel
theorem dX11_wind_43 : decode cX11_wind 43 = .ok (.iload_n 2, 1) := by decide +kernel
theorem dX11_wind_44 : decode cX11_wind 44 = .ok (.bipush 9, 2) := by decide +kernel
theorem dX11_wind_46 : decode cX11_wind 46 = .ok (.if_icmp .gt 9, 3) := by decide +kernel
theorem dX11_wind_49 : decode cX11_wind 49 = .ok (.iload_n 3, 1) := by decide +kernel
theorem dX11_wind_50 : decode cX11_wind 50 = .ok (.bipush 9, 2) := by decide +kernel
theorem dX11_wind_52 : decode cX11_wind 52 = .ok (.if_icmp .le 7, 3) := by decide +kernel
theorem dX11_wind_55 : decode cX11_wind 55 = .ok (.bipush (-6), 2) := by decide +kernel
theorem dX11_wind_57 : decode cX11_wind 57 = .ok (.istore 4, 2) := by decide +kernel
theorem dX11_wind_59 : decode cX11_wind 59 = .ok (.iload 4, 2) := by decide +kernel
theorem dX11_wind_61 : decode cX11_wind 61 = .ok (.ifCond .ge 10, 3) := by decide +kernel
theorem dX11_wind_64 : decode cX11_wind 64 = .ok (.aload_n 0, 1) := by decide +kernel
theorem dX11_wind_65 : decode cX11_wind 65 = .ok (.iload 4, 2) := by decide +kernel
theorem dX11_wind_67 : decode cX11_wind 67 = .ok (.invokevirtual 153, 3) := by decide +kernel
theorem dX11_wind_70 : decode cX11_wind 70 = .ok (.ireturn, 1) := by decide +kernel
theorem dX11_wind_71 : decode cX11_wind 71 = .ok (.bipush 100, 2) := by decide +kernel
theorem dX11_wind_73 : decode cX11_wind 73 = .ok (.aload_n 0, 1) := by decide +kernel
theorem dX11_wind_74 : decode cX11_wind 74 = .ok (.getfield 7, 3) := by decide +kernel
theorem dX11_wind_77 : decode cX11_wind 77 = .ok (.iload_n 1, 1) := by decide +kernel
theorem dX11_wind_78 : decode cX11_wind 78 = .ok (.iaload, 1) := by decide +kernel
theorem dX11_wind_79 : decode cX11_wind 79 = .ok (.bipush 9, 2) := by decide +kernel
theorem dX11_wind_81 : decode cX11_wind 81 = .ok (.iadd, 1) := by decide +kernel
theorem dX11_wind_82 : decode cX11_wind 82 = .ok (.imul, 1) := by decide +kernel
theorem dX11_wind_83 : decode cX11_wind 83 = .ok (.aload_n 0, 1) := by decide +kernel
theorem dX11_wind_84 : decode cX11_wind 84 = .ok (.getfield 13, 3) := by decide +kernel
theorem dX11_wind_87 : decode cX11_wind 87 = .ok (.iload_n 1, 1) := by decide +kernel
theorem dX11_wind_88 : decode cX11_wind 88 = .ok (.iaload, 1) := by decide +kernel
theorem dX11_wind_89 : decode cX11_wind 89 = .ok (.iadd, 1) := by decide +kernel
theorem dX11_wind_90 : decode cX11_wind 90 = .ok (.istore 5, 2) := by decide +kernel
theorem dX11_wind_92 : decode cX11_wind 92 = .ok (.aload_n 0, 1) := by decide +kernel
theorem dX11_wind_93 : decode cX11_wind 93 = .ok (.getfield 7, 3) := by decide +kernel
theorem dX11_wind_96 : decode cX11_wind 96 = .ok (.iload_n 1, 1) := by decide +kernel
theorem dX11_wind_97 : decode cX11_wind 97 = .ok (.iload_n 2, 1) := by decide +kernel
theorem dX11_wind_98 : decode cX11_wind 98 = .ok (.iastore, 1) := by decide +kernel
theorem dX11_wind_99 : decode cX11_wind 99 = .ok (.aload_n 0, 1) := by decide +kernel
theorem dX11_wind_100 : decode cX11_wind 100 = .ok (.getfield 13, 3) := by decide +kernel
theorem dX11_wind_103 : decode cX11_wind 103 = .ok (.iload_n 1, 1) := by decide +kernel
theorem dX11_wind_104 : decode cX11_wind 104 = .ok (.iload_n 3, 1) := by decide +kernel
theorem dX11_wind_105 : decode cX11_wind 105 = .ok (.iastore, 1) := by decide +kernel
theorem dX11_wind_106 : decode cX11_wind 106 = .ok (.aload_n 0, 1) := by decide +kernel
theorem dX11_wind_107 : decode cX11_wind 107 = .ok (.iconst 0, 1) := by decide +kernel
theorem dX11_wind_108 : decode cX11_wind 108 = .ok (.putfield 225, 3) := by decide +kernel
theorem dX11_wind_111 : decode cX11_wind 111 = .ok (.iload 5, 2) := by decide +kernel
theorem dX11_wind_113 : decode cX11_wind 113 = .ok (.ireturn, 1) := by decide +kernel
theorem dX11_field_0 : decode cX11_field 0 = .ok (.aload_n 0, 1) := by decide +kernel
theorem dX11_field_1 : decode cX11_field 1 = .ok (.iconst 0, 1) := by decide +kernel
theorem dX11_field_2 : decode cX11_field 2 = .ok (.putfield 104, 3) := by decide +kernel
theorem dX11_field_5 : decode cX11_field 5 = .ok (.aload_n 0, 1) := by decide +kernel
theorem dX11_field_6 : decode cX11_field 6 = .ok (.iload_n 1, 1) := by decide +kernel
theorem dX11_field_7 : decode cX11_field 7 = .ok (.invokevirtual 250, 3) := by decide +kernel
theorem dX11_field_10 : decode cX11_field 10 = .ok (.ifCond .eq 15, 3) := by decide +kernel
theorem dX11_field_13 : decode cX11_field 13 = .ok (.iload_n 2, 1) := by decide +kernel
theorem dX11_field_14 : decode cX11_field 14 = .ok (.i2l, 1) := by decide +kernel
theorem dX11_field_15 : decode cX11_field 15 = .ok (.lconst 0, 1) := by decide +kernel
theorem dX11_field_16 : decode cX11_field 16 = .ok (.ldc2_w 253, 3) := by decide +kernel
theorem dX11_field_19 : decode cX11_field 19 = .ok (.invokestatic 107, 3) := by decide +kernel
theorem dX11_field_22 : decode cX11_field 22 = .ok (.ifCond .ne 22, 3) := by decide +kernel
theorem dX11_field_25 : decode cX11_field 25 = .ok (.aload_n 0, 1) := by decide +kernel
theorem dX11_field_26 : decode cX11_field 26 = .ok (.aload_n 0, 1) := by decide +kernel
theorem dX11_field_27 : decode cX11_field 27 = .ok (.iload_n 1, 1) := by decide +kernel
theorem dX11_field_28 : decode cX11_field 28 = .ok (.invokevirtual 250, 3) := by decide +kernel
theorem dX11_field_31 : decode cX11_field 31 = .ok (.ifCond .eq 8, 3) := by decide +kernel
theorem dX11_field_34 : decode cX11_field 34 = .ok (.bipush (-2), 2) := by decide +kernel
theorem dX11_field_36 : decode cX11_field 36 = .ok (.goto 4, 3) := by decide +kernel
theorem dX11_field_39 : decode cX11_field 39 = .ok (.iconst (-1), 1) := by decide +kernel
theorem dX11_field_40 : decode cX11_field 40 = .ok (.invokevirtual 153, 3) := by decide +kernel
theorem dX11_field_43 : decode cX11_field 43 = .ok (.ireturn, 1) := by decide +kernel
theorem dX11_field_44 : decode cX11_field 44 = .ok (.iload_n 2, 1) := by decide +kernel
theorem dX11_field_45 : decode cX11_field 45 = .ok (.tableswitch 59 0 3 #[31, 38, 45, 52], 31) := by decide +kernel
theorem dX11_field_76 : decode cX11_field 76 = .ok (.aload_n 0, 1) := by decide +kernel
theorem dX11_field_77 : decode cX11_field 77 = .ok (.getfield 35, 3) := by decide +kernel
theorem dX11_field_80 : decode cX11_field 80 = .ok (.iload_n 1, 1) := by decide +kernel
theorem dX11_field_81 : decode cX11_field 81 = .ok (.iaload, 1) := by decide +kernel
theorem dX11_field_82 : decode cX11_field 82 = .ok (.ireturn, 1) := by decide +kernel
theorem dX11_field_83 : decode cX11_field 83 = .ok (.aload_n 0, 1) := by decide +kernel
theorem dX11_field_84 : decode cX11_field 84 = .ok (.getfield 38, 3) := by decide +kernel
theorem dX11_field_87 : decode cX11_field 87 = .ok (.iload_n 1, 1) := by decide +kernel
theorem dX11_field_88 : decode cX11_field 88 = .ok (.iaload, 1) := by decide +kernel
theorem dX11_field_89 : decode cX11_field 89 = .ok (.ireturn, 1) := by decide +kernel
theorem dX11_field_90 : decode cX11_field 90 = .ok (.aload_n 0, 1) := by decide +kernel
theorem dX11_field_91 : decode cX11_field 91 = .ok (.getfield 41, 3) := by decide +kernel
theorem dX11_field_94 : decode cX11_field 94 = .ok (.iload_n 1, 1) := by decide +kernel
theorem dX11_field_95 : decode cX11_field 95 = .ok (.iaload, 1) := by decide +kernel
theorem dX11_field_96 : decode cX11_field 96 = .ok (.ireturn, 1) := by decide +kernel
theorem dX11_field_97 : decode cX11_field 97 = .ok (.aload_n 0, 1) := by decide +kernel
theorem dX11_field_98 : decode cX11_field 98 = .ok (.getfield 44, 3) := by decide +kernel
theorem dX11_field_101 : decode cX11_field 101 = .ok (.iload_n 1, 1) := by decide +kernel
theorem dX11_field_102 : decode cX11_field 102 = .ok (.iaload, 1) := by decide +kernel
theorem dX11_field_103 : decode cX11_field 103 = .ok (.ireturn, 1) := by decide +kernel
theorem dX11_field_104 : decode cX11_field 104 = .ok (.aload_n 0, 1) := by decide +kernel
theorem dX11_field_105 : decode cX11_field 105 = .ok (.getfield 47, 3) := by decide +kernel
theorem dX11_field_108 : decode cX11_field 108 = .ok (.iload_n 1, 1) := by decide +kernel
theorem dX11_field_109 : decode cX11_field 109 = .ok (.iaload, 1) := by decide +kernel
theorem dX11_field_110 : decode cX11_field 110 = .ok (.ireturn, 1) := by decide +kernel
theorem dX11_cost_0 : decode cX11_cost 0 = .ok (.aload_n 0, 1) := by decide +kernel
theorem dX11_cost_1 : decode cX11_cost 1 = .ok (.iconst 0, 1) := by decide +kernel
theorem dX11_cost_2 : decode cX11_cost 2 = .ok (.putfield 104, 3) := by decide +kernel
theorem dX11_cost_5 : decode cX11_cost 5 = .ok (.aload_n 0, 1) := by decide +kernel
theorem dX11_cost_6 : decode cX11_cost 6 = .ok (.iload_n 1, 1) := by decide +kernel
theorem dX11_cost_7 : decode cX11_cost 7 = .ok (.invokevirtual 250, 3) := by decide +kernel
theorem dX11_cost_10 : decode cX11_cost 10 = .ok (.ifCond .eq 13, 3) := by decide +kernel
theorem dX11_cost_13 : decode cX11_cost 13 = .ok (.iload_n 2, 1) := by decide +kernel
theorem dX11_cost_14 : decode cX11_cost 14 = .ok (.iconst 0, 1) := by decide +kernel
theorem dX11_cost_15 : decode cX11_cost 15 = .ok (.bipush 20, 2) := by decide +kernel
theorem dX11_cost_17 : decode cX11_cost 17 = .ok (.invokestatic 255, 3) := by decide +kernel
theorem dX11_cost_20 : decode cX11_cost 20 = .ok (.goto 4, 3) := by decide +kernel
theorem dX11_cost_23 : decode cX11_cost 23 = .ok (.iconst (-1), 1) := by decide +kernel
theorem dX11_cost_24 : decode cX11_cost 24 = .ok (.istore_n 3, 1) := by decide +kernel
theorem dX11_cost_25 : decode cX11_cost 25 = .ok (.iload_n 3, 1) := by decide +kernel
theorem dX11_cost_26 : decode cX11_cost 26 = .ok (.ifCond .ge 11, 3) := by decide +kernel
theorem dX11_cost_29 : decode cX11_cost 29 = .ok (.aload_n 0, 1) := by decide +kernel
theorem dX11_cost_30 : decode cX11_cost 30 = .ok (.iload_n 3, 1) := by decide +kernel
theorem dX11_cost_31 : decode cX11_cost 31 = .ok (.invokevirtual 153, 3) := by decide +kernel
theorem dX11_cost_34 : decode cX11_cost 34 = .ok (.goto 9, 3) := by decide +kernel
theorem dX11_cost_37 : decode cX11_cost 37 = .ok (.aload_n 0, 1) := by decide +kernel
theorem dX11_cost_38 : decode cX11_cost 38 = .ok (.iload_n 1, 1) := by decide +kernel
theorem dX11_cost_39 : decode cX11_cost 39 = .ok (.iload_n 2, 1) := by decide +kernel
theorem dX11_cost_40 : decode cX11_cost 40 = .ok (.invokevirtual 259, 3) := by decide +kernel
theorem dX11_cost_43 : decode cX11_cost 43 = .ok (.ireturn, 1) := by decide +kernel
theorem dX11_drag_0 : decode cX11_drag 0 = .ok (.aload_n 0, 1) := by decide +kernel
theorem dX11_drag_1 : decode cX11_drag 1 = .ok (.iconst 0, 1) := by decide +kernel
theorem dX11_drag_2 : decode cX11_drag 2 = .ok (.putfield 104, 3) := by decide +kernel
theorem dX11_drag_5 : decode cX11_drag 5 = .ok (.iload_n 1, 1) := by decide +kernel
theorem dX11_drag_6 : decode cX11_drag 6 = .ok (.iconst 0, 1) := by decide +kernel
theorem dX11_drag_7 : decode cX11_drag 7 = .ok (.bipush 20, 2) := by decide +kernel
theorem dX11_drag_9 : decode cX11_drag 9 = .ok (.invokestatic 255, 3) := by decide +kernel
theorem dX11_drag_12 : decode cX11_drag 12 = .ok (.ifCond .ge 17, 3) := by decide +kernel
theorem dX11_drag_15 : decode cX11_drag 15 = .ok (.aload_n 0, 1) := by decide +kernel
theorem dX11_drag_16 : decode cX11_drag 16 = .ok (.iload_n 1, 1) := by decide +kernel
theorem dX11_drag_17 : decode cX11_drag 17 = .ok (.iconst 0, 1) := by decide +kernel
theorem dX11_drag_18 : decode cX11_drag 18 = .ok (.bipush 20, 2) := by decide +kernel
theorem dX11_drag_20 : decode cX11_drag 20 = .ok (.invokestatic 255, 3) := by decide +kernel
theorem dX11_drag_23 : decode cX11_drag 23 = .ok (.invokevirtual 153, 3) := by decide +kernel
theorem dX11_drag_26 : decode cX11_drag 26 = .ok (.goto 8, 3) := by decide +kernel
theorem dX11_drag_29 : decode cX11_drag 29 = .ok (.aload_n 0, 1) := by decide +kernel
theorem dX11_drag_30 : decode cX11_drag 30 = .ok (.iload_n 1, 1) := by decide +kernel
theorem dX11_drag_31 : decode cX11_drag 31 = .ok (.invokevirtual 150, 3) := by decide +kernel
theorem dX11_drag_34 : decode cX11_drag 34 = .ok (.ireturn, 1) := by decide +kernel
theorem dX11_settingOf_0 : decode cX11_settingOf 0 = .ok (.iload_n 1, 1) := by decide +kernel
theorem dX11_settingOf_1 : decode cX11_settingOf 1 = .ok (.tableswitch 51 0 3 #[31, 36, 41, 46], 31) := by decide +kernel
theorem dX11_settingOf_32 : decode cX11_settingOf 32 = .ok (.aload_n 0, 1) := by decide +kernel
theorem dX11_settingOf_33 : decode cX11_settingOf 33 = .ok (.getfield 127, 3) := by decide +kernel
theorem dX11_settingOf_36 : decode cX11_settingOf 36 = .ok (.ireturn, 1) := by decide +kernel
theorem dX11_settingOf_37 : decode cX11_settingOf 37 = .ok (.aload_n 0, 1) := by decide +kernel
theorem dX11_settingOf_38 : decode cX11_settingOf 38 = .ok (.getfield 20, 3) := by decide +kernel
theorem dX11_settingOf_41 : decode cX11_settingOf 41 = .ok (.ireturn, 1) := by decide +kernel
theorem dX11_settingOf_42 : decode cX11_settingOf 42 = .ok (.aload_n 0, 1) := by decide +kernel
theorem dX11_settingOf_43 : decode cX11_settingOf 43 = .ok (.getfield 23, 3) := by decide +kernel
theorem dX11_settingOf_46 : decode cX11_settingOf 46 = .ok (.ireturn, 1) := by decide +kernel
theorem dX11_settingOf_47 : decode cX11_settingOf 47 = .ok (.aload_n 0, 1) := by decide +kernel
theorem dX11_settingOf_48 : decode cX11_settingOf 48 = .ok (.getfield 26, 3) := by decide +kernel
theorem dX11_settingOf_51 : decode cX11_settingOf 51 = .ok (.ireturn, 1) := by decide +kernel
theorem dX11_settingOf_52 : decode cX11_settingOf 52 = .ok (.aload_n 0, 1) := by decide +kernel
theorem dX11_settingOf_53 : decode cX11_settingOf 53 = .ok (.getfield 29, 3) := by decide +kernel
theorem dX11_settingOf_56 : decode cX11_settingOf 56 = .ok (.ireturn, 1) := by decide +kernel
theorem dX11_set_0 : decode cX11_set 0 = .ok (.aload_n 0, 1) := by decide +kernel
theorem dX11_set_1 : decode cX11_set 1 = .ok (.iconst 0, 1) := by decide +kernel
theorem dX11_set_2 : decode cX11_set 2 = .ok (.putfield 104, 3) := by decide +kernel
theorem dX11_set_5 : decode cX11_set 5 = .ok (.iload_n 1, 1) := by decide +kernel
theorem dX11_set_6 : decode cX11_set 6 = .ok (.ifCond .ne 8, 3) := by decide +kernel
theorem dX11_set_9 : decode cX11_set 9 = .ok (.bipush 39, 2) := by decide +kernel
theorem dX11_set_11 : decode cX11_set 11 = .ok (.goto 24, 3) := by decide +kernel
theorem dX11_set_14 : decode cX11_set 14 = .ok (.iload_n 1, 1) := by decide +kernel
theorem dX11_set_15 : decode cX11_set 15 = .ok (.iconst 3, 1) := by decide +kernel
theorem dX11_set_16 : decode cX11_set 16 = .ok (.if_icmp .ne 8, 3) := by decide +kernel
theorem dX11_set_19 : decode cX11_set 19 = .ok (.bipush 6, 2) := by decide +kernel
theorem dX11_set_21 : decode cX11_set 21 = .ok (.goto 14, 3) := by decide +kernel
theorem dX11_set_24 : decode cX11_set 24 = .ok (.iload_n 1, 1) := by decide +kernel
theorem dX11_set_25 : decode cX11_set 25 = .ok (.iconst 4, 1) := by decide +kernel
theorem dX11_set_26 : decode cX11_set 26 = .ok (.if_icmp .ne 7, 3) := by decide +kernel
theorem dX11_set_29 : decode cX11_set 29 = .ok (.iconst 5, 1) := by decide +kernel
theorem dX11_set_30 : decode cX11_set 30 = .ok (.goto 5, 3) := by decide +kernel
theorem dX11_set_33 : decode cX11_set 33 = .ok (.bipush 60, 2) := by decide +kernel
theorem dX11_set_35 : decode cX11_set 35 = .ok (.istore_n 3, 1) := by decide +kernel
theorem dX11_set_36 : decode cX11_set 36 = .ok (.iload_n 1, 1) := by decide +kernel
theorem dX11_set_37 : decode cX11_set 37 = .ok (.i2l, 1) := by decide +kernel
theorem dX11_set_38 : decode cX11_set 38 = .ok (.lconst 0, 1) := by decide +kernel
theorem dX11_set_39 : decode cX11_set 39 = .ok (.ldc2_w 253, 3) := by decide +kernel
theorem dX11_set_42 : decode cX11_set 42 = .ok (.invokestatic 107, 3) := by decide +kernel
theorem dX11_set_45 : decode cX11_set 45 = .ok (.ifCond .eq 21, 3) := by decide +kernel
theorem dX11_set_48 : decode cX11_set 48 = .ok (.iload_n 2, 1) := by decide +kernel
theorem dX11_set_49 : decode cX11_set 49 = .ok (.iload_n 1, 1) := by decide +kernel
theorem dX11_set_50 : decode cX11_set 50 = .ok (.iconst 3, 1) := by decide +kernel
theorem dX11_set_51 : decode cX11_set 51 = .ok (.if_icmp .ne 7, 3) := by decide +kernel
theorem dX11_set_54 : decode cX11_set 54 = .ok (.iconst 1, 1) := by decide +kernel
theorem dX11_set_55 : decode cX11_set 55 = .ok (.goto 4, 3) := by decide +kernel
theorem dX11_set_58 : decode cX11_set 58 = .ok (.iconst 0, 1) := by decide +kernel
theorem dX11_set_59 : decode cX11_set 59 = .ok (.iload_n 3, 1) := by decide +kernel
theorem dX11_set_60 : decode cX11_set 60 = .ok (.invokestatic 255, 3) := by decide +kernel
theorem dX11_set_63 : decode cX11_set 63 = .ok (.goto 5, 3) := by decide +kernel
theorem dX11_set_66 : decode cX11_set 66 = .ok (.bipush (-2), 2) := by decide +kernel
theorem dX11_set_68 : decode cX11_set 68 = .ok (.istore 4, 2) := by decide +kernel
theorem dX11_set_70 : decode cX11_set 70 = .ok (.iload 4, 2) := by decide +kernel
theorem dX11_set_72 : decode cX11_set 72 = .ok (.ifCond .ge 10, 3) := by decide +kernel
theorem dX11_set_75 : decode cX11_set 75 = .ok (.aload_n 0, 1) := by decide +kernel
theorem dX11_set_76 : decode cX11_set 76 = .ok (.iload 4, 2) := by decide +kernel
theorem dX11_set_78 : decode cX11_set 78 = .ok (.invokevirtual 153, 3) := by decide +kernel
theorem dX11_set_81 : decode cX11_set 81 = .ok (.ireturn, 1) := by decide +kernel
theorem dX11_set_82 : decode cX11_set 82 = .ok (.aload_n 0, 1) := by decide +kernel
theorem dX11_set_83 : decode cX11_set 83 = .ok (.iload_n 1, 1) := by decide +kernel
theorem dX11_set_84 : decode cX11_set 84 = .ok (.invokevirtual 262, 3) := by decide +kernel
theorem dX11_set_87 : decode cX11_set 87 = .ok (.istore 5, 2) := by decide +kernel
theorem dX11_set_89 : decode cX11_set 89 = .ok (.aload_n 0, 1) := by decide +kernel
theorem dX11_set_90 : decode cX11_set 90 = .ok (.iload_n 1, 1) := by decide +kernel
theorem dX11_set_91 : decode cX11_set 91 = .ok (.ifCond .ne 7, 3) := by decide +kernel
theorem dX11_set_94 : decode cX11_set 94 = .ok (.iload_n 2, 1) := by decide +kernel
theorem dX11_set_95 : decode cX11_set 95 = .ok (.goto 7, 3) := by decide +kernel
theorem dX11_set_98 : decode cX11_set 98 = .ok (.aload_n 0, 1) := by decide +kernel
theorem dX11_set_99 : decode cX11_set 99 = .ok (.getfield 127, 3) := by decide +kernel
theorem dX11_set_102 : decode cX11_set 102 = .ok (.putfield 127, 3) := by decide +kernel
theorem dX11_set_105 : decode cX11_set 105 = .ok (.aload_n 0, 1) := by decide +kernel
theorem dX11_set_106 : decode cX11_set 106 = .ok (.iload_n 1, 1) := by decide +kernel
theorem dX11_set_107 : decode cX11_set 107 = .ok (.iconst 1, 1) := by decide +kernel
theorem dX11_set_108 : decode cX11_set 108 = .ok (.if_icmp .ne 7, 3) := by decide +kernel
theorem dX11_set_111 : decode cX11_set 111 = .ok (.iload_n 2, 1) := by decide +kernel
theorem dX11_set_112 : decode cX11_set 112 = .ok (.goto 7, 3) := by decide +kernel
theorem dX11_set_115 : decode cX11_set 115 = .ok (.aload_n 0, 1) := by decide +kernel
theorem dX11_set_116 : decode cX11_set 116 = .ok (.getfield 20, 3) := by decide +kernel
theorem dX11_set_119 : decode cX11_set 119 = .ok (.putfield 20, 3) := by decide +kernel
theorem dX11_set_122 : decode cX11_set 122 = .ok (.aload_n 0, 1) := by decide +kernel
theorem dX11_set_123 : decode cX11_set 123 = .ok (.iload_n 1, 1) := by decide +kernel
theorem dX11_set_124 : decode cX11_set 124 = .ok (.iconst 2, 1) := by decide +kernel
theorem dX11_set_125 : decode cX11_set 125 = .ok (.if_icmp .ne 7, 3) := by decide +kernel
theorem dX11_set_128 : decode cX11_set 128 = .ok (.iload_n 2, 1) := by decide +kernel
theorem dX11_set_129 : decode cX11_set 129 = .ok (.goto 7, 3) := by decide +kernel
theorem dX11_set_132 : decode cX11_set 132 = .ok (.aload_n 0, 1) := by decide +kernel
theorem dX11_set_133 : decode cX11_set 133 = .ok (.getfield 23, 3) := by decide +kernel
theorem dX11_set_136 : decode cX11_set 136 = .ok (.putfield 23, 3) := by decide +kernel
theorem dX11_set_139 : decode cX11_set 139 = .ok (.aload_n 0, 1) := by decide +kernel
theorem dX11_set_140 : decode cX11_set 140 = .ok (.iload_n 1, 1) := by decide +kernel
theorem dX11_set_141 : decode cX11_set 141 = .ok (.iconst 3, 1) := by decide +kernel
theorem dX11_set_142 : decode cX11_set 142 = .ok (.if_icmp .ne 7, 3) := by decide +kernel
theorem dX11_set_145 : decode cX11_set 145 = .ok (.iload_n 2, 1) := by decide +kernel
theorem dX11_set_146 : decode cX11_set 146 = .ok (.goto 7, 3) := by decide +kernel
theorem dX11_set_149 : decode cX11_set 149 = .ok (.aload_n 0, 1) := by decide +kernel
theorem dX11_set_150 : decode cX11_set 150 = .ok (.getfield 26, 3) := by decide +kernel
theorem dX11_set_153 : decode cX11_set 153 = .ok (.putfield 26, 3) := by decide +kernel
theorem dX11_set_156 : decode cX11_set 156 = .ok (.iload_n 1, 1) := by decide +kernel
theorem dX11_set_157 : decode cX11_set 157 = .ok (.iconst 4, 1) := by decide +kernel
theorem dX11_set_158 : decode cX11_set 158 = .ok (.if_icmp .ne 8, 3) := by decide +kernel
theorem dX11_set_161 : decode cX11_set 161 = .ok (.aload_n 0, 1) := by decide +kernel
theorem dX11_set_162 : decode cX11_set 162 = .ok (.iload_n 2, 1) := by decide +kernel
theorem dX11_set_163 : decode cX11_set 163 = .ok (.invokevirtual 196, 3) := by decide +kernel
theorem dX11_set_166 : decode cX11_set 166 = .ok (.aload_n 0, 1) := by decide +kernel
theorem dX11_set_167 : decode cX11_set 167 = .ok (.iconst 0, 1) := by decide +kernel
theorem dX11_set_168 : decode cX11_set 168 = .ok (.putfield 225, 3) := by decide +kernel
theorem dX11_set_171 : decode cX11_set 171 = .ok (.iload 5, 2) := by decide +kernel
theorem dX11_set_173 : decode cX11_set 173 = .ok (.ireturn, 1) := by decide +kernel
theorem dX11_rising_0 : decode cX11_rising 0 = .ok (.aload_n 0, 1) := by decide +kernel
theorem dX11_rising_1 : decode cX11_rising 1 = .ok (.iconst 0, 1) := by decide +kernel
theorem dX11_rising_2 : decode cX11_rising 2 = .ok (.putfield 104, 3) := by decide +kernel
theorem dX11_rising_5 : decode cX11_rising 5 = .ok (.aload_n 0, 1) := by decide +kernel
theorem dX11_rising_6 : decode cX11_rising 6 = .ok (.invokevirtual 124, 3) := by decide +kernel
theorem dX11_rising_9 : decode cX11_rising 9 = .ok (.ireturn, 1) := by decide +kernel
theorem dX11_keepTurn_0 : decode cX11_keepTurn 0 = .ok (.aload_n 0, 1) := by decide +kernel
theorem dX11_keepTurn_1 : decode cX11_keepTurn 1 = .ok (.getfield 225, 3) := by decide +kernel
theorem dX11_keepTurn_4 : decode cX11_keepTurn 4 = .ok (.bipush 8, 2) := by decide +kernel
theorem dX11_keepTurn_6 : decode cX11_keepTurn 6 = .ok (.if_icmp .ne 43, 3) := by decide +kernel
theorem dX11_keepTurn_9 : decode cX11_keepTurn 9 = .ok (.bipush 14, 2) := by decide +kernel
theorem dX11_keepTurn_11 : decode cX11_keepTurn 11 = .ok (.istore_n 1, 1) := by decide +kernel
theorem dX11_keepTurn_12 : decode cX11_keepTurn 12 = .ok (.iload_n 1, 1) := by decide +kernel
theorem dX11_keepTurn_13 : decode cX11_keepTurn 13 = .ok (.bipush 112, 2) := by decide +kernel
theorem dX11_keepTurn_15 : decode cX11_keepTurn 15 = .ok (.if_icmp .ge 24, 3) := by decide +kernel
theorem dX11_keepTurn_18 : decode cX11_keepTurn 18 = .ok (.aload_n 0, 1) := by decide +kernel
theorem dX11_keepTurn_19 : decode cX11_keepTurn 19 = .ok (.getfield 80, 3) := by decide +kernel
theorem dX11_keepTurn_22 : decode cX11_keepTurn 22 = .ok (.iload_n 1, 1) := by decide +kernel
theorem dX11_keepTurn_23 : decode cX11_keepTurn 23 = .ok (.bipush 14, 2) := by decide +kernel
theorem dX11_keepTurn_25 : decode cX11_keepTurn 25 = .ok (.isub, 1) := by decide +kernel
theorem dX11_keepTurn_26 : decode cX11_keepTurn 26 = .ok (.aload_n 0, 1) := by decide +kernel
theorem dX11_keepTurn_27 : decode cX11_keepTurn 27 = .ok (.getfield 80, 3) := by decide +kernel
theorem dX11_keepTurn_30 : decode cX11_keepTurn 30 = .ok (.iload_n 1, 1) := by decide +kernel
theorem dX11_keepTurn_31 : decode cX11_keepTurn 31 = .ok (.iaload, 1) := by decide +kernel
theorem dX11_keepTurn_32 : decode cX11_keepTurn 32 = .ok (.iastore, 1) := by decide +kernel
theorem dX11_keepTurn_33 : decode cX11_keepTurn 33 = .ok (.iinc 1 1, 3) := by decide +kernel
theorem dX11_keepTurn_36 : decode cX11_keepTurn 36 = .ok (.goto (-24), 3) := by decide +kernel
theorem dX11_keepTurn_39 : decode cX11_keepTurn 39 = .ok (.aload_n 0, 1) := by decide +kernel
theorem dX11_keepTurn_40 : decode cX11_keepTurn 40 = .ok (.dup, 1) := by decide +kernel
theorem dX11_keepTurn_41 : decode cX11_keepTurn 41 = .ok (.getfield 225, 3) := by decide +kernel
theorem dX11_keepTurn_44 : decode cX11_keepTurn 44 = .ok (.iconst 1, 1) := by decide +kernel
theorem dX11_keepTurn_45 : decode cX11_keepTurn 45 = .ok (.isub, 1) := by decide +kernel
theorem dX11_keepTurn_46 : decode cX11_keepTurn 46 = .ok (.putfield 225, 3) := by decide +kernel
theorem dX11_keepTurn_49 : decode cX11_keepTurn 49 = .ok (.aload_n 0, 1) := by decide +kernel
theorem dX11_keepTurn_50 : decode cX11_keepTurn 50 = .ok (.aload_n 0, 1) := by decide +kernel
theorem dX11_keepTurn_51 : decode cX11_keepTurn 51 = .ok (.getfield 83, 3) := by decide +kernel
theorem dX11_keepTurn_54 : decode cX11_keepTurn 54 = .ok (.putfield 231, 3) := by decide +kernel
theorem dX11_keepTurn_57 : decode cX11_keepTurn 57 = .ok (.aload_n 0, 1) := by decide +kernel
theorem dX11_keepTurn_58 : decode cX11_keepTurn 58 = .ok (.iconst 1, 1) := by decide +kernel
theorem dX11_keepTurn_59 : decode cX11_keepTurn 59 = .ok (.putfield 228, 3) := by decide +kernel
theorem dX11_keepTurn_62 : decode cX11_keepTurn 62 = .ok (.aload_n 0, 1) := by decide +kernel
theorem dX11_keepTurn_63 : decode cX11_keepTurn 63 = .ok (.iconst 0, 1) := by decide +kernel
theorem dX11_keepTurn_64 : decode cX11_keepTurn 64 = .ok (.putfield 234, 3) := by decide +kernel
theorem dX11_keepTurn_67 : decode cX11_keepTurn 67 = .ok (.aload_n 0, 1) := by decide +kernel
theorem dX11_keepTurn_68 : decode cX11_keepTurn 68 = .ok (.invokevirtual 240, 3) := by decide +kernel
theorem dX11_keepTurn_71 : decode cX11_keepTurn 71 = .ok (.iconst 0, 1) := by decide +kernel
theorem dX11_keepTurn_72 : decode cX11_keepTurn 72 = .ok (.istore_n 1, 1) := by decide +kernel
theorem dX11_keepTurn_73 : decode cX11_keepTurn 73 = .ok (.iload_n 1, 1) := by decide +kernel
theorem dX11_keepTurn_74 : decode cX11_keepTurn 74 = .ok (.bipush 14, 2) := by decide +kernel
theorem dX11_keepTurn_76 : decode cX11_keepTurn 76 = .ok (.if_icmp .ge 29, 3) := by decide +kernel
theorem dX11_keepTurn_79 : decode cX11_keepTurn 79 = .ok (.aload_n 0, 1) := by decide +kernel
theorem dX11_keepTurn_80 : decode cX11_keepTurn 80 = .ok (.getfield 80, 3) := by decide +kernel
theorem dX11_keepTurn_83 : decode cX11_keepTurn 83 = .ok (.bipush 14, 2) := by decide +kernel
theorem dX11_keepTurn_85 : decode cX11_keepTurn 85 = .ok (.aload_n 0, 1) := by decide +kernel
theorem dX11_keepTurn_86 : decode cX11_keepTurn 86 = .ok (.getfield 225, 3) := by decide +kernel
theorem dX11_keepTurn_89 : decode cX11_keepTurn 89 = .ok (.imul, 1) := by decide +kernel
theorem dX11_keepTurn_90 : decode cX11_keepTurn 90 = .ok (.iload_n 1, 1) := by decide +kernel
theorem dX11_keepTurn_91 : decode cX11_keepTurn 91 = .ok (.iadd, 1) := by decide +kernel
theorem dX11_keepTurn_92 : decode cX11_keepTurn 92 = .ok (.aload_n 0, 1) := by decide +kernel
theorem dX11_keepTurn_93 : decode cX11_keepTurn 93 = .ok (.getfield 83, 3) := by decide +kernel
theorem dX11_keepTurn_96 : decode cX11_keepTurn 96 = .ok (.iload_n 1, 1) := by decide +kernel
theorem dX11_keepTurn_97 : decode cX11_keepTurn 97 = .ok (.iaload, 1) := by decide +kernel
theorem dX11_keepTurn_98 : decode cX11_keepTurn 98 = .ok (.iastore, 1) := by decide +kernel
theorem dX11_keepTurn_99 : decode cX11_keepTurn 99 = .ok (.iinc 1 1, 3) := by decide +kernel
theorem dX11_keepTurn_102 : decode cX11_keepTurn 102 = .ok (.goto (-29), 3) := by decide +kernel
theorem dX11_keepTurn_105 : decode cX11_keepTurn 105 = .ok (.aload_n 0, 1) := by decide +kernel
theorem dX11_keepTurn_106 : decode cX11_keepTurn 106 = .ok (.dup, 1) := by decide +kernel
theorem dX11_keepTurn_107 : decode cX11_keepTurn 107 = .ok (.getfield 225, 3) := by decide +kernel
theorem dX11_keepTurn_110 : decode cX11_keepTurn 110 = .ok (.iconst 1, 1) := by decide +kernel
theorem dX11_keepTurn_111 : decode cX11_keepTurn 111 = .ok (.iadd, 1) := by decide +kernel
theorem dX11_keepTurn_112 : decode cX11_keepTurn 112 = .ok (.putfield 225, 3) := by decide +kernel
theorem dX11_keepTurn_115 : decode cX11_keepTurn 115 = .ok (.return_, 1) := by decide +kernel
theorem dX11_go_0 : decode cX11_go 0 = .ok (.aload_n 0, 1) := by decide +kernel
theorem dX11_go_1 : decode cX11_go 1 = .ok (.iconst 0, 1) := by decide +kernel
theorem dX11_go_2 : decode cX11_go 2 = .ok (.putfield 104, 3) := by decide +kernel
theorem dX11_go_5 : decode cX11_go 5 = .ok (.iload_n 1, 1) := by decide +kernel
theorem dX11_go_6 : decode cX11_go 6 = .ok (.i2l, 1) := by decide +kernel
theorem dX11_go_7 : decode cX11_go 7 = .ok (.lconst 0, 1) := by decide +kernel
theorem dX11_go_8 : decode cX11_go 8 = .ok (.ldc2_w 265, 3) := by decide +kernel
theorem dX11_go_11 : decode cX11_go 11 = .ok (.invokestatic 107, 3) := by decide +kernel
theorem dX11_go_14 : decode cX11_go 14 = .ok (.ifCond .ne 8, 3) := by decide +kernel
theorem dX11_go_17 : decode cX11_go 17 = .ok (.bipush (-2), 2) := by decide +kernel
theorem dX11_go_19 : decode cX11_go 19 = .ok (.goto 36, 3) := by decide +kernel
theorem dX11_go_22 : decode cX11_go 22 = .ok (.iload_n 1, 1) := by decide +kernel
theorem dX11_go_23 : decode cX11_go 23 = .ok (.iconst 1, 1) := by decide +kernel
theorem dX11_go_24 : decode cX11_go 24 = .ok (.if_icmp .ne 15, 3) := by decide +kernel
theorem dX11_go_27 : decode cX11_go 27 = .ok (.aload_n 0, 1) := by decide +kernel
theorem dX11_go_28 : decode cX11_go 28 = .ok (.getfield 23, 3) := by decide +kernel
theorem dX11_go_31 : decode cX11_go 31 = .ok (.ifCond .ne 8, 3) := by decide +kernel
theorem dX11_go_34 : decode cX11_go 34 = .ok (.bipush (-3), 2) := by decide +kernel
theorem dX11_go_36 : decode cX11_go 36 = .ok (.goto 19, 3) := by decide +kernel
theorem dX11_go_39 : decode cX11_go 39 = .ok (.aload_n 0, 1) := by decide +kernel
theorem dX11_go_40 : decode cX11_go 40 = .ok (.getfield 136, 3) := by decide +kernel
theorem dX11_go_43 : decode cX11_go 43 = .ok (.sipush 999, 3) := by decide +kernel
theorem dX11_go_46 : decode cX11_go 46 = .ok (.if_icmp .ne 8, 3) := by decide +kernel
theorem dX11_go_49 : decode cX11_go 49 = .ok (.bipush (-6), 2) := by decide +kernel
theorem dX11_go_51 : decode cX11_go 51 = .ok (.goto 4, 3) := by decide +kernel
theorem dX11_go_54 : decode cX11_go 54 = .ok (.iconst 0, 1) := by decide +kernel
theorem dX11_go_55 : decode cX11_go 55 = .ok (.istore_n 2, 1) := by decide +kernel
theorem dX11_go_56 : decode cX11_go 56 = .ok (.iload_n 2, 1) := by decide +kernel
theorem dX11_go_57 : decode cX11_go 57 = .ok (.ifCond .ge 9, 3) := by decide +kernel
theorem dX11_go_60 : decode cX11_go 60 = .ok (.aload_n 0, 1) := by decide +kernel
theorem dX11_go_61 : decode cX11_go 61 = .ok (.iload_n 2, 1) := by decide +kernel
theorem dX11_go_62 : decode cX11_go 62 = .ok (.invokevirtual 153, 3) := by decide +kernel
theorem dX11_go_65 : decode cX11_go 65 = .ok (.ireturn, 1) := by decide +kernel
theorem dX11_go_66 : decode cX11_go 66 = .ok (.aload_n 0, 1) := by decide +kernel
theorem dX11_go_67 : decode cX11_go 67 = .ok (.invokevirtual 267, 3) := by decide +kernel
theorem dX11_go_70 : decode cX11_go 70 = .ok (.aload_n 0, 1) := by decide +kernel
theorem dX11_go_71 : decode cX11_go 71 = .ok (.iload_n 1, 1) := by decide +kernel
theorem dX11_go_72 : decode cX11_go 72 = .ok (.invokevirtual 142, 3) := by decide +kernel
theorem dX11_go_75 : decode cX11_go 75 = .ok (.aload_n 0, 1) := by decide +kernel
theorem dX11_go_76 : decode cX11_go 76 = .ok (.getfield 127, 3) := by decide +kernel
theorem dX11_go_79 : decode cX11_go 79 = .ok (.ireturn, 1) := by decide +kernel
theorem dX11_back_0 : decode cX11_back 0 = .ok (.aload_n 0, 1) := by decide +kernel
theorem dX11_back_1 : decode cX11_back 1 = .ok (.iconst 0, 1) := by decide +kernel
theorem dX11_back_2 : decode cX11_back 2 = .ok (.putfield 104, 3) := by decide +kernel
theorem dX11_back_5 : decode cX11_back 5 = .ok (.aload_n 0, 1) := by decide +kernel
theorem dX11_back_6 : decode cX11_back 6 = .ok (.getfield 225, 3) := by decide +kernel
theorem dX11_back_9 : decode cX11_back 9 = .ok (.ifCond .ne 10, 3) := by decide +kernel
theorem dX11_back_12 : decode cX11_back 12 = .ok (.aload_n 0, 1) := by decide +kernel
theorem dX11_back_13 : decode cX11_back 13 = .ok (.bipush (-3), 2) := by decide +kernel
theorem dX11_back_15 : decode cX11_back 15 = .ok (.invokevirtual 153, 3) := by decide +kernel
theorem dX11_back_18 : decode cX11_back 18 = .ok (.ireturn, 1) := by decide +kernel
theorem dX11_back_19 : decode cX11_back 19 = .ok (.aload_n 0, 1) := by decide +kernel
theorem dX11_back_20 : decode cX11_back 20 = .ok (.dup, 1) := by decide +kernel
theorem dX11_back_21 : decode cX11_back 21 = .ok (.getfield 225, 3) := by decide +kernel
theorem dX11_back_24 : decode cX11_back 24 = .ok (.iconst 1, 1) := by decide +kernel
theorem dX11_back_25 : decode cX11_back 25 = .ok (.isub, 1) := by decide +kernel
theorem dX11_back_26 : decode cX11_back 26 = .ok (.putfield 225, 3) := by decide +kernel
theorem dX11_back_29 : decode cX11_back 29 = .ok (.iconst 0, 1) := by decide +kernel
theorem dX11_back_30 : decode cX11_back 30 = .ok (.istore_n 1, 1) := by decide +kernel
theorem dX11_back_31 : decode cX11_back 31 = .ok (.iload_n 1, 1) := by decide +kernel
theorem dX11_back_32 : decode cX11_back 32 = .ok (.bipush 14, 2) := by decide +kernel
theorem dX11_back_34 : decode cX11_back 34 = .ok (.if_icmp .ge 29, 3) := by decide +kernel
theorem dX11_back_37 : decode cX11_back 37 = .ok (.aload_n 0, 1) := by decide +kernel
theorem dX11_back_38 : decode cX11_back 38 = .ok (.getfield 83, 3) := by decide +kernel
theorem dX11_back_41 : decode cX11_back 41 = .ok (.iload_n 1, 1) := by decide +kernel
theorem dX11_back_42 : decode cX11_back 42 = .ok (.aload_n 0, 1) := by decide +kernel
theorem dX11_back_43 : decode cX11_back 43 = .ok (.getfield 80, 3) := by decide +kernel
theorem dX11_back_46 : decode cX11_back 46 = .ok (.bipush 14, 2) := by decide +kernel
theorem dX11_back_48 : decode cX11_back 48 = .ok (.aload_n 0, 1) := by decide +kernel
theorem dX11_back_49 : decode cX11_back 49 = .ok (.getfield 225, 3) := by decide +kernel
theorem dX11_back_52 : decode cX11_back 52 = .ok (.imul, 1) := by decide +kernel
theorem dX11_back_53 : decode cX11_back 53 = .ok (.iload_n 1, 1) := by decide +kernel
theorem dX11_back_54 : decode cX11_back 54 = .ok (.iadd, 1) := by decide +kernel
theorem dX11_back_55 : decode cX11_back 55 = .ok (.iaload, 1) := by decide +kernel
theorem dX11_back_56 : decode cX11_back 56 = .ok (.iastore, 1) := by decide +kernel
theorem dX11_back_57 : decode cX11_back 57 = .ok (.iinc 1 1, 3) := by decide +kernel
theorem dX11_back_60 : decode cX11_back 60 = .ok (.goto (-29), 3) := by decide +kernel
theorem dX11_back_63 : decode cX11_back 63 = .ok (.aload_n 0, 1) := by decide +kernel
theorem dX11_back_64 : decode cX11_back 64 = .ok (.aload_n 0, 1) := by decide +kernel
theorem dX11_back_65 : decode cX11_back 65 = .ok (.getfield 83, 3) := by decide +kernel
theorem dX11_back_68 : decode cX11_back 68 = .ok (.putfield 231, 3) := by decide +kernel
theorem dX11_back_71 : decode cX11_back 71 = .ok (.aload_n 0, 1) := by decide +kernel
theorem dX11_back_72 : decode cX11_back 72 = .ok (.iconst 0, 1) := by decide +kernel
theorem dX11_back_73 : decode cX11_back 73 = .ok (.putfield 228, 3) := by decide +kernel
theorem dX11_back_76 : decode cX11_back 76 = .ok (.aload_n 0, 1) := by decide +kernel
theorem dX11_back_77 : decode cX11_back 77 = .ok (.iconst 0, 1) := by decide +kernel
theorem dX11_back_78 : decode cX11_back 78 = .ok (.putfield 234, 3) := by decide +kernel
theorem dX11_back_81 : decode cX11_back 81 = .ok (.aload_n 0, 1) := by decide +kernel
theorem dX11_back_82 : decode cX11_back 82 = .ok (.invokevirtual 240, 3) := by decide +kernel
theorem dX11_back_85 : decode cX11_back 85 = .ok (.aload_n 0, 1) := by decide +kernel
theorem dX11_back_86 : decode cX11_back 86 = .ok (.getfield 136, 3) := by decide +kernel
theorem dX11_back_89 : decode cX11_back 89 = .ok (.ireturn, 1) := by decide +kernel
theorem dX11_planOn_0 : decode cX11_planOn 0 = .ok (.aload_n 0, 1) := by decide +kernel
theorem dX11_planOn_1 : decode cX11_planOn 1 = .ok (.invokevirtual 270, 3) := by decide +kernel
theorem dX11_planOn_4 : decode cX11_planOn 4 = .ok (.iconst 0, 1) := by decide +kernel
theorem dX11_planOn_5 : decode cX11_planOn 5 = .ok (.istore_n 3, 1) := by decide +kernel
theorem dX11_planOn_6 : decode cX11_planOn 6 = .ok (.aload_n 0, 1) := by decide +kernel
theorem dX11_planOn_7 : decode cX11_planOn 7 = .ok (.iconst 0, 1) := by decide +kernel
theorem dX11_planOn_8 : decode cX11_planOn 8 = .ok (.putfield 273, 3) := by decide +kernel
theorem dX11_planOn_11 : decode cX11_planOn 11 = .ok (.aload_n 0, 1) := by decide +kernel
theorem dX11_planOn_12 : decode cX11_planOn 12 = .ok (.getfield 127, 3) := by decide +kernel
theorem dX11_planOn_15 : decode cX11_planOn 15 = .ok (.ifCond .le 51, 3) := by decide +kernel
theorem dX11_planOn_18 : decode cX11_planOn 18 = .ok (.iload_n 3, 1) := by decide +kernel
theorem dX11_planOn_19 : decode cX11_planOn 19 = .ok (.bipush 60, 2) := by decide +kernel
theorem dX11_planOn_21 : decode cX11_planOn 21 = .ok (.if_icmp .ge 45, 3) := by decide +kernel
theorem dX11_planOn_24 : decode cX11_planOn 24 = .ok (.iload_n 3, 1) := by decide +kernel
theorem dX11_planOn_25 : decode cX11_planOn 25 = .ok (.iload_n 1, 1) := by decide +kernel
theorem dX11_planOn_26 : decode cX11_planOn 26 = .ok (.if_icmp .ge 10, 3) := by decide +kernel
theorem dX11_planOn_29 : decode cX11_planOn 29 = .ok (.aload_n 0, 1) := by decide +kernel
theorem dX11_planOn_30 : decode cX11_planOn 30 = .ok (.invokevirtual 276, 3) := by decide +kernel
theorem dX11_planOn_33 : decode cX11_planOn 33 = .ok (.goto 19, 3) := by decide +kernel
theorem dX11_planOn_36 : decode cX11_planOn 36 = .ok (.aload_n 0, 1) := by decide +kernel
theorem dX11_planOn_37 : decode cX11_planOn 37 = .ok (.iload_n 3, 1) := by decide +kernel
theorem dX11_planOn_38 : decode cX11_planOn 38 = .ok (.iload_n 1, 1) := by decide +kernel
theorem dX11_planOn_39 : decode cX11_planOn 39 = .ok (.iload_n 2, 1) := by decide +kernel
theorem dX11_planOn_40 : decode cX11_planOn 40 = .ok (.iadd, 1) := by decide +kernel
theorem dX11_planOn_41 : decode cX11_planOn 41 = .ok (.if_icmp .ge 7, 3) := by decide +kernel
theorem dX11_planOn_44 : decode cX11_planOn 44 = .ok (.iconst 2, 1) := by decide +kernel
theorem dX11_planOn_45 : decode cX11_planOn 45 = .ok (.goto 4, 3) := by decide +kernel
theorem dX11_planOn_48 : decode cX11_planOn 48 = .ok (.iconst 0, 1) := by decide +kernel
theorem dX11_planOn_49 : decode cX11_planOn 49 = .ok (.invokevirtual 142, 3) := by decide +kernel
theorem dX11_planOn_52 : decode cX11_planOn 52 = .ok (.iinc 3 1, 3) := by decide +kernel
theorem dX11_planOn_55 : decode cX11_planOn 55 = .ok (.aload_n 0, 1) := by decide +kernel
theorem dX11_planOn_56 : decode cX11_planOn 56 = .ok (.aload_n 0, 1) := by decide +kernel
theorem dX11_planOn_57 : decode cX11_planOn 57 = .ok (.getfield 130, 3) := by decide +kernel
theorem dX11_planOn_60 : decode cX11_planOn 60 = .ok (.putfield 273, 3) := by decide +kernel
theorem dX11_planOn_63 : decode cX11_planOn 63 = .ok (.goto (-52), 3) := by decide +kernel
theorem dX11_planOn_66 : decode cX11_planOn 66 = .ok (.aload_n 0, 1) := by decide +kernel
theorem dX11_planOn_67 : decode cX11_planOn 67 = .ok (.aload_n 0, 1) := by decide +kernel
theorem dX11_planOn_68 : decode cX11_planOn 68 = .ok (.getfield 127, 3) := by decide +kernel
theorem dX11_planOn_71 : decode cX11_planOn 71 = .ok (.ifCond .ne 7, 3) := by decide +kernel
theorem dX11_planOn_74 : decode cX11_planOn 74 = .ok (.iconst 1, 1) := by decide +kernel
theorem dX11_planOn_75 : decode cX11_planOn 75 = .ok (.goto 4, 3) := by decide +kernel
theorem dX11_planOn_78 : decode cX11_planOn 78 = .ok (.iconst 0, 1) := by decide +kernel
theorem dX11_planOn_79 : decode cX11_planOn 79 = .ok (.putfield 279, 3) := by decide +kernel
theorem dX11_planOn_82 : decode cX11_planOn 82 = .ok (.aload_n 0, 1) := by decide +kernel
theorem dX11_planOn_83 : decode cX11_planOn 83 = .ok (.iload_n 3, 1) := by decide +kernel
theorem dX11_planOn_84 : decode cX11_planOn 84 = .ok (.putfield 282, 3) := by decide +kernel
theorem dX11_planOn_87 : decode cX11_planOn 87 = .ok (.return_, 1) := by decide +kernel
theorem dX11_planTold_0 : decode cX11_planTold 0 = .ok (.aload_n 0, 1) := by decide +kernel
theorem dX11_planTold_1 : decode cX11_planTold 1 = .ok (.getfield 279, 3) := by decide +kernel
theorem dX11_planTold_4 : decode cX11_planTold 4 = .ok (.ifCond .ne 6, 3) := by decide +kernel
theorem dX11_planTold_7 : decode cX11_planTold 7 = .ok (.bipush (-9), 2) := by decide +kernel
theorem dX11_planTold_9 : decode cX11_planTold 9 = .ok (.ireturn, 1) := by decide +kernel
theorem dX11_planTold_10 : decode cX11_planTold 10 = .ok (.iload_n 1, 1) := by decide +kernel
theorem dX11_planTold_11 : decode cX11_planTold 11 = .ok (.tableswitch 58 0 4 #[33, 38, 43, 48, 53], 33) := by decide +kernel
theorem dX11_planTold_44 : decode cX11_planTold 44 = .ok (.aload_n 0, 1) := by decide +kernel
theorem dX11_planTold_45 : decode cX11_planTold 45 = .ok (.getfield 16, 3) := by decide +kernel
theorem dX11_planTold_48 : decode cX11_planTold 48 = .ok (.ireturn, 1) := by decide +kernel
theorem dX11_planTold_49 : decode cX11_planTold 49 = .ok (.aload_n 0, 1) := by decide +kernel
theorem dX11_planTold_50 : decode cX11_planTold 50 = .ok (.getfield 133, 3) := by decide +kernel
theorem dX11_planTold_53 : decode cX11_planTold 53 = .ok (.ireturn, 1) := by decide +kernel
theorem dX11_planTold_54 : decode cX11_planTold 54 = .ok (.aload_n 0, 1) := by decide +kernel
theorem dX11_planTold_55 : decode cX11_planTold 55 = .ok (.getfield 273, 3) := by decide +kernel
theorem dX11_planTold_58 : decode cX11_planTold 58 = .ok (.ireturn, 1) := by decide +kernel
theorem dX11_planTold_59 : decode cX11_planTold 59 = .ok (.aload_n 0, 1) := by decide +kernel
theorem dX11_planTold_60 : decode cX11_planTold 60 = .ok (.getfield 282, 3) := by decide +kernel
theorem dX11_planTold_63 : decode cX11_planTold 63 = .ok (.ireturn, 1) := by decide +kernel
theorem dX11_planTold_64 : decode cX11_planTold 64 = .ok (.aload_n 0, 1) := by decide +kernel
theorem dX11_planTold_65 : decode cX11_planTold 65 = .ok (.invokevirtual 285, 3) := by decide +kernel
theorem dX11_planTold_68 : decode cX11_planTold 68 = .ok (.ireturn, 1) := by decide +kernel
theorem dX11_planTold_69 : decode cX11_planTold 69 = .ok (.aload_n 0, 1) := by decide +kernel
theorem dX11_planTold_70 : decode cX11_planTold 70 = .ok (.aload_n 0, 1) := by decide +kernel
theorem dX11_planTold_71 : decode cX11_planTold 71 = .ok (.invokevirtual 285, 3) := by decide +kernel
theorem dX11_planTold_74 : decode cX11_planTold 74 = .ok (.aload_n 0, 1) := by decide +kernel
theorem dX11_planTold_75 : decode cX11_planTold 75 = .ok (.getfield 273, 3) := by decide +kernel
theorem dX11_planTold_78 : decode cX11_planTold 78 = .ok (.invokevirtual 259, 3) := by decide +kernel
theorem dX11_planTold_81 : decode cX11_planTold 81 = .ok (.ireturn, 1) := by decide +kernel
theorem dX11_plan_0 : decode cX11_plan 0 = .ok (.aload_n 0, 1) := by decide +kernel
theorem dX11_plan_1 : decode cX11_plan 1 = .ok (.iconst 0, 1) := by decide +kernel
theorem dX11_plan_2 : decode cX11_plan 2 = .ok (.putfield 104, 3) := by decide +kernel
theorem dX11_plan_5 : decode cX11_plan 5 = .ok (.iload_n 1, 1) := by decide +kernel
theorem dX11_plan_6 : decode cX11_plan 6 = .ok (.ifCond .lt 7, 3) := by decide +kernel
theorem dX11_plan_9 : decode cX11_plan 9 = .ok (.iload_n 2, 1) := by decide +kernel
theorem dX11_plan_10 : decode cX11_plan 10 = .ok (.ifCond .ge 8, 3) := by decide +kernel
theorem dX11_plan_13 : decode cX11_plan 13 = .ok (.bipush (-4), 2) := by decide +kernel
theorem dX11_plan_15 : decode cX11_plan 15 = .ok (.goto 25, 3) := by decide +kernel
theorem dX11_plan_18 : decode cX11_plan 18 = .ok (.iload_n 1, 1) := by decide +kernel
theorem dX11_plan_19 : decode cX11_plan 19 = .ok (.bipush 30, 2) := by decide +kernel
theorem dX11_plan_21 : decode cX11_plan 21 = .ok (.if_icmp .gt 8, 3) := by decide +kernel
theorem dX11_plan_24 : decode cX11_plan 24 = .ok (.iload_n 2, 1) := by decide +kernel
theorem dX11_plan_25 : decode cX11_plan 25 = .ok (.iconst 5, 1) := by decide +kernel
theorem dX11_plan_26 : decode cX11_plan 26 = .ok (.if_icmp .le 8, 3) := by decide +kernel
theorem dX11_plan_29 : decode cX11_plan 29 = .ok (.bipush (-6), 2) := by decide +kernel
theorem dX11_plan_31 : decode cX11_plan 31 = .ok (.goto 9, 3) := by decide +kernel
theorem dX11_plan_34 : decode cX11_plan 34 = .ok (.iconst 0, 1) := by decide +kernel
theorem dX11_plan_35 : decode cX11_plan 35 = .ok (.iload_n 3, 1) := by decide +kernel
theorem dX11_plan_36 : decode cX11_plan 36 = .ok (.iconst 5, 1) := by decide +kernel
theorem dX11_plan_37 : decode cX11_plan 37 = .ok (.invokestatic 288, 3) := by decide +kernel
theorem dX11_plan_40 : decode cX11_plan 40 = .ok (.istore 4, 2) := by decide +kernel
theorem dX11_plan_42 : decode cX11_plan 42 = .ok (.iload 4, 2) := by decide +kernel
theorem dX11_plan_44 : decode cX11_plan 44 = .ok (.ifCond .ge 10, 3) := by decide +kernel
theorem dX11_plan_47 : decode cX11_plan 47 = .ok (.aload_n 0, 1) := by decide +kernel
theorem dX11_plan_48 : decode cX11_plan 48 = .ok (.iload 4, 2) := by decide +kernel
theorem dX11_plan_50 : decode cX11_plan 50 = .ok (.invokevirtual 153, 3) := by decide +kernel
theorem dX11_plan_53 : decode cX11_plan 53 = .ok (.ireturn, 1) := by decide +kernel
theorem dX11_plan_54 : decode cX11_plan 54 = .ok (.aload_n 0, 1) := by decide +kernel
theorem dX11_plan_55 : decode cX11_plan 55 = .ok (.invokevirtual 291, 3) := by decide +kernel
theorem dX11_plan_58 : decode cX11_plan 58 = .ok (.aload_n 0, 1) := by decide +kernel
theorem dX11_plan_59 : decode cX11_plan 59 = .ok (.iload_n 1, 1) := by decide +kernel
theorem dX11_plan_60 : decode cX11_plan 60 = .ok (.iload_n 2, 1) := by decide +kernel
theorem dX11_plan_61 : decode cX11_plan 61 = .ok (.invokevirtual 294, 3) := by decide +kernel
theorem dX11_plan_64 : decode cX11_plan 64 = .ok (.aload_n 0, 1) := by decide +kernel
theorem dX11_plan_65 : decode cX11_plan 65 = .ok (.iload_n 3, 1) := by decide +kernel
theorem dX11_plan_66 : decode cX11_plan 66 = .ok (.invokevirtual 298, 3) := by decide +kernel
theorem dX11_plan_69 : decode cX11_plan 69 = .ok (.istore 5, 2) := by decide +kernel
theorem dX11_plan_71 : decode cX11_plan 71 = .ok (.aload_n 0, 1) := by decide +kernel
theorem dX11_plan_72 : decode cX11_plan 72 = .ok (.invokevirtual 270, 3) := by decide +kernel
theorem dX11_plan_75 : decode cX11_plan 75 = .ok (.iload 5, 2) := by decide +kernel
theorem dX11_plan_77 : decode cX11_plan 77 = .ok (.ireturn, 1) := by decide +kernel
theorem dX11_seekPlans_0 : decode cX11_seekPlans 0 = .ok (.aload_n 0, 1) := by decide +kernel
theorem dX11_seekPlans_1 : decode cX11_seekPlans 1 = .ok (.iconst 0, 1) := by decide +kernel
theorem dX11_seekPlans_2 : decode cX11_seekPlans 2 = .ok (.putfield 301, 3) := by decide +kernel
theorem dX11_seekPlans_5 : decode cX11_seekPlans 5 = .ok (.aload_n 0, 1) := by decide +kernel
theorem dX11_seekPlans_6 : decode cX11_seekPlans 6 = .ok (.bipush (-9), 2) := by decide +kernel
theorem dX11_seekPlans_8 : decode cX11_seekPlans 8 = .ok (.putfield 304, 3) := by decide +kernel
theorem dX11_seekPlans_11 : decode cX11_seekPlans 11 = .ok (.aload_n 0, 1) := by decide +kernel
theorem dX11_seekPlans_12 : decode cX11_seekPlans 12 = .ok (.bipush (-9), 2) := by decide +kernel
theorem dX11_seekPlans_14 : decode cX11_seekPlans 14 = .ok (.putfield 307, 3) := by decide +kernel
theorem dX11_seekPlans_17 : decode cX11_seekPlans 17 = .ok (.iconst 0, 1) := by decide +kernel
theorem dX11_seekPlans_18 : decode cX11_seekPlans 18 = .ok (.istore_n 2, 1) := by decide +kernel
theorem dX11_seekPlans_19 : decode cX11_seekPlans 19 = .ok (.iconst 0, 1) := by decide +kernel
theorem dX11_seekPlans_20 : decode cX11_seekPlans 20 = .ok (.istore_n 3, 1) := by decide +kernel
theorem dX11_seekPlans_21 : decode cX11_seekPlans 21 = .ok (.iload_n 3, 1) := by decide +kernel
theorem dX11_seekPlans_22 : decode cX11_seekPlans 22 = .ok (.sipush 305, 3) := by decide +kernel
theorem dX11_seekPlans_25 : decode cX11_seekPlans 25 = .ok (.if_icmp .gt 126, 3) := by decide +kernel
theorem dX11_seekPlans_28 : decode cX11_seekPlans 28 = .ok (.iload_n 3, 1) := by decide +kernel
theorem dX11_seekPlans_29 : decode cX11_seekPlans 29 = .ok (.bipush 10, 2) := by decide +kernel
theorem dX11_seekPlans_31 : decode cX11_seekPlans 31 = .ok (.irem, 1) := by decide +kernel
theorem dX11_seekPlans_32 : decode cX11_seekPlans 32 = .ok (.iconst 5, 1) := by decide +kernel
theorem dX11_seekPlans_33 : decode cX11_seekPlans 33 = .ok (.if_icmp .gt 112, 3) := by decide +kernel
theorem dX11_seekPlans_36 : decode cX11_seekPlans 36 = .ok (.aload_n 0, 1) := by decide +kernel
theorem dX11_seekPlans_37 : decode cX11_seekPlans 37 = .ok (.iload_n 3, 1) := by decide +kernel
theorem dX11_seekPlans_38 : decode cX11_seekPlans 38 = .ok (.bipush 10, 2) := by decide +kernel
theorem dX11_seekPlans_40 : decode cX11_seekPlans 40 = .ok (.idiv, 1) := by decide +kernel
theorem dX11_seekPlans_41 : decode cX11_seekPlans 41 = .ok (.iload_n 3, 1) := by decide +kernel
theorem dX11_seekPlans_42 : decode cX11_seekPlans 42 = .ok (.bipush 10, 2) := by decide +kernel
theorem dX11_seekPlans_44 : decode cX11_seekPlans 44 = .ok (.irem, 1) := by decide +kernel
theorem dX11_seekPlans_45 : decode cX11_seekPlans 45 = .ok (.invokevirtual 294, 3) := by decide +kernel
theorem dX11_seekPlans_48 : decode cX11_seekPlans 48 = .ok (.aload_n 0, 1) := by decide +kernel
theorem dX11_seekPlans_49 : decode cX11_seekPlans 49 = .ok (.getfield 279, 3) := by decide +kernel
theorem dX11_seekPlans_52 : decode cX11_seekPlans 52 = .ok (.ifCond .eq 93, 3) := by decide +kernel
theorem dX11_seekPlans_55 : decode cX11_seekPlans 55 = .ok (.aload_n 0, 1) := by decide +kernel
theorem dX11_seekPlans_56 : decode cX11_seekPlans 56 = .ok (.invokevirtual 285, 3) := by decide +kernel
theorem dX11_seekPlans_59 : decode cX11_seekPlans 59 = .ok (.iload_n 1, 1) := by decide +kernel
theorem dX11_seekPlans_60 : decode cX11_seekPlans 60 = .ok (.if_icmp .ne 85, 3) := by decide +kernel
theorem dX11_seekPlans_63 : decode cX11_seekPlans 63 = .ok (.aload_n 0, 1) := by decide +kernel
theorem dX11_seekPlans_64 : decode cX11_seekPlans 64 = .ok (.dup, 1) := by decide +kernel
theorem dX11_seekPlans_65 : decode cX11_seekPlans 65 = .ok (.getfield 301, 3) := by decide +kernel
theorem dX11_seekPlans_68 : decode cX11_seekPlans 68 = .ok (.iconst 1, 1) := by decide +kernel
theorem dX11_seekPlans_69 : decode cX11_seekPlans 69 = .ok (.iadd, 1) := by decide +kernel
theorem dX11_seekPlans_70 : decode cX11_seekPlans 70 = .ok (.putfield 301, 3) := by decide +kernel
theorem dX11_seekPlans_73 : decode cX11_seekPlans 73 = .ok (.aload_n 0, 1) := by decide +kernel
theorem dX11_seekPlans_74 : decode cX11_seekPlans 74 = .ok (.aload_n 0, 1) := by decide +kernel
theorem dX11_seekPlans_75 : decode cX11_seekPlans 75 = .ok (.getfield 304, 3) := by decide +kernel
theorem dX11_seekPlans_78 : decode cX11_seekPlans 78 = .ok (.ifCond .ge 7, 3) := by decide +kernel
theorem dX11_seekPlans_81 : decode cX11_seekPlans 81 = .ok (.iload_n 3, 1) := by decide +kernel
theorem dX11_seekPlans_82 : decode cX11_seekPlans 82 = .ok (.goto 7, 3) := by decide +kernel
theorem dX11_seekPlans_85 : decode cX11_seekPlans 85 = .ok (.aload_n 0, 1) := by decide +kernel
theorem dX11_seekPlans_86 : decode cX11_seekPlans 86 = .ok (.getfield 304, 3) := by decide +kernel
theorem dX11_seekPlans_89 : decode cX11_seekPlans 89 = .ok (.putfield 304, 3) := by decide +kernel
theorem dX11_seekPlans_92 : decode cX11_seekPlans 92 = .ok (.aload_n 0, 1) := by decide +kernel
theorem dX11_seekPlans_93 : decode cX11_seekPlans 93 = .ok (.getfield 307, 3) := by decide +kernel
theorem dX11_seekPlans_96 : decode cX11_seekPlans 96 = .ok (.ifCond .lt 11, 3) := by decide +kernel
theorem dX11_seekPlans_99 : decode cX11_seekPlans 99 = .ok (.aload_n 0, 1) := by decide +kernel
theorem dX11_seekPlans_100 : decode cX11_seekPlans 100 = .ok (.getfield 273, 3) := by decide +kernel
theorem dX11_seekPlans_103 : decode cX11_seekPlans 103 = .ok (.iload_n 2, 1) := by decide +kernel
theorem dX11_seekPlans_104 : decode cX11_seekPlans 104 = .ok (.if_icmp .ge 7, 3) := by decide +kernel
theorem dX11_seekPlans_107 : decode cX11_seekPlans 107 = .ok (.iconst 1, 1) := by decide +kernel
theorem dX11_seekPlans_108 : decode cX11_seekPlans 108 = .ok (.goto 4, 3) := by decide +kernel
theorem dX11_seekPlans_111 : decode cX11_seekPlans 111 = .ok (.iconst 0, 1) := by decide +kernel
theorem dX11_seekPlans_112 : decode cX11_seekPlans 112 = .ok (.istore 4, 2) := by decide +kernel
theorem dX11_seekPlans_114 : decode cX11_seekPlans 114 = .ok (.aload_n 0, 1) := by decide +kernel
theorem dX11_seekPlans_115 : decode cX11_seekPlans 115 = .ok (.iload 4, 2) := by decide +kernel
theorem dX11_seekPlans_117 : decode cX11_seekPlans 117 = .ok (.ifCond .eq 7, 3) := by decide +kernel
theorem dX11_seekPlans_120 : decode cX11_seekPlans 120 = .ok (.iload_n 3, 1) := by decide +kernel
theorem dX11_seekPlans_121 : decode cX11_seekPlans 121 = .ok (.goto 7, 3) := by decide +kernel
theorem dX11_seekPlans_124 : decode cX11_seekPlans 124 = .ok (.aload_n 0, 1) := by decide +kernel
theorem dX11_seekPlans_125 : decode cX11_seekPlans 125 = .ok (.getfield 307, 3) := by decide +kernel
theorem dX11_seekPlans_128 : decode cX11_seekPlans 128 = .ok (.putfield 307, 3) := by decide +kernel
theorem dX11_seekPlans_131 : decode cX11_seekPlans 131 = .ok (.iload 4, 2) := by decide +kernel
theorem dX11_seekPlans_133 : decode cX11_seekPlans 133 = .ok (.ifCond .eq 10, 3) := by decide +kernel
theorem dX11_seekPlans_136 : decode cX11_seekPlans 136 = .ok (.aload_n 0, 1) := by decide +kernel
theorem dX11_seekPlans_137 : decode cX11_seekPlans 137 = .ok (.getfield 273, 3) := by decide +kernel
theorem dX11_seekPlans_140 : decode cX11_seekPlans 140 = .ok (.goto 4, 3) := by decide +kernel
theorem dX11_seekPlans_143 : decode cX11_seekPlans 143 = .ok (.iload_n 2, 1) := by decide +kernel
theorem dX11_seekPlans_144 : decode cX11_seekPlans 144 = .ok (.istore_n 2, 1) := by decide +kernel
theorem dX11_seekPlans_145 : decode cX11_seekPlans 145 = .ok (.iinc 3 1, 3) := by decide +kernel
theorem dX11_seekPlans_148 : decode cX11_seekPlans 148 = .ok (.goto (-127), 3) := by decide +kernel
theorem dX11_seekPlans_151 : decode cX11_seekPlans 151 = .ok (.aload_n 0, 1) := by decide +kernel
theorem dX11_seekPlans_152 : decode cX11_seekPlans 152 = .ok (.invokevirtual 270, 3) := by decide +kernel
theorem dX11_seekPlans_155 : decode cX11_seekPlans 155 = .ok (.return_, 1) := by decide +kernel
theorem dX11_had_0 : decode cX11_had 0 = .ok (.aload_n 0, 1) := by decide +kernel
theorem dX11_had_1 : decode cX11_had 1 = .ok (.iconst 0, 1) := by decide +kernel
theorem dX11_had_2 : decode cX11_had 2 = .ok (.putfield 104, 3) := by decide +kernel
theorem dX11_had_5 : decode cX11_had 5 = .ok (.aload_n 0, 1) := by decide +kernel
theorem dX11_had_6 : decode cX11_had 6 = .ok (.iload_n 1, 1) := by decide +kernel
theorem dX11_had_7 : decode cX11_had 7 = .ok (.invokevirtual 250, 3) := by decide +kernel
theorem dX11_had_10 : decode cX11_had 10 = .ok (.ifCond .eq 15, 3) := by decide +kernel
theorem dX11_had_13 : decode cX11_had 13 = .ok (.iload_n 2, 1) := by decide +kernel
theorem dX11_had_14 : decode cX11_had 14 = .ok (.i2l, 1) := by decide +kernel
theorem dX11_had_15 : decode cX11_had 15 = .ok (.lconst 0, 1) := by decide +kernel
theorem dX11_had_16 : decode cX11_had 16 = .ok (.ldc2_w 265, 3) := by decide +kernel
theorem dX11_had_19 : decode cX11_had 19 = .ok (.invokestatic 107, 3) := by decide +kernel
theorem dX11_had_22 : decode cX11_had 22 = .ok (.ifCond .ne 22, 3) := by decide +kernel
theorem dX11_had_25 : decode cX11_had 25 = .ok (.aload_n 0, 1) := by decide +kernel
theorem dX11_had_26 : decode cX11_had 26 = .ok (.aload_n 0, 1) := by decide +kernel
theorem dX11_had_27 : decode cX11_had 27 = .ok (.iload_n 1, 1) := by decide +kernel
theorem dX11_had_28 : decode cX11_had 28 = .ok (.invokevirtual 250, 3) := by decide +kernel
theorem dX11_had_31 : decode cX11_had 31 = .ok (.ifCond .eq 8, 3) := by decide +kernel
theorem dX11_had_34 : decode cX11_had 34 = .ok (.bipush (-2), 2) := by decide +kernel
theorem dX11_had_36 : decode cX11_had 36 = .ok (.goto 4, 3) := by decide +kernel
theorem dX11_had_39 : decode cX11_had 39 = .ok (.iconst (-1), 1) := by decide +kernel
theorem dX11_had_40 : decode cX11_had 40 = .ok (.invokevirtual 153, 3) := by decide +kernel
theorem dX11_had_43 : decode cX11_had 43 = .ok (.ireturn, 1) := by decide +kernel
theorem dX11_had_44 : decode cX11_had 44 = .ok (.aload_n 0, 1) := by decide +kernel
theorem dX11_had_45 : decode cX11_had 45 = .ok (.invokevirtual 291, 3) := by decide +kernel
theorem dX11_had_48 : decode cX11_had 48 = .ok (.aload_n 0, 1) := by decide +kernel
theorem dX11_had_49 : decode cX11_had 49 = .ok (.iload_n 1, 1) := by decide +kernel
theorem dX11_had_50 : decode cX11_had 50 = .ok (.invokevirtual 310, 3) := by decide +kernel
theorem dX11_had_53 : decode cX11_had 53 = .ok (.iload_n 2, 1) := by decide +kernel
theorem dX11_had_54 : decode cX11_had 54 = .ok (.ifCond .ne 10, 3) := by decide +kernel
theorem dX11_had_57 : decode cX11_had 57 = .ok (.aload_n 0, 1) := by decide +kernel
theorem dX11_had_58 : decode cX11_had 58 = .ok (.getfield 301, 3) := by decide +kernel
theorem dX11_had_61 : decode cX11_had 61 = .ok (.goto 19, 3) := by decide +kernel
theorem dX11_had_64 : decode cX11_had 64 = .ok (.iload_n 2, 1) := by decide +kernel
theorem dX11_had_65 : decode cX11_had 65 = .ok (.iconst 1, 1) := by decide +kernel
theorem dX11_had_66 : decode cX11_had 66 = .ok (.if_icmp .ne 10, 3) := by decide +kernel
theorem dX11_had_69 : decode cX11_had 69 = .ok (.aload_n 0, 1) := by decide +kernel
theorem dX11_had_70 : decode cX11_had 70 = .ok (.getfield 304, 3) := by decide +kernel
theorem dX11_had_73 : decode cX11_had 73 = .ok (.goto 7, 3) := by decide +kernel
theorem dX11_had_76 : decode cX11_had 76 = .ok (.aload_n 0, 1) := by decide +kernel
theorem dX11_had_77 : decode cX11_had 77 = .ok (.getfield 307, 3) := by decide +kernel
theorem dX11_had_80 : decode cX11_had 80 = .ok (.ireturn, 1) := by decide +kernel
theorem dX11_seekBest_0 : decode cX11_seekBest 0 = .ok (.aload_n 0, 1) := by decide +kernel
theorem dX11_seekBest_1 : decode cX11_seekBest 1 = .ok (.bipush (-9), 2) := by decide +kernel
theorem dX11_seekBest_3 : decode cX11_seekBest 3 = .ok (.putfield 313, 3) := by decide +kernel
theorem dX11_seekBest_6 : decode cX11_seekBest 6 = .ok (.aload_n 0, 1) := by decide +kernel
theorem dX11_seekBest_7 : decode cX11_seekBest 7 = .ok (.bipush (-9), 2) := by decide +kernel
theorem dX11_seekBest_9 : decode cX11_seekBest 9 = .ok (.putfield 316, 3) := by decide +kernel
theorem dX11_seekBest_12 : decode cX11_seekBest 12 = .ok (.aload_n 0, 1) := by decide +kernel
theorem dX11_seekBest_13 : decode cX11_seekBest 13 = .ok (.iconst 0, 1) := by decide +kernel
theorem dX11_seekBest_14 : decode cX11_seekBest 14 = .ok (.putfield 319, 3) := by decide +kernel
theorem dX11_seekBest_17 : decode cX11_seekBest 17 = .ok (.iconst 0, 1) := by decide +kernel
theorem dX11_seekBest_18 : decode cX11_seekBest 18 = .ok (.istore_n 1, 1) := by decide +kernel
theorem dX11_seekBest_19 : decode cX11_seekBest 19 = .ok (.iload_n 1, 1) := by decide +kernel
theorem dX11_seekBest_20 : decode cX11_seekBest 20 = .ok (.sipush 305, 3) := by decide +kernel
theorem dX11_seekBest_23 : decode cX11_seekBest 23 = .ok (.if_icmp .gt 134, 3) := by decide +kernel
theorem dX11_seekBest_26 : decode cX11_seekBest 26 = .ok (.iload_n 1, 1) := by decide +kernel
theorem dX11_seekBest_27 : decode cX11_seekBest 27 = .ok (.bipush 10, 2) := by decide +kernel
theorem dX11_seekBest_29 : decode cX11_seekBest 29 = .ok (.irem, 1) := by decide +kernel
theorem dX11_seekBest_30 : decode cX11_seekBest 30 = .ok (.iconst 5, 1) := by decide +kernel
theorem dX11_seekBest_31 : decode cX11_seekBest 31 = .ok (.if_icmp .gt 120, 3) := by decide +kernel
theorem dX11_seekBest_34 : decode cX11_seekBest 34 = .ok (.aload_n 0, 1) := by decide +kernel
theorem dX11_seekBest_35 : decode cX11_seekBest 35 = .ok (.iload_n 1, 1) := by decide +kernel
theorem dX11_seekBest_36 : decode cX11_seekBest 36 = .ok (.bipush 10, 2) := by decide +kernel
theorem dX11_seekBest_38 : decode cX11_seekBest 38 = .ok (.idiv, 1) := by decide +kernel
theorem dX11_seekBest_39 : decode cX11_seekBest 39 = .ok (.iload_n 1, 1) := by decide +kernel
theorem dX11_seekBest_40 : decode cX11_seekBest 40 = .ok (.bipush 10, 2) := by decide +kernel
theorem dX11_seekBest_42 : decode cX11_seekBest 42 = .ok (.irem, 1) := by decide +kernel
theorem dX11_seekBest_43 : decode cX11_seekBest 43 = .ok (.invokevirtual 294, 3) := by decide +kernel
theorem dX11_seekBest_46 : decode cX11_seekBest 46 = .ok (.aload_n 0, 1) := by decide +kernel
theorem dX11_seekBest_47 : decode cX11_seekBest 47 = .ok (.invokevirtual 285, 3) := by decide +kernel
theorem dX11_seekBest_50 : decode cX11_seekBest 50 = .ok (.istore_n 2, 1) := by decide +kernel
theorem dX11_seekBest_51 : decode cX11_seekBest 51 = .ok (.aload_n 0, 1) := by decide +kernel
theorem dX11_seekBest_52 : decode cX11_seekBest 52 = .ok (.dup, 1) := by decide +kernel
theorem dX11_seekBest_53 : decode cX11_seekBest 53 = .ok (.getfield 319, 3) := by decide +kernel
theorem dX11_seekBest_56 : decode cX11_seekBest 56 = .ok (.aload_n 0, 1) := by decide +kernel
theorem dX11_seekBest_57 : decode cX11_seekBest 57 = .ok (.getfield 279, 3) := by decide +kernel
theorem dX11_seekBest_60 : decode cX11_seekBest 60 = .ok (.ifCond .eq 13, 3) := by decide +kernel
theorem dX11_seekBest_63 : decode cX11_seekBest 63 = .ok (.iload_n 2, 1) := by decide +kernel
theorem dX11_seekBest_64 : decode cX11_seekBest 64 = .ok (.ifCond .lt 9, 3) := by decide +kernel
theorem dX11_seekBest_67 : decode cX11_seekBest 67 = .ok (.iconst 1, 1) := by decide +kernel
theorem dX11_seekBest_68 : decode cX11_seekBest 68 = .ok (.iload_n 2, 1) := by decide +kernel
theorem dX11_seekBest_69 : decode cX11_seekBest 69 = .ok (.ishl, 1) := by decide +kernel
theorem dX11_seekBest_70 : decode cX11_seekBest 70 = .ok (.goto 4, 3) := by decide +kernel
theorem dX11_seekBest_73 : decode cX11_seekBest 73 = .ok (.iconst 0, 1) := by decide +kernel
theorem dX11_seekBest_74 : decode cX11_seekBest 74 = .ok (.ior, 1) := by decide +kernel
theorem dX11_seekBest_75 : decode cX11_seekBest 75 = .ok (.putfield 319, 3) := by decide +kernel
theorem dX11_seekBest_78 : decode cX11_seekBest 78 = .ok (.aload_n 0, 1) := by decide +kernel
theorem dX11_seekBest_79 : decode cX11_seekBest 79 = .ok (.iload_n 2, 1) := by decide +kernel
theorem dX11_seekBest_80 : decode cX11_seekBest 80 = .ok (.aload_n 0, 1) := by decide +kernel
theorem dX11_seekBest_81 : decode cX11_seekBest 81 = .ok (.getfield 273, 3) := by decide +kernel
theorem dX11_seekBest_84 : decode cX11_seekBest 84 = .ok (.invokevirtual 259, 3) := by decide +kernel
theorem dX11_seekBest_87 : decode cX11_seekBest 87 = .ok (.istore_n 3, 1) := by decide +kernel
theorem dX11_seekBest_88 : decode cX11_seekBest 88 = .ok (.aload_n 0, 1) := by decide +kernel
theorem dX11_seekBest_89 : decode cX11_seekBest 89 = .ok (.getfield 279, 3) := by decide +kernel
theorem dX11_seekBest_92 : decode cX11_seekBest 92 = .ok (.ifCond .eq 22, 3) := by decide +kernel
theorem dX11_seekBest_95 : decode cX11_seekBest 95 = .ok (.aload_n 0, 1) := by decide +kernel
theorem dX11_seekBest_96 : decode cX11_seekBest 96 = .ok (.getfield 313, 3) := by decide +kernel
theorem dX11_seekBest_99 : decode cX11_seekBest 99 = .ok (.ifCond .lt 11, 3) := by decide +kernel
theorem dX11_seekBest_102 : decode cX11_seekBest 102 = .ok (.iload_n 3, 1) := by decide +kernel
theorem dX11_seekBest_103 : decode cX11_seekBest 103 = .ok (.aload_n 0, 1) := by decide +kernel
theorem dX11_seekBest_104 : decode cX11_seekBest 104 = .ok (.getfield 316, 3) := by decide +kernel
theorem dX11_seekBest_107 : decode cX11_seekBest 107 = .ok (.if_icmp .ge 7, 3) := by decide +kernel
theorem dX11_seekBest_110 : decode cX11_seekBest 110 = .ok (.iconst 1, 1) := by decide +kernel
theorem dX11_seekBest_111 : decode cX11_seekBest 111 = .ok (.goto 4, 3) := by decide +kernel
theorem dX11_seekBest_114 : decode cX11_seekBest 114 = .ok (.iconst 0, 1) := by decide +kernel
theorem dX11_seekBest_115 : decode cX11_seekBest 115 = .ok (.istore 4, 2) := by decide +kernel
theorem dX11_seekBest_117 : decode cX11_seekBest 117 = .ok (.aload_n 0, 1) := by decide +kernel
theorem dX11_seekBest_118 : decode cX11_seekBest 118 = .ok (.iload 4, 2) := by decide +kernel
theorem dX11_seekBest_120 : decode cX11_seekBest 120 = .ok (.ifCond .eq 7, 3) := by decide +kernel
theorem dX11_seekBest_123 : decode cX11_seekBest 123 = .ok (.iload_n 1, 1) := by decide +kernel
theorem dX11_seekBest_124 : decode cX11_seekBest 124 = .ok (.goto 7, 3) := by decide +kernel
theorem dX11_seekBest_127 : decode cX11_seekBest 127 = .ok (.aload_n 0, 1) := by decide +kernel
theorem dX11_seekBest_128 : decode cX11_seekBest 128 = .ok (.getfield 313, 3) := by decide +kernel
theorem dX11_seekBest_131 : decode cX11_seekBest 131 = .ok (.putfield 313, 3) := by decide +kernel
theorem dX11_seekBest_134 : decode cX11_seekBest 134 = .ok (.aload_n 0, 1) := by decide +kernel
theorem dX11_seekBest_135 : decode cX11_seekBest 135 = .ok (.iload 4, 2) := by decide +kernel
theorem dX11_seekBest_137 : decode cX11_seekBest 137 = .ok (.ifCond .eq 7, 3) := by decide +kernel
theorem dX11_seekBest_140 : decode cX11_seekBest 140 = .ok (.iload_n 3, 1) := by decide +kernel
theorem dX11_seekBest_141 : decode cX11_seekBest 141 = .ok (.goto 7, 3) := by decide +kernel
theorem dX11_seekBest_144 : decode cX11_seekBest 144 = .ok (.aload_n 0, 1) := by decide +kernel
theorem dX11_seekBest_145 : decode cX11_seekBest 145 = .ok (.getfield 316, 3) := by decide +kernel
theorem dX11_seekBest_148 : decode cX11_seekBest 148 = .ok (.putfield 316, 3) := by decide +kernel
theorem dX11_seekBest_151 : decode cX11_seekBest 151 = .ok (.iinc 1 1, 3) := by decide +kernel
theorem dX11_seekBest_154 : decode cX11_seekBest 154 = .ok (.goto (-135), 3) := by decide +kernel
theorem dX11_seekBest_157 : decode cX11_seekBest 157 = .ok (.aload_n 0, 1) := by decide +kernel
theorem dX11_seekBest_158 : decode cX11_seekBest 158 = .ok (.invokevirtual 270, 3) := by decide +kernel
theorem dX11_seekBest_161 : decode cX11_seekBest 161 = .ok (.return_, 1) := by decide +kernel
theorem dX11_best_0 : decode cX11_best 0 = .ok (.aload_n 0, 1) := by decide +kernel
theorem dX11_best_1 : decode cX11_best 1 = .ok (.iconst 0, 1) := by decide +kernel
theorem dX11_best_2 : decode cX11_best 2 = .ok (.putfield 104, 3) := by decide +kernel
theorem dX11_best_5 : decode cX11_best 5 = .ok (.iload_n 1, 1) := by decide +kernel
theorem dX11_best_6 : decode cX11_best 6 = .ok (.i2l, 1) := by decide +kernel
theorem dX11_best_7 : decode cX11_best 7 = .ok (.lconst 0, 1) := by decide +kernel
theorem dX11_best_8 : decode cX11_best 8 = .ok (.lconst 1, 1) := by decide +kernel
theorem dX11_best_9 : decode cX11_best 9 = .ok (.invokestatic 107, 3) := by decide +kernel
theorem dX11_best_12 : decode cX11_best 12 = .ok (.ifCond .ne 10, 3) := by decide +kernel
theorem dX11_best_15 : decode cX11_best 15 = .ok (.aload_n 0, 1) := by decide +kernel
theorem dX11_best_16 : decode cX11_best 16 = .ok (.bipush (-2), 2) := by decide +kernel
theorem dX11_best_18 : decode cX11_best 18 = .ok (.invokevirtual 153, 3) := by decide +kernel
theorem dX11_best_21 : decode cX11_best 21 = .ok (.ireturn, 1) := by decide +kernel
theorem dX11_best_22 : decode cX11_best 22 = .ok (.aload_n 0, 1) := by decide +kernel
theorem dX11_best_23 : decode cX11_best 23 = .ok (.invokevirtual 291, 3) := by decide +kernel
theorem dX11_best_26 : decode cX11_best 26 = .ok (.aload_n 0, 1) := by decide +kernel
theorem dX11_best_27 : decode cX11_best 27 = .ok (.invokevirtual 322, 3) := by decide +kernel
theorem dX11_best_30 : decode cX11_best 30 = .ok (.iload_n 1, 1) := by decide +kernel
theorem dX11_best_31 : decode cX11_best 31 = .ok (.ifCond .ne 10, 3) := by decide +kernel
theorem dX11_best_34 : decode cX11_best 34 = .ok (.aload_n 0, 1) := by decide +kernel
theorem dX11_best_35 : decode cX11_best 35 = .ok (.getfield 313, 3) := by decide +kernel
theorem dX11_best_38 : decode cX11_best 38 = .ok (.goto 7, 3) := by decide +kernel
theorem dX11_best_41 : decode cX11_best 41 = .ok (.aload_n 0, 1) := by decide +kernel
theorem dX11_best_42 : decode cX11_best 42 = .ok (.getfield 316, 3) := by decide +kernel
theorem dX11_best_45 : decode cX11_best 45 = .ok (.ireturn, 1) := by decide +kernel
theorem dX11_left_0 : decode cX11_left 0 = .ok (.aload_n 0, 1) := by decide +kernel
theorem dX11_left_1 : decode cX11_left 1 = .ok (.iconst 0, 1) := by decide +kernel
theorem dX11_left_2 : decode cX11_left 2 = .ok (.putfield 104, 3) := by decide +kernel
theorem dX11_left_5 : decode cX11_left 5 = .ok (.aload_n 0, 1) := by decide +kernel
theorem dX11_left_6 : decode cX11_left 6 = .ok (.invokevirtual 291, 3) := by decide +kernel
theorem dX11_left_9 : decode cX11_left 9 = .ok (.aload_n 0, 1) := by decide +kernel
theorem dX11_left_10 : decode cX11_left 10 = .ok (.invokevirtual 322, 3) := by decide +kernel
theorem dX11_left_13 : decode cX11_left 13 = .ok (.aload_n 0, 1) := by decide +kernel
theorem dX11_left_14 : decode cX11_left 14 = .ok (.getfield 319, 3) := by decide +kernel
theorem dX11_left_17 : decode cX11_left 17 = .ok (.ireturn, 1) := by decide +kernel
theorem dX11_keep_0 : decode cX11_keep 0 = .ok (.aload_n 0, 1) := by decide +kernel
theorem dX11_keep_1 : decode cX11_keep 1 = .ok (.iconst 0, 1) := by decide +kernel
theorem dX11_keep_2 : decode cX11_keep 2 = .ok (.putfield 104, 3) := by decide +kernel
theorem dX11_keep_5 : decode cX11_keep 5 = .ok (.aload_n 0, 1) := by decide +kernel
theorem dX11_keep_6 : decode cX11_keep 6 = .ok (.iload_n 1, 1) := by decide +kernel
theorem dX11_keep_7 : decode cX11_keep 7 = .ok (.invokevirtual 250, 3) := by decide +kernel
theorem dX11_keep_10 : decode cX11_keep 10 = .ok (.ifCond .ne 9, 3) := by decide +kernel
theorem dX11_keep_13 : decode cX11_keep 13 = .ok (.aload_n 0, 1) := by decide +kernel
theorem dX11_keep_14 : decode cX11_keep 14 = .ok (.iconst (-1), 1) := by decide +kernel
theorem dX11_keep_15 : decode cX11_keep 15 = .ok (.invokevirtual 153, 3) := by decide +kernel
theorem dX11_keep_18 : decode cX11_keep 18 = .ok (.ireturn, 1) := by decide +kernel
theorem dX11_keep_19 : decode cX11_keep 19 = .ok (.aload_n 0, 1) := by decide +kernel
theorem dX11_keep_20 : decode cX11_keep 20 = .ok (.getfield 23, 3) := by decide +kernel
theorem dX11_keep_23 : decode cX11_keep 23 = .ok (.istore_n 2, 1) := by decide +kernel
theorem dX11_keep_24 : decode cX11_keep 24 = .ok (.bipush (-9), 2) := by decide +kernel
theorem dX11_keep_26 : decode cX11_keep 26 = .ok (.istore_n 3, 1) := by decide +kernel
theorem dX11_keep_27 : decode cX11_keep 27 = .ok (.iconst 0, 1) := by decide +kernel
theorem dX11_keep_28 : decode cX11_keep 28 = .ok (.istore 4, 2) := by decide +kernel
theorem dX11_keep_30 : decode cX11_keep 30 = .ok (.iload 4, 2) := by decide +kernel
theorem dX11_keep_32 : decode cX11_keep 32 = .ok (.bipush 60, 2) := by decide +kernel
theorem dX11_keep_34 : decode cX11_keep 34 = .ok (.if_icmp .gt 43, 3) := by decide +kernel
theorem dX11_keep_37 : decode cX11_keep 37 = .ok (.iload_n 3, 1) := by decide +kernel
theorem dX11_keep_38 : decode cX11_keep 38 = .ok (.ifCond .ge 39, 3) := by decide +kernel
theorem dX11_keep_41 : decode cX11_keep 41 = .ok (.aload_n 0, 1) := by decide +kernel
theorem dX11_keep_42 : decode cX11_keep 42 = .ok (.iload 4, 2) := by decide +kernel
theorem dX11_keep_44 : decode cX11_keep 44 = .ok (.putfield 23, 3) := by decide +kernel
theorem dX11_keep_47 : decode cX11_keep 47 = .ok (.aload_n 0, 1) := by decide +kernel
theorem dX11_keep_48 : decode cX11_keep 48 = .ok (.invokevirtual 291, 3) := by decide +kernel
theorem dX11_keep_51 : decode cX11_keep 51 = .ok (.aload_n 0, 1) := by decide +kernel
theorem dX11_keep_52 : decode cX11_keep 52 = .ok (.iload_n 1, 1) := by decide +kernel
theorem dX11_keep_53 : decode cX11_keep 53 = .ok (.invokevirtual 310, 3) := by decide +kernel
theorem dX11_keep_56 : decode cX11_keep 56 = .ok (.aload_n 0, 1) := by decide +kernel
theorem dX11_keep_57 : decode cX11_keep 57 = .ok (.getfield 301, 3) := by decide +kernel
theorem dX11_keep_60 : decode cX11_keep 60 = .ok (.ifCond .le 8, 3) := by decide +kernel
theorem dX11_keep_63 : decode cX11_keep 63 = .ok (.iload 4, 2) := by decide +kernel
theorem dX11_keep_65 : decode cX11_keep 65 = .ok (.goto 5, 3) := by decide +kernel
theorem dX11_keep_68 : decode cX11_keep 68 = .ok (.bipush (-9), 2) := by decide +kernel
theorem dX11_keep_70 : decode cX11_keep 70 = .ok (.istore_n 3, 1) := by decide +kernel
theorem dX11_keep_71 : decode cX11_keep 71 = .ok (.iinc 4 1, 3) := by decide +kernel
theorem dX11_keep_74 : decode cX11_keep 74 = .ok (.goto (-44), 3) := by decide +kernel
theorem dX11_keep_77 : decode cX11_keep 77 = .ok (.aload_n 0, 1) := by decide +kernel
theorem dX11_keep_78 : decode cX11_keep 78 = .ok (.iload_n 2, 1) := by decide +kernel
theorem dX11_keep_79 : decode cX11_keep 79 = .ok (.putfield 23, 3) := by decide +kernel
theorem dX11_keep_82 : decode cX11_keep 82 = .ok (.iload_n 3, 1) := by decide +kernel
theorem dX11_keep_83 : decode cX11_keep 83 = .ok (.ireturn, 1) := by decide +kernel
theorem dX11_goingOn_0 : decode cX11_goingOn 0 = .ok (.aload_n 0, 1) := by decide +kernel
theorem dX11_goingOn_1 : decode cX11_goingOn 1 = .ok (.iconst 0, 1) := by decide +kernel
theorem dX11_goingOn_2 : decode cX11_goingOn 2 = .ok (.putfield 104, 3) := by decide +kernel
theorem dX11_goingOn_5 : decode cX11_goingOn 5 = .ok (.iload_n 1, 1) := by decide +kernel
theorem dX11_goingOn_6 : decode cX11_goingOn 6 = .ok (.iconst 0, 1) := by decide +kernel
theorem dX11_goingOn_7 : decode cX11_goingOn 7 = .ok (.bipush 20, 2) := by decide +kernel
theorem dX11_goingOn_9 : decode cX11_goingOn 9 = .ok (.invokestatic 255, 3) := by decide +kernel
theorem dX11_goingOn_12 : decode cX11_goingOn 12 = .ok (.ifCond .ge 18, 3) := by decide +kernel
theorem dX11_goingOn_15 : decode cX11_goingOn 15 = .ok (.ldc 249, 2) := by decide +kernel
theorem dX11_goingOn_17 : decode cX11_goingOn 17 = .ok (.aload_n 0, 1) := by decide +kernel
theorem dX11_goingOn_18 : decode cX11_goingOn 18 = .ok (.iload_n 1, 1) := by decide +kernel
theorem dX11_goingOn_19 : decode cX11_goingOn 19 = .ok (.iconst 0, 1) := by decide +kernel
theorem dX11_goingOn_20 : decode cX11_goingOn 20 = .ok (.bipush 20, 2) := by decide +kernel
theorem dX11_goingOn_22 : decode cX11_goingOn 22 = .ok (.invokestatic 255, 3) := by decide +kernel
theorem dX11_goingOn_25 : decode cX11_goingOn 25 = .ok (.invokevirtual 153, 3) := by decide +kernel
theorem dX11_goingOn_28 : decode cX11_goingOn 28 = .ok (.isub, 1) := by decide +kernel
theorem dX11_goingOn_29 : decode cX11_goingOn 29 = .ok (.ireturn, 1) := by decide +kernel
theorem dX11_goingOn_30 : decode cX11_goingOn 30 = .ok (.aload_n 0, 1) := by decide +kernel
theorem dX11_goingOn_31 : decode cX11_goingOn 31 = .ok (.invokevirtual 291, 3) := by decide +kernel
theorem dX11_goingOn_34 : decode cX11_goingOn 34 = .ok (.iconst 0, 1) := by decide +kernel
theorem dX11_goingOn_35 : decode cX11_goingOn 35 = .ok (.istore_n 2, 1) := by decide +kernel
theorem dX11_goingOn_36 : decode cX11_goingOn 36 = .ok (.iload_n 2, 1) := by decide +kernel
theorem dX11_goingOn_37 : decode cX11_goingOn 37 = .ok (.bipush 14, 2) := by decide +kernel
theorem dX11_goingOn_39 : decode cX11_goingOn 39 = .ok (.if_icmp .ge 21, 3) := by decide +kernel
theorem dX11_goingOn_42 : decode cX11_goingOn 42 = .ok (.aload_n 0, 1) := by decide +kernel
theorem dX11_goingOn_43 : decode cX11_goingOn 43 = .ok (.getfield 86, 3) := by decide +kernel
theorem dX11_goingOn_46 : decode cX11_goingOn 46 = .ok (.iload_n 2, 1) := by decide +kernel
theorem dX11_goingOn_47 : decode cX11_goingOn 47 = .ok (.aload_n 0, 1) := by decide +kernel
theorem dX11_goingOn_48 : decode cX11_goingOn 48 = .ok (.getfield 77, 3) := by decide +kernel
theorem dX11_goingOn_51 : decode cX11_goingOn 51 = .ok (.iload_n 2, 1) := by decide +kernel
theorem dX11_goingOn_52 : decode cX11_goingOn 52 = .ok (.iaload, 1) := by decide +kernel
theorem dX11_goingOn_53 : decode cX11_goingOn 53 = .ok (.iastore, 1) := by decide +kernel
theorem dX11_goingOn_54 : decode cX11_goingOn 54 = .ok (.iinc 2 1, 3) := by decide +kernel
theorem dX11_goingOn_57 : decode cX11_goingOn 57 = .ok (.goto (-21), 3) := by decide +kernel
theorem dX11_goingOn_60 : decode cX11_goingOn 60 = .ok (.aload_n 0, 1) := by decide +kernel
theorem dX11_goingOn_61 : decode cX11_goingOn 61 = .ok (.invokevirtual 322, 3) := by decide +kernel
theorem dX11_goingOn_64 : decode cX11_goingOn 64 = .ok (.aload_n 0, 1) := by decide +kernel
theorem dX11_goingOn_65 : decode cX11_goingOn 65 = .ok (.getfield 316, 3) := by decide +kernel
theorem dX11_goingOn_68 : decode cX11_goingOn 68 = .ok (.ifCond .ge 9, 3) := by decide +kernel
theorem dX11_goingOn_71 : decode cX11_goingOn 71 = .ok (.sipush 1000, 3) := by decide +kernel
theorem dX11_goingOn_74 : decode cX11_goingOn 74 = .ok (.goto 7, 3) := by decide +kernel
theorem dX11_goingOn_77 : decode cX11_goingOn 77 = .ok (.aload_n 0, 1) := by decide +kernel
theorem dX11_goingOn_78 : decode cX11_goingOn 78 = .ok (.getfield 316, 3) := by decide +kernel
theorem dX11_goingOn_81 : decode cX11_goingOn 81 = .ok (.istore_n 2, 1) := by decide +kernel
theorem dX11_goingOn_82 : decode cX11_goingOn 82 = .ok (.iconst 0, 1) := by decide +kernel
theorem dX11_goingOn_83 : decode cX11_goingOn 83 = .ok (.istore_n 3, 1) := by decide +kernel
theorem dX11_goingOn_84 : decode cX11_goingOn 84 = .ok (.iload_n 3, 1) := by decide +kernel
theorem dX11_goingOn_85 : decode cX11_goingOn 85 = .ok (.iload_n 1, 1) := by decide +kernel
theorem dX11_goingOn_86 : decode cX11_goingOn 86 = .ok (.if_icmp .ge 13, 3) := by decide +kernel
theorem dX11_goingOn_89 : decode cX11_goingOn 89 = .ok (.aload_n 0, 1) := by decide +kernel
theorem dX11_goingOn_90 : decode cX11_goingOn 90 = .ok (.invokevirtual 276, 3) := by decide +kernel
theorem dX11_goingOn_93 : decode cX11_goingOn 93 = .ok (.iinc 3 1, 3) := by decide +kernel
theorem dX11_goingOn_96 : decode cX11_goingOn 96 = .ok (.goto (-12), 3) := by decide +kernel
theorem dX11_goingOn_99 : decode cX11_goingOn 99 = .ok (.aload_n 0, 1) := by decide +kernel
theorem dX11_goingOn_100 : decode cX11_goingOn 100 = .ok (.invokevirtual 291, 3) := by decide +kernel
theorem dX11_goingOn_103 : decode cX11_goingOn 103 = .ok (.aload_n 0, 1) := by decide +kernel
theorem dX11_goingOn_104 : decode cX11_goingOn 104 = .ok (.invokevirtual 322, 3) := by decide +kernel
theorem dX11_goingOn_107 : decode cX11_goingOn 107 = .ok (.aload_n 0, 1) := by decide +kernel
theorem dX11_goingOn_108 : decode cX11_goingOn 108 = .ok (.getfield 316, 3) := by decide +kernel
theorem dX11_goingOn_111 : decode cX11_goingOn 111 = .ok (.ifCond .ge 9, 3) := by decide +kernel
theorem dX11_goingOn_114 : decode cX11_goingOn 114 = .ok (.sipush 1000, 3) := by decide +kernel
theorem dX11_goingOn_117 : decode cX11_goingOn 117 = .ok (.goto 7, 3) := by decide +kernel
theorem dX11_goingOn_120 : decode cX11_goingOn 120 = .ok (.aload_n 0, 1) := by decide +kernel
theorem dX11_goingOn_121 : decode cX11_goingOn 121 = .ok (.getfield 316, 3) := by decide +kernel
theorem dX11_goingOn_124 : decode cX11_goingOn 124 = .ok (.istore_n 3, 1) := by decide +kernel
theorem dX11_goingOn_125 : decode cX11_goingOn 125 = .ok (.iconst 0, 1) := by decide +kernel
theorem dX11_goingOn_126 : decode cX11_goingOn 126 = .ok (.istore 4, 2) := by decide +kernel
theorem dX11_goingOn_128 : decode cX11_goingOn 128 = .ok (.iload 4, 2) := by decide +kernel
theorem dX11_goingOn_130 : decode cX11_goingOn 130 = .ok (.bipush 14, 2) := by decide +kernel
theorem dX11_goingOn_132 : decode cX11_goingOn 132 = .ok (.if_icmp .ge 23, 3) := by decide +kernel
theorem dX11_goingOn_135 : decode cX11_goingOn 135 = .ok (.aload_n 0, 1) := by decide +kernel
theorem dX11_goingOn_136 : decode cX11_goingOn 136 = .ok (.getfield 77, 3) := by decide +kernel
theorem dX11_goingOn_139 : decode cX11_goingOn 139 = .ok (.iload 4, 2) := by decide +kernel
theorem dX11_goingOn_141 : decode cX11_goingOn 141 = .ok (.aload_n 0, 1) := by decide +kernel
theorem dX11_goingOn_142 : decode cX11_goingOn 142 = .ok (.getfield 86, 3) := by decide +kernel
theorem dX11_goingOn_145 : decode cX11_goingOn 145 = .ok (.iload 4, 2) := by decide +kernel
theorem dX11_goingOn_147 : decode cX11_goingOn 147 = .ok (.iaload, 1) := by decide +kernel
theorem dX11_goingOn_148 : decode cX11_goingOn 148 = .ok (.iastore, 1) := by decide +kernel
theorem dX11_goingOn_149 : decode cX11_goingOn 149 = .ok (.iinc 4 1, 3) := by decide +kernel
theorem dX11_goingOn_152 : decode cX11_goingOn 152 = .ok (.goto (-24), 3) := by decide +kernel
theorem dX11_goingOn_155 : decode cX11_goingOn 155 = .ok (.aload_n 0, 1) := by decide +kernel
theorem dX11_goingOn_156 : decode cX11_goingOn 156 = .ok (.invokevirtual 270, 3) := by decide +kernel
theorem dX11_goingOn_159 : decode cX11_goingOn 159 = .ok (.iload_n 3, 1) := by decide +kernel
theorem dX11_goingOn_160 : decode cX11_goingOn 160 = .ok (.iload_n 2, 1) := by decide +kernel
theorem dX11_goingOn_161 : decode cX11_goingOn 161 = .ok (.isub, 1) := by decide +kernel
theorem dX11_goingOn_162 : decode cX11_goingOn 162 = .ok (.ireturn, 1) := by decide +kernel
theorem dX11_blown_0 : decode cX11_blown 0 = .ok (.aload_n 0, 1) := by decide +kernel
theorem dX11_blown_1 : decode cX11_blown 1 = .ok (.iconst 0, 1) := by decide +kernel
theorem dX11_blown_2 : decode cX11_blown 2 = .ok (.putfield 104, 3) := by decide +kernel
theorem dX11_blown_5 : decode cX11_blown 5 = .ok (.iload_n 1, 1) := by decide +kernel
theorem dX11_blown_6 : decode cX11_blown 6 = .ok (.i2l, 1) := by decide +kernel
theorem dX11_blown_7 : decode cX11_blown 7 = .ok (.lconst 0, 1) := by decide +kernel
theorem dX11_blown_8 : decode cX11_blown 8 = .ok (.ldc2_w 265, 3) := by decide +kernel
theorem dX11_blown_11 : decode cX11_blown 11 = .ok (.invokestatic 107, 3) := by decide +kernel
theorem dX11_blown_14 : decode cX11_blown 14 = .ok (.ifCond .ne 10, 3) := by decide +kernel
theorem dX11_blown_17 : decode cX11_blown 17 = .ok (.aload_n 0, 1) := by decide +kernel
theorem dX11_blown_18 : decode cX11_blown 18 = .ok (.bipush (-2), 2) := by decide +kernel
theorem dX11_blown_20 : decode cX11_blown 20 = .ok (.invokevirtual 153, 3) := by decide +kernel
theorem dX11_blown_23 : decode cX11_blown 23 = .ok (.ireturn, 1) := by decide +kernel
theorem dX11_blown_24 : decode cX11_blown 24 = .ok (.iconst 0, 1) := by decide +kernel
theorem dX11_blown_25 : decode cX11_blown 25 = .ok (.istore_n 2, 1) := by decide +kernel
theorem dX11_blown_26 : decode cX11_blown 26 = .ok (.iconst 1, 1) := by decide +kernel
theorem dX11_blown_27 : decode cX11_blown 27 = .ok (.istore_n 3, 1) := by decide +kernel
theorem dX11_blown_28 : decode cX11_blown 28 = .ok (.iload_n 3, 1) := by decide +kernel
theorem dX11_blown_29 : decode cX11_blown 29 = .ok (.bipush 8, 2) := by decide +kernel
theorem dX11_blown_31 : decode cX11_blown 31 = .ok (.if_icmp .ge 94, 3) := by decide +kernel
theorem dX11_blown_34 : decode cX11_blown 34 = .ok (.iload_n 1, 1) := by decide +kernel
theorem dX11_blown_35 : decode cX11_blown 35 = .ok (.ifCond .ne 12, 3) := by decide +kernel
theorem dX11_blown_38 : decode cX11_blown 38 = .ok (.aload_n 0, 1) := by decide +kernel
theorem dX11_blown_39 : decode cX11_blown 39 = .ok (.getfield 7, 3) := by decide +kernel
theorem dX11_blown_42 : decode cX11_blown 42 = .ok (.iload_n 3, 1) := by decide +kernel
theorem dX11_blown_43 : decode cX11_blown 43 = .ok (.iaload, 1) := by decide +kernel
theorem dX11_blown_44 : decode cX11_blown 44 = .ok (.goto 24, 3) := by decide +kernel
theorem dX11_blown_47 : decode cX11_blown 47 = .ok (.iload_n 1, 1) := by decide +kernel
theorem dX11_blown_48 : decode cX11_blown 48 = .ok (.iconst 1, 1) := by decide +kernel
theorem dX11_blown_49 : decode cX11_blown 49 = .ok (.if_icmp .ne 13, 3) := by decide +kernel
theorem dX11_blown_52 : decode cX11_blown 52 = .ok (.aload_n 0, 1) := by decide +kernel
theorem dX11_blown_53 : decode cX11_blown 53 = .ok (.getfield 7, 3) := by decide +kernel
theorem dX11_blown_56 : decode cX11_blown 56 = .ok (.iload_n 3, 1) := by decide +kernel
theorem dX11_blown_57 : decode cX11_blown 57 = .ok (.iaload, 1) := by decide +kernel
theorem dX11_blown_58 : decode cX11_blown 58 = .ok (.ineg, 1) := by decide +kernel
theorem dX11_blown_59 : decode cX11_blown 59 = .ok (.goto 9, 3) := by decide +kernel
theorem dX11_blown_62 : decode cX11_blown 62 = .ok (.aload_n 0, 1) := by decide +kernel
theorem dX11_blown_63 : decode cX11_blown 63 = .ok (.getfield 13, 3) := by decide +kernel
theorem dX11_blown_66 : decode cX11_blown 66 = .ok (.iload_n 3, 1) := by decide +kernel
theorem dX11_blown_67 : decode cX11_blown 67 = .ok (.iaload, 1) := by decide +kernel
theorem dX11_blown_68 : decode cX11_blown 68 = .ok (.istore 4, 2) := by decide +kernel
theorem dX11_blown_70 : decode cX11_blown 70 = .ok (.iload_n 1, 1) := by decide +kernel
theorem dX11_blown_71 : decode cX11_blown 71 = .ok (.ifCond .ne 12, 3) := by decide +kernel
theorem dX11_blown_74 : decode cX11_blown 74 = .ok (.aload_n 0, 1) := by decide +kernel
theorem dX11_blown_75 : decode cX11_blown 75 = .ok (.getfield 7, 3) := by decide +kernel
theorem dX11_blown_78 : decode cX11_blown 78 = .ok (.iload_n 2, 1) := by decide +kernel
theorem dX11_blown_79 : decode cX11_blown 79 = .ok (.iaload, 1) := by decide +kernel
theorem dX11_blown_80 : decode cX11_blown 80 = .ok (.goto 24, 3) := by decide +kernel
theorem dX11_blown_83 : decode cX11_blown 83 = .ok (.iload_n 1, 1) := by decide +kernel
theorem dX11_blown_84 : decode cX11_blown 84 = .ok (.iconst 1, 1) := by decide +kernel
theorem dX11_blown_85 : decode cX11_blown 85 = .ok (.if_icmp .ne 13, 3) := by decide +kernel
theorem dX11_blown_88 : decode cX11_blown 88 = .ok (.aload_n 0, 1) := by decide +kernel
theorem dX11_blown_89 : decode cX11_blown 89 = .ok (.getfield 7, 3) := by decide +kernel
theorem dX11_blown_92 : decode cX11_blown 92 = .ok (.iload_n 2, 1) := by decide +kernel
theorem dX11_blown_93 : decode cX11_blown 93 = .ok (.iaload, 1) := by decide +kernel
theorem dX11_blown_94 : decode cX11_blown 94 = .ok (.ineg, 1) := by decide +kernel
theorem dX11_blown_95 : decode cX11_blown 95 = .ok (.goto 9, 3) := by decide +kernel
theorem dX11_blown_98 : decode cX11_blown 98 = .ok (.aload_n 0, 1) := by decide +kernel
theorem dX11_blown_99 : decode cX11_blown 99 = .ok (.getfield 13, 3) := by decide +kernel
theorem dX11_blown_102 : decode cX11_blown 102 = .ok (.iload_n 2, 1) := by decide +kernel
theorem dX11_blown_103 : decode cX11_blown 103 = .ok (.iaload, 1) := by decide +kernel
theorem dX11_blown_104 : decode cX11_blown 104 = .ok (.istore 5, 2) := by decide +kernel
theorem dX11_blown_106 : decode cX11_blown 106 = .ok (.iload 4, 2) := by decide +kernel
theorem dX11_blown_108 : decode cX11_blown 108 = .ok (.iload 5, 2) := by decide +kernel
theorem dX11_blown_110 : decode cX11_blown 110 = .ok (.if_icmp .le 7, 3) := by decide +kernel
theorem dX11_blown_113 : decode cX11_blown 113 = .ok (.iload_n 3, 1) := by decide +kernel
theorem dX11_blown_114 : decode cX11_blown 114 = .ok (.goto 4, 3) := by decide +kernel
theorem dX11_blown_117 : decode cX11_blown 117 = .ok (.iload_n 2, 1) := by decide +kernel
theorem dX11_blown_118 : decode cX11_blown 118 = .ok (.istore_n 2, 1) := by decide +kernel
theorem dX11_blown_119 : decode cX11_blown 119 = .ok (.iinc 3 1, 3) := by decide +kernel
theorem dX11_blown_122 : decode cX11_blown 122 = .ok (.goto (-94), 3) := by decide +kernel
theorem dX11_blown_125 : decode cX11_blown 125 = .ok (.iload_n 2, 1) := by decide +kernel
theorem dX11_blown_126 : decode cX11_blown 126 = .ok (.ireturn, 1) := by decide +kernel
theorem dX11_twoBy_0 : decode cX11_twoBy 0 = .ok (.iconst 0, 1) := by decide +kernel
theorem dX11_twoBy_1 : decode cX11_twoBy 1 = .ok (.istore 4, 2) := by decide +kernel
theorem dX11_twoBy_3 : decode cX11_twoBy 3 = .ok (.iload 4, 2) := by decide +kernel
theorem dX11_twoBy_5 : decode cX11_twoBy 5 = .ok (.bipush 8, 2) := by decide +kernel
theorem dX11_twoBy_7 : decode cX11_twoBy 7 = .ok (.if_icmp .ge 123, 3) := by decide +kernel
theorem dX11_twoBy_10 : decode cX11_twoBy 10 = .ok (.iconst 0, 1) := by decide +kernel
theorem dX11_twoBy_11 : decode cX11_twoBy 11 = .ok (.istore 5, 2) := by decide +kernel
theorem dX11_twoBy_13 : decode cX11_twoBy 13 = .ok (.iload 5, 2) := by decide +kernel
theorem dX11_twoBy_15 : decode cX11_twoBy 15 = .ok (.bipush 8, 2) := by decide +kernel
theorem dX11_twoBy_17 : decode cX11_twoBy 17 = .ok (.if_icmp .ge 107, 3) := by decide +kernel
theorem dX11_twoBy_20 : decode cX11_twoBy 20 = .ok (.iconst 0, 1) := by decide +kernel
theorem dX11_twoBy_21 : decode cX11_twoBy 21 = .ok (.istore 6, 2) := by decide +kernel
theorem dX11_twoBy_23 : decode cX11_twoBy 23 = .ok (.iload 6, 2) := by decide +kernel
theorem dX11_twoBy_25 : decode cX11_twoBy 25 = .ok (.iload_n 3, 1) := by decide +kernel
theorem dX11_twoBy_26 : decode cX11_twoBy 26 = .ok (.if_icmp .gt 92, 3) := by decide +kernel
theorem dX11_twoBy_29 : decode cX11_twoBy 29 = .ok (.iload 6, 2) := by decide +kernel
theorem dX11_twoBy_31 : decode cX11_twoBy 31 = .ok (.aload_n 0, 1) := by decide +kernel
theorem dX11_twoBy_32 : decode cX11_twoBy 32 = .ok (.getfield 7, 3) := by decide +kernel
theorem dX11_twoBy_35 : decode cX11_twoBy 35 = .ok (.iload 4, 2) := by decide +kernel
theorem dX11_twoBy_37 : decode cX11_twoBy 37 = .ok (.iaload, 1) := by decide +kernel
theorem dX11_twoBy_38 : decode cX11_twoBy 38 = .ok (.imul, 1) := by decide +kernel
theorem dX11_twoBy_39 : decode cX11_twoBy 39 = .ok (.iload_n 3, 1) := by decide +kernel
theorem dX11_twoBy_40 : decode cX11_twoBy 40 = .ok (.iload 6, 2) := by decide +kernel
theorem dX11_twoBy_42 : decode cX11_twoBy 42 = .ok (.isub, 1) := by decide +kernel
theorem dX11_twoBy_43 : decode cX11_twoBy 43 = .ok (.aload_n 0, 1) := by decide +kernel
theorem dX11_twoBy_44 : decode cX11_twoBy 44 = .ok (.getfield 7, 3) := by decide +kernel
theorem dX11_twoBy_47 : decode cX11_twoBy 47 = .ok (.iload 5, 2) := by decide +kernel
theorem dX11_twoBy_49 : decode cX11_twoBy 49 = .ok (.iaload, 1) := by decide +kernel
theorem dX11_twoBy_50 : decode cX11_twoBy 50 = .ok (.imul, 1) := by decide +kernel
theorem dX11_twoBy_51 : decode cX11_twoBy 51 = .ok (.iadd, 1) := by decide +kernel
theorem dX11_twoBy_52 : decode cX11_twoBy 52 = .ok (.iload_n 1, 1) := by decide +kernel
theorem dX11_twoBy_53 : decode cX11_twoBy 53 = .ok (.if_icmp .ne 7, 3) := by decide +kernel
theorem dX11_twoBy_56 : decode cX11_twoBy 56 = .ok (.iconst 1, 1) := by decide +kernel
theorem dX11_twoBy_57 : decode cX11_twoBy 57 = .ok (.goto 4, 3) := by decide +kernel
theorem dX11_twoBy_60 : decode cX11_twoBy 60 = .ok (.iconst 0, 1) := by decide +kernel
theorem dX11_twoBy_61 : decode cX11_twoBy 61 = .ok (.istore 7, 2) := by decide +kernel
theorem dX11_twoBy_63 : decode cX11_twoBy 63 = .ok (.iload 7, 2) := by decide +kernel
theorem dX11_twoBy_65 : decode cX11_twoBy 65 = .ok (.ifCond .eq 47, 3) := by decide +kernel
theorem dX11_twoBy_68 : decode cX11_twoBy 68 = .ok (.iload 6, 2) := by decide +kernel
theorem dX11_twoBy_70 : decode cX11_twoBy 70 = .ok (.aload_n 0, 1) := by decide +kernel
theorem dX11_twoBy_71 : decode cX11_twoBy 71 = .ok (.getfield 13, 3) := by decide +kernel
theorem dX11_twoBy_74 : decode cX11_twoBy 74 = .ok (.iload 4, 2) := by decide +kernel
theorem dX11_twoBy_76 : decode cX11_twoBy 76 = .ok (.iaload, 1) := by decide +kernel
theorem dX11_twoBy_77 : decode cX11_twoBy 77 = .ok (.imul, 1) := by decide +kernel
theorem dX11_twoBy_78 : decode cX11_twoBy 78 = .ok (.iload_n 3, 1) := by decide +kernel
theorem dX11_twoBy_79 : decode cX11_twoBy 79 = .ok (.iload 6, 2) := by decide +kernel
theorem dX11_twoBy_81 : decode cX11_twoBy 81 = .ok (.isub, 1) := by decide +kernel
theorem dX11_twoBy_82 : decode cX11_twoBy 82 = .ok (.aload_n 0, 1) := by decide +kernel
theorem dX11_twoBy_83 : decode cX11_twoBy 83 = .ok (.getfield 13, 3) := by decide +kernel
theorem dX11_twoBy_86 : decode cX11_twoBy 86 = .ok (.iload 5, 2) := by decide +kernel
theorem dX11_twoBy_88 : decode cX11_twoBy 88 = .ok (.iaload, 1) := by decide +kernel
theorem dX11_twoBy_89 : decode cX11_twoBy 89 = .ok (.imul, 1) := by decide +kernel
theorem dX11_twoBy_90 : decode cX11_twoBy 90 = .ok (.iadd, 1) := by decide +kernel
theorem dX11_twoBy_91 : decode cX11_twoBy 91 = .ok (.iload_n 2, 1) := by decide +kernel
theorem dX11_twoBy_92 : decode cX11_twoBy 92 = .ok (.if_icmp .ne 20, 3) := by decide +kernel
theorem dX11_twoBy_95 : decode cX11_twoBy 95 = .ok (.sipush 10000, 3) := by decide +kernel
theorem dX11_twoBy_98 : decode cX11_twoBy 98 = .ok (.iload 4, 2) := by decide +kernel
theorem dX11_twoBy_100 : decode cX11_twoBy 100 = .ok (.imul, 1) := by decide +kernel
theorem dX11_twoBy_101 : decode cX11_twoBy 101 = .ok (.sipush 1000, 3) := by decide +kernel
theorem dX11_twoBy_104 : decode cX11_twoBy 104 = .ok (.iload 5, 2) := by decide +kernel
theorem dX11_twoBy_106 : decode cX11_twoBy 106 = .ok (.imul, 1) := by decide +kernel
theorem dX11_twoBy_107 : decode cX11_twoBy 107 = .ok (.iadd, 1) := by decide +kernel
theorem dX11_twoBy_108 : decode cX11_twoBy 108 = .ok (.iload 6, 2) := by decide +kernel
theorem dX11_twoBy_110 : decode cX11_twoBy 110 = .ok (.iadd, 1) := by decide +kernel
theorem dX11_twoBy_111 : decode cX11_twoBy 111 = .ok (.ireturn, 1) := by decide +kernel
theorem dX11_twoBy_112 : decode cX11_twoBy 112 = .ok (.iinc 6 1, 3) := by decide +kernel
theorem dX11_twoBy_115 : decode cX11_twoBy 115 = .ok (.goto (-92), 3) := by decide +kernel
theorem dX11_twoBy_118 : decode cX11_twoBy 118 = .ok (.iinc 5 1, 3) := by decide +kernel
theorem dX11_twoBy_121 : decode cX11_twoBy 121 = .ok (.goto (-108), 3) := by decide +kernel
theorem dX11_twoBy_124 : decode cX11_twoBy 124 = .ok (.iinc 4 1, 3) := by decide +kernel
theorem dX11_twoBy_127 : decode cX11_twoBy 127 = .ok (.goto (-124), 3) := by decide +kernel
theorem dX11_twoBy_130 : decode cX11_twoBy 130 = .ok (.bipush (-9), 2) := by decide +kernel
theorem dX11_twoBy_132 : decode cX11_twoBy 132 = .ok (.ireturn, 1) := by decide +kernel
theorem dX11_two_0 : decode cX11_two 0 = .ok (.aload_n 0, 1) := by decide +kernel
theorem dX11_two_1 : decode cX11_two 1 = .ok (.iconst 0, 1) := by decide +kernel
theorem dX11_two_2 : decode cX11_two 2 = .ok (.putfield 104, 3) := by decide +kernel
theorem dX11_two_5 : decode cX11_two 5 = .ok (.iload_n 1, 1) := by decide +kernel
theorem dX11_two_6 : decode cX11_two 6 = .ok (.bipush (-99), 2) := by decide +kernel
theorem dX11_two_8 : decode cX11_two 8 = .ok (.if_icmp .lt 7, 3) := by decide +kernel
theorem dX11_two_11 : decode cX11_two 11 = .ok (.iload_n 2, 1) := by decide +kernel
theorem dX11_two_12 : decode cX11_two 12 = .ok (.ifCond .ge 8, 3) := by decide +kernel
theorem dX11_two_15 : decode cX11_two 15 = .ok (.bipush (-4), 2) := by decide +kernel
theorem dX11_two_17 : decode cX11_two 17 = .ok (.goto 26, 3) := by decide +kernel
theorem dX11_two_20 : decode cX11_two 20 = .ok (.iload_n 1, 1) := by decide +kernel
theorem dX11_two_21 : decode cX11_two 21 = .ok (.bipush 99, 2) := by decide +kernel
theorem dX11_two_23 : decode cX11_two 23 = .ok (.if_icmp .gt 9, 3) := by decide +kernel
theorem dX11_two_26 : decode cX11_two 26 = .ok (.iload_n 2, 1) := by decide +kernel
theorem dX11_two_27 : decode cX11_two 27 = .ok (.bipush 99, 2) := by decide +kernel
theorem dX11_two_29 : decode cX11_two 29 = .ok (.if_icmp .le 8, 3) := by decide +kernel
theorem dX11_two_32 : decode cX11_two 32 = .ok (.bipush (-6), 2) := by decide +kernel
theorem dX11_two_34 : decode cX11_two 34 = .ok (.goto 9, 3) := by decide +kernel
theorem dX11_two_37 : decode cX11_two 37 = .ok (.iconst 0, 1) := by decide +kernel
theorem dX11_two_38 : decode cX11_two 38 = .ok (.iload_n 3, 1) := by decide +kernel
theorem dX11_two_39 : decode cX11_two 39 = .ok (.iconst 1, 1) := by decide +kernel
theorem dX11_two_40 : decode cX11_two 40 = .ok (.invokestatic 288, 3) := by decide +kernel
theorem dX11_two_43 : decode cX11_two 43 = .ok (.istore 4, 2) := by decide +kernel
theorem dX11_two_45 : decode cX11_two 45 = .ok (.iload 4, 2) := by decide +kernel
theorem dX11_two_47 : decode cX11_two 47 = .ok (.ifCond .ge 10, 3) := by decide +kernel
theorem dX11_two_50 : decode cX11_two 50 = .ok (.aload_n 0, 1) := by decide +kernel
theorem dX11_two_51 : decode cX11_two 51 = .ok (.iload 4, 2) := by decide +kernel
theorem dX11_two_53 : decode cX11_two 53 = .ok (.invokevirtual 153, 3) := by decide +kernel
theorem dX11_two_56 : decode cX11_two 56 = .ok (.ireturn, 1) := by decide +kernel
theorem dX11_two_57 : decode cX11_two 57 = .ok (.iconst 0, 1) := by decide +kernel
theorem dX11_two_58 : decode cX11_two 58 = .ok (.istore 5, 2) := by decide +kernel
theorem dX11_two_60 : decode cX11_two 60 = .ok (.iload 5, 2) := by decide +kernel
theorem dX11_two_62 : decode cX11_two 62 = .ok (.bipush 40, 2) := by decide +kernel
theorem dX11_two_64 : decode cX11_two 64 = .ok (.if_icmp .gt 36, 3) := by decide +kernel
theorem dX11_two_67 : decode cX11_two 67 = .ok (.aload_n 0, 1) := by decide +kernel
theorem dX11_two_68 : decode cX11_two 68 = .ok (.iload_n 1, 1) := by decide +kernel
theorem dX11_two_69 : decode cX11_two 69 = .ok (.iload_n 2, 1) := by decide +kernel
theorem dX11_two_70 : decode cX11_two 70 = .ok (.iload 5, 2) := by decide +kernel
theorem dX11_two_72 : decode cX11_two 72 = .ok (.invokevirtual 325, 3) := by decide +kernel
theorem dX11_two_75 : decode cX11_two 75 = .ok (.istore 6, 2) := by decide +kernel
theorem dX11_two_77 : decode cX11_two 77 = .ok (.iload 6, 2) := by decide +kernel
theorem dX11_two_79 : decode cX11_two 79 = .ok (.ifCond .lt 15, 3) := by decide +kernel
theorem dX11_two_82 : decode cX11_two 82 = .ok (.iload_n 3, 1) := by decide +kernel
theorem dX11_two_83 : decode cX11_two 83 = .ok (.ifCond .ne 8, 3) := by decide +kernel
theorem dX11_two_86 : decode cX11_two 86 = .ok (.iload 5, 2) := by decide +kernel
theorem dX11_two_88 : decode cX11_two 88 = .ok (.goto 5, 3) := by decide +kernel
theorem dX11_two_91 : decode cX11_two 91 = .ok (.iload 6, 2) := by decide +kernel
theorem dX11_two_93 : decode cX11_two 93 = .ok (.ireturn, 1) := by decide +kernel
theorem dX11_two_94 : decode cX11_two 94 = .ok (.iinc 5 1, 3) := by decide +kernel
theorem dX11_two_97 : decode cX11_two 97 = .ok (.goto (-37), 3) := by decide +kernel
theorem dX11_two_100 : decode cX11_two 100 = .ok (.bipush (-9), 2) := by decide +kernel
theorem dX11_two_102 : decode cX11_two 102 = .ok (.ireturn, 1) := by decide +kernel
theorem dX11_swingBy_0 : decode cX11_swingBy 0 = .ok (.aload_n 0, 1) := by decide +kernel
theorem dX11_swingBy_1 : decode cX11_swingBy 1 = .ok (.invokevirtual 291, 3) := by decide +kernel
theorem dX11_swingBy_4 : decode cX11_swingBy 4 = .ok (.aload_n 0, 1) := by decide +kernel
theorem dX11_swingBy_5 : decode cX11_swingBy 5 = .ok (.getfield 127, 3) := by decide +kernel
theorem dX11_swingBy_8 : decode cX11_swingBy 8 = .ok (.istore_n 2, 1) := by decide +kernel
theorem dX11_swingBy_9 : decode cX11_swingBy 9 = .ok (.aload_n 0, 1) := by decide +kernel
theorem dX11_swingBy_10 : decode cX11_swingBy 10 = .ok (.iconst 0, 1) := by decide +kernel
theorem dX11_swingBy_11 : decode cX11_swingBy 11 = .ok (.putfield 328, 3) := by decide +kernel
theorem dX11_swingBy_14 : decode cX11_swingBy 14 = .ok (.aload_n 0, 1) := by decide +kernel
theorem dX11_swingBy_15 : decode cX11_swingBy 15 = .ok (.iconst 0, 1) := by decide +kernel
theorem dX11_swingBy_16 : decode cX11_swingBy 16 = .ok (.putfield 331, 3) := by decide +kernel
theorem dX11_swingBy_19 : decode cX11_swingBy 19 = .ok (.iconst 0, 1) := by decide +kernel
theorem dX11_swingBy_20 : decode cX11_swingBy 20 = .ok (.istore_n 3, 1) := by decide +kernel
theorem dX11_swingBy_21 : decode cX11_swingBy 21 = .ok (.iload_n 3, 1) := by decide +kernel
theorem dX11_swingBy_22 : decode cX11_swingBy 22 = .ok (.bipush 40, 2) := by decide +kernel
theorem dX11_swingBy_24 : decode cX11_swingBy 24 = .ok (.if_icmp .ge 122, 3) := by decide +kernel
theorem dX11_swingBy_27 : decode cX11_swingBy 27 = .ok (.iload_n 3, 1) := by decide +kernel
theorem dX11_swingBy_28 : decode cX11_swingBy 28 = .ok (.iload_n 1, 1) := by decide +kernel
theorem dX11_swingBy_29 : decode cX11_swingBy 29 = .ok (.irem, 1) := by decide +kernel
theorem dX11_swingBy_30 : decode cX11_swingBy 30 = .ok (.ifCond .ne 10, 3) := by decide +kernel
theorem dX11_swingBy_33 : decode cX11_swingBy 33 = .ok (.aload_n 0, 1) := by decide +kernel
theorem dX11_swingBy_34 : decode cX11_swingBy 34 = .ok (.invokevirtual 124, 3) := by decide +kernel
theorem dX11_swingBy_37 : decode cX11_swingBy 37 = .ok (.goto 4, 3) := by decide +kernel
theorem dX11_swingBy_40 : decode cX11_swingBy 40 = .ok (.iconst 0, 1) := by decide +kernel
theorem dX11_swingBy_41 : decode cX11_swingBy 41 = .ok (.istore 4, 2) := by decide +kernel
theorem dX11_swingBy_43 : decode cX11_swingBy 43 = .ok (.aload_n 0, 1) := by decide +kernel
theorem dX11_swingBy_44 : decode cX11_swingBy 44 = .ok (.iload 4, 2) := by decide +kernel
theorem dX11_swingBy_46 : decode cX11_swingBy 46 = .ok (.ifCond .le 7, 3) := by decide +kernel
theorem dX11_swingBy_49 : decode cX11_swingBy 49 = .ok (.iconst 2, 1) := by decide +kernel
theorem dX11_swingBy_50 : decode cX11_swingBy 50 = .ok (.goto 20, 3) := by decide +kernel
theorem dX11_swingBy_53 : decode cX11_swingBy 53 = .ok (.iload 4, 2) := by decide +kernel
theorem dX11_swingBy_55 : decode cX11_swingBy 55 = .ok (.ifCond .ge 14, 3) := by decide +kernel
theorem dX11_swingBy_58 : decode cX11_swingBy 58 = .ok (.aload_n 0, 1) := by decide +kernel
theorem dX11_swingBy_59 : decode cX11_swingBy 59 = .ok (.getfield 23, 3) := by decide +kernel
theorem dX11_swingBy_62 : decode cX11_swingBy 62 = .ok (.ifCond .le 7, 3) := by decide +kernel
theorem dX11_swingBy_65 : decode cX11_swingBy 65 = .ok (.iconst 1, 1) := by decide +kernel
theorem dX11_swingBy_66 : decode cX11_swingBy 66 = .ok (.goto 4, 3) := by decide +kernel
theorem dX11_swingBy_69 : decode cX11_swingBy 69 = .ok (.iconst 0, 1) := by decide +kernel
theorem dX11_swingBy_70 : decode cX11_swingBy 70 = .ok (.invokevirtual 142, 3) := by decide +kernel
theorem dX11_swingBy_73 : decode cX11_swingBy 73 = .ok (.aload_n 0, 1) := by decide +kernel
theorem dX11_swingBy_74 : decode cX11_swingBy 74 = .ok (.getfield 127, 3) := by decide +kernel
theorem dX11_swingBy_77 : decode cX11_swingBy 77 = .ok (.iload_n 2, 1) := by decide +kernel
theorem dX11_swingBy_78 : decode cX11_swingBy 78 = .ok (.isub, 1) := by decide +kernel
theorem dX11_swingBy_79 : decode cX11_swingBy 79 = .ok (.invokestatic 146, 3) := by decide +kernel
theorem dX11_swingBy_82 : decode cX11_swingBy 82 = .ok (.istore 5, 2) := by decide +kernel
theorem dX11_swingBy_84 : decode cX11_swingBy 84 = .ok (.aload_n 0, 1) := by decide +kernel
theorem dX11_swingBy_85 : decode cX11_swingBy 85 = .ok (.iload_n 3, 1) := by decide +kernel
theorem dX11_swingBy_86 : decode cX11_swingBy 86 = .ok (.bipush 20, 2) := by decide +kernel
theorem dX11_swingBy_88 : decode cX11_swingBy 88 = .ok (.if_icmp .ge 17, 3) := by decide +kernel
theorem dX11_swingBy_91 : decode cX11_swingBy 91 = .ok (.iload 5, 2) := by decide +kernel
theorem dX11_swingBy_93 : decode cX11_swingBy 93 = .ok (.aload_n 0, 1) := by decide +kernel
theorem dX11_swingBy_94 : decode cX11_swingBy 94 = .ok (.getfield 328, 3) := by decide +kernel
theorem dX11_swingBy_97 : decode cX11_swingBy 97 = .ok (.if_icmp .le 8, 3) := by decide +kernel
theorem dX11_swingBy_100 : decode cX11_swingBy 100 = .ok (.iload 5, 2) := by decide +kernel
theorem dX11_swingBy_102 : decode cX11_swingBy 102 = .ok (.goto 7, 3) := by decide +kernel
theorem dX11_swingBy_105 : decode cX11_swingBy 105 = .ok (.aload_n 0, 1) := by decide +kernel
theorem dX11_swingBy_106 : decode cX11_swingBy 106 = .ok (.getfield 328, 3) := by decide +kernel
theorem dX11_swingBy_109 : decode cX11_swingBy 109 = .ok (.putfield 328, 3) := by decide +kernel
theorem dX11_swingBy_112 : decode cX11_swingBy 112 = .ok (.aload_n 0, 1) := by decide +kernel
theorem dX11_swingBy_113 : decode cX11_swingBy 113 = .ok (.iload_n 3, 1) := by decide +kernel
theorem dX11_swingBy_114 : decode cX11_swingBy 114 = .ok (.bipush 20, 2) := by decide +kernel
theorem dX11_swingBy_116 : decode cX11_swingBy 116 = .ok (.if_icmp .lt 17, 3) := by decide +kernel
theorem dX11_swingBy_119 : decode cX11_swingBy 119 = .ok (.iload 5, 2) := by decide +kernel
theorem dX11_swingBy_121 : decode cX11_swingBy 121 = .ok (.aload_n 0, 1) := by decide +kernel
theorem dX11_swingBy_122 : decode cX11_swingBy 122 = .ok (.getfield 331, 3) := by decide +kernel
theorem dX11_swingBy_125 : decode cX11_swingBy 125 = .ok (.if_icmp .le 8, 3) := by decide +kernel
theorem dX11_swingBy_128 : decode cX11_swingBy 128 = .ok (.iload 5, 2) := by decide +kernel
theorem dX11_swingBy_130 : decode cX11_swingBy 130 = .ok (.goto 7, 3) := by decide +kernel
theorem dX11_swingBy_133 : decode cX11_swingBy 133 = .ok (.aload_n 0, 1) := by decide +kernel
theorem dX11_swingBy_134 : decode cX11_swingBy 134 = .ok (.getfield 331, 3) := by decide +kernel
theorem dX11_swingBy_137 : decode cX11_swingBy 137 = .ok (.putfield 331, 3) := by decide +kernel
theorem dX11_swingBy_140 : decode cX11_swingBy 140 = .ok (.iinc 3 1, 3) := by decide +kernel
theorem dX11_swingBy_143 : decode cX11_swingBy 143 = .ok (.goto (-122), 3) := by decide +kernel
theorem dX11_swingBy_146 : decode cX11_swingBy 146 = .ok (.aload_n 0, 1) := by decide +kernel
theorem dX11_swingBy_147 : decode cX11_swingBy 147 = .ok (.invokevirtual 270, 3) := by decide +kernel
theorem dX11_swingBy_150 : decode cX11_swingBy 150 = .ok (.return_, 1) := by decide +kernel
theorem dX11_swing_0 : decode cX11_swing 0 = .ok (.aload_n 0, 1) := by decide +kernel
theorem dX11_swing_1 : decode cX11_swing 1 = .ok (.iconst 0, 1) := by decide +kernel
theorem dX11_swing_2 : decode cX11_swing 2 = .ok (.putfield 104, 3) := by decide +kernel
theorem dX11_swing_5 : decode cX11_swing 5 = .ok (.iload_n 1, 1) := by decide +kernel
theorem dX11_swing_6 : decode cX11_swing 6 = .ok (.i2l, 1) := by decide +kernel
theorem dX11_swing_7 : decode cX11_swing 7 = .ok (.lconst 0, 1) := by decide +kernel
theorem dX11_swing_8 : decode cX11_swing 8 = .ok (.ldc2_w 265, 3) := by decide +kernel
theorem dX11_swing_11 : decode cX11_swing 11 = .ok (.invokestatic 107, 3) := by decide +kernel
theorem dX11_swing_14 : decode cX11_swing 14 = .ok (.ifCond .ne 10, 3) := by decide +kernel
theorem dX11_swing_17 : decode cX11_swing 17 = .ok (.aload_n 0, 1) := by decide +kernel
theorem dX11_swing_18 : decode cX11_swing 18 = .ok (.bipush (-2), 2) := by decide +kernel
theorem dX11_swing_20 : decode cX11_swing 20 = .ok (.invokevirtual 153, 3) := by decide +kernel
theorem dX11_swing_23 : decode cX11_swing 23 = .ok (.ireturn, 1) := by decide +kernel
theorem dX11_swing_24 : decode cX11_swing 24 = .ok (.aload_n 0, 1) := by decide +kernel
theorem dX11_swing_25 : decode cX11_swing 25 = .ok (.iconst 1, 1) := by decide +kernel
theorem dX11_swing_26 : decode cX11_swing 26 = .ok (.invokevirtual 334, 3) := by decide +kernel
theorem dX11_swing_29 : decode cX11_swing 29 = .ok (.iload_n 1, 1) := by decide +kernel
theorem dX11_swing_30 : decode cX11_swing 30 = .ok (.ifCond .ne 10, 3) := by decide +kernel
theorem dX11_swing_33 : decode cX11_swing 33 = .ok (.aload_n 0, 1) := by decide +kernel
theorem dX11_swing_34 : decode cX11_swing 34 = .ok (.getfield 328, 3) := by decide +kernel
theorem dX11_swing_37 : decode cX11_swing 37 = .ok (.goto 31, 3) := by decide +kernel
theorem dX11_swing_40 : decode cX11_swing 40 = .ok (.iload_n 1, 1) := by decide +kernel
theorem dX11_swing_41 : decode cX11_swing 41 = .ok (.iconst 1, 1) := by decide +kernel
theorem dX11_swing_42 : decode cX11_swing 42 = .ok (.if_icmp .ne 10, 3) := by decide +kernel
theorem dX11_swing_45 : decode cX11_swing 45 = .ok (.aload_n 0, 1) := by decide +kernel
theorem dX11_swing_46 : decode cX11_swing 46 = .ok (.getfield 331, 3) := by decide +kernel
theorem dX11_swing_49 : decode cX11_swing 49 = .ok (.goto 19, 3) := by decide +kernel
theorem dX11_swing_52 : decode cX11_swing 52 = .ok (.aload_n 0, 1) := by decide +kernel
theorem dX11_swing_53 : decode cX11_swing 53 = .ok (.getfield 331, 3) := by decide +kernel
theorem dX11_swing_56 : decode cX11_swing 56 = .ok (.aload_n 0, 1) := by decide +kernel
theorem dX11_swing_57 : decode cX11_swing 57 = .ok (.getfield 328, 3) := by decide +kernel
theorem dX11_swing_60 : decode cX11_swing 60 = .ok (.if_icmp .le 7, 3) := by decide +kernel
theorem dX11_swing_63 : decode cX11_swing 63 = .ok (.iconst 1, 1) := by decide +kernel
theorem dX11_swing_64 : decode cX11_swing 64 = .ok (.goto 4, 3) := by decide +kernel
theorem dX11_swing_67 : decode cX11_swing 67 = .ok (.iconst 0, 1) := by decide +kernel
theorem dX11_swing_68 : decode cX11_swing 68 = .ok (.ireturn, 1) := by decide +kernel
theorem dX11_calm_0 : decode cX11_calm 0 = .ok (.aload_n 0, 1) := by decide +kernel
theorem dX11_calm_1 : decode cX11_calm 1 = .ok (.iconst 0, 1) := by decide +kernel
theorem dX11_calm_2 : decode cX11_calm 2 = .ok (.putfield 104, 3) := by decide +kernel
theorem dX11_calm_5 : decode cX11_calm 5 = .ok (.iconst 1, 1) := by decide +kernel
theorem dX11_calm_6 : decode cX11_calm 6 = .ok (.istore_n 1, 1) := by decide +kernel
theorem dX11_calm_7 : decode cX11_calm 7 = .ok (.iload_n 1, 1) := by decide +kernel
theorem dX11_calm_8 : decode cX11_calm 8 = .ok (.bipush 9, 2) := by decide +kernel
theorem dX11_calm_10 : decode cX11_calm 10 = .ok (.if_icmp .gt 27, 3) := by decide +kernel
theorem dX11_calm_13 : decode cX11_calm 13 = .ok (.aload_n 0, 1) := by decide +kernel
theorem dX11_calm_14 : decode cX11_calm 14 = .ok (.iload_n 1, 1) := by decide +kernel
theorem dX11_calm_15 : decode cX11_calm 15 = .ok (.invokevirtual 334, 3) := by decide +kernel
theorem dX11_calm_18 : decode cX11_calm 18 = .ok (.aload_n 0, 1) := by decide +kernel
theorem dX11_calm_19 : decode cX11_calm 19 = .ok (.getfield 331, 3) := by decide +kernel
theorem dX11_calm_22 : decode cX11_calm 22 = .ok (.aload_n 0, 1) := by decide +kernel
theorem dX11_calm_23 : decode cX11_calm 23 = .ok (.getfield 328, 3) := by decide +kernel
theorem dX11_calm_26 : decode cX11_calm 26 = .ok (.if_icmp .gt 5, 3) := by decide +kernel
theorem dX11_calm_29 : decode cX11_calm 29 = .ok (.iload_n 1, 1) := by decide +kernel
theorem dX11_calm_30 : decode cX11_calm 30 = .ok (.ireturn, 1) := by decide +kernel
theorem dX11_calm_31 : decode cX11_calm 31 = .ok (.iinc 1 1, 3) := by decide +kernel
theorem dX11_calm_34 : decode cX11_calm 34 = .ok (.goto (-27), 3) := by decide +kernel
theorem dX11_calm_37 : decode cX11_calm 37 = .ok (.bipush (-9), 2) := by decide +kernel
theorem dX11_calm_39 : decode cX11_calm 39 = .ok (.ireturn, 1) := by decide +kernel
theorem dX11_out_0 : decode cX11_out 0 = .ok (.aload_n 0, 1) := by decide +kernel
theorem dX11_out_1 : decode cX11_out 1 = .ok (.iconst 0, 1) := by decide +kernel
theorem dX11_out_2 : decode cX11_out 2 = .ok (.putfield 104, 3) := by decide +kernel
theorem dX11_out_5 : decode cX11_out 5 = .ok (.aload_n 0, 1) := by decide +kernel
theorem dX11_out_6 : decode cX11_out 6 = .ok (.getfield 127, 3) := by decide +kernel
theorem dX11_out_9 : decode cX11_out 9 = .ok (.ifCond .le 6, 3) := by decide +kernel
theorem dX11_out_12 : decode cX11_out 12 = .ok (.bipush (-9), 2) := by decide +kernel
theorem dX11_out_14 : decode cX11_out 14 = .ok (.ireturn, 1) := by decide +kernel
theorem dX11_out_15 : decode cX11_out 15 = .ok (.iconst 0, 1) := by decide +kernel
theorem dX11_out_16 : decode cX11_out 16 = .ok (.istore_n 1, 1) := by decide +kernel
theorem dX11_out_17 : decode cX11_out 17 = .ok (.iconst 1, 1) := by decide +kernel
theorem dX11_out_18 : decode cX11_out 18 = .ok (.istore_n 2, 1) := by decide +kernel
theorem dX11_out_19 : decode cX11_out 19 = .ok (.iload_n 2, 1) := by decide +kernel
theorem dX11_out_20 : decode cX11_out 20 = .ok (.aload_n 0, 1) := by decide +kernel
theorem dX11_out_21 : decode cX11_out 21 = .ok (.getfield 26, 3) := by decide +kernel
theorem dX11_out_24 : decode cX11_out 24 = .ok (.if_icmp .gt 36, 3) := by decide +kernel
theorem dX11_out_27 : decode cX11_out 27 = .ok (.aload_n 0, 1) := by decide +kernel
theorem dX11_out_28 : decode cX11_out 28 = .ok (.getfield 20, 3) := by decide +kernel
theorem dX11_out_31 : decode cX11_out 31 = .ok (.bipush 12, 2) := by decide +kernel
theorem dX11_out_33 : decode cX11_out 33 = .ok (.isub, 1) := by decide +kernel
theorem dX11_out_34 : decode cX11_out 34 = .ok (.iconst 2, 1) := by decide +kernel
theorem dX11_out_35 : decode cX11_out 35 = .ok (.aload_n 0, 1) := by decide +kernel
theorem dX11_out_36 : decode cX11_out 36 = .ok (.getfield 26, 3) := by decide +kernel
theorem dX11_out_39 : decode cX11_out 39 = .ok (.iload_n 2, 1) := by decide +kernel
theorem dX11_out_40 : decode cX11_out 40 = .ok (.isub, 1) := by decide +kernel
theorem dX11_out_41 : decode cX11_out 41 = .ok (.imul, 1) := by decide +kernel
theorem dX11_out_42 : decode cX11_out 42 = .ok (.isub, 1) := by decide +kernel
theorem dX11_out_43 : decode cX11_out 43 = .ok (.iconst 4, 1) := by decide +kernel
theorem dX11_out_44 : decode cX11_out 44 = .ok (.idiv, 1) := by decide +kernel
theorem dX11_out_45 : decode cX11_out 45 = .ok (.ifCond .gt 7, 3) := by decide +kernel
theorem dX11_out_48 : decode cX11_out 48 = .ok (.iload_n 2, 1) := by decide +kernel
theorem dX11_out_49 : decode cX11_out 49 = .ok (.goto 4, 3) := by decide +kernel
theorem dX11_out_52 : decode cX11_out 52 = .ok (.iload_n 1, 1) := by decide +kernel
theorem dX11_out_53 : decode cX11_out 53 = .ok (.istore_n 1, 1) := by decide +kernel
theorem dX11_out_54 : decode cX11_out 54 = .ok (.iinc 2 1, 3) := by decide +kernel
theorem dX11_out_57 : decode cX11_out 57 = .ok (.goto (-38), 3) := by decide +kernel
theorem dX11_out_60 : decode cX11_out 60 = .ok (.iload_n 1, 1) := by decide +kernel
theorem dX11_out_61 : decode cX11_out 61 = .ok (.ireturn, 1) := by decide +kernel
theorem dX11_driveFrom_0 : decode cX11_driveFrom 0 = .ok (.iconst 0, 1) := by decide +kernel
theorem dX11_driveFrom_1 : decode cX11_driveFrom 1 = .ok (.istore_n 2, 1) := by decide +kernel
theorem dX11_driveFrom_2 : decode cX11_driveFrom 2 = .ok (.iload_n 2, 1) := by decide +kernel
theorem dX11_driveFrom_3 : decode cX11_driveFrom 3 = .ok (.bipush 8, 2) := by decide +kernel
theorem dX11_driveFrom_5 : decode cX11_driveFrom 5 = .ok (.if_icmp .ge 27, 3) := by decide +kernel
theorem dX11_driveFrom_8 : decode cX11_driveFrom 8 = .ok (.aload_n 0, 1) := by decide +kernel
theorem dX11_driveFrom_9 : decode cX11_driveFrom 9 = .ok (.getfield 89, 3) := by decide +kernel
theorem dX11_driveFrom_12 : decode cX11_driveFrom 12 = .ok (.iload_n 2, 1) := by decide +kernel
theorem dX11_driveFrom_13 : decode cX11_driveFrom 13 = .ok (.iload_n 2, 1) := by decide +kernel
theorem dX11_driveFrom_14 : decode cX11_driveFrom 14 = .ok (.iload_n 1, 1) := by decide +kernel
theorem dX11_driveFrom_15 : decode cX11_driveFrom 15 = .ok (.if_icmp .ne 7, 3) := by decide +kernel
theorem dX11_driveFrom_18 : decode cX11_driveFrom 18 = .ok (.iconst 0, 1) := by decide +kernel
theorem dX11_driveFrom_19 : decode cX11_driveFrom 19 = .ok (.goto 6, 3) := by decide +kernel
theorem dX11_driveFrom_22 : decode cX11_driveFrom 22 = .ok (.ldc_w 337, 3) := by decide +kernel
theorem dX11_driveFrom_25 : decode cX11_driveFrom 25 = .ok (.iastore, 1) := by decide +kernel
theorem dX11_driveFrom_26 : decode cX11_driveFrom 26 = .ok (.iinc 2 1, 3) := by decide +kernel
theorem dX11_driveFrom_29 : decode cX11_driveFrom 29 = .ok (.goto (-27), 3) := by decide +kernel
theorem dX11_driveFrom_32 : decode cX11_driveFrom 32 = .ok (.iconst 0, 1) := by decide +kernel
theorem dX11_driveFrom_33 : decode cX11_driveFrom 33 = .ok (.istore_n 2, 1) := by decide +kernel
theorem dX11_driveFrom_34 : decode cX11_driveFrom 34 = .ok (.iload_n 2, 1) := by decide +kernel
theorem dX11_driveFrom_35 : decode cX11_driveFrom 35 = .ok (.bipush 8, 2) := by decide +kernel
theorem dX11_driveFrom_37 : decode cX11_driveFrom 37 = .ok (.if_icmp .ge 106, 3) := by decide +kernel
theorem dX11_driveFrom_40 : decode cX11_driveFrom 40 = .ok (.iconst 0, 1) := by decide +kernel
theorem dX11_driveFrom_41 : decode cX11_driveFrom 41 = .ok (.istore_n 3, 1) := by decide +kernel
theorem dX11_driveFrom_42 : decode cX11_driveFrom 42 = .ok (.iload_n 3, 1) := by decide +kernel
theorem dX11_driveFrom_43 : decode cX11_driveFrom 43 = .ok (.bipush 8, 2) := by decide +kernel
theorem dX11_driveFrom_45 : decode cX11_driveFrom 45 = .ok (.if_icmp .ge 92, 3) := by decide +kernel
theorem dX11_driveFrom_48 : decode cX11_driveFrom 48 = .ok (.iconst 0, 1) := by decide +kernel
theorem dX11_driveFrom_49 : decode cX11_driveFrom 49 = .ok (.istore 4, 2) := by decide +kernel
theorem dX11_driveFrom_51 : decode cX11_driveFrom 51 = .ok (.iload 4, 2) := by decide +kernel
theorem dX11_driveFrom_53 : decode cX11_driveFrom 53 = .ok (.bipush 8, 2) := by decide +kernel
theorem dX11_driveFrom_55 : decode cX11_driveFrom 55 = .ok (.if_icmp .ge 76, 3) := by decide +kernel
theorem dX11_driveFrom_58 : decode cX11_driveFrom 58 = .ok (.aload_n 0, 1) := by decide +kernel
theorem dX11_driveFrom_59 : decode cX11_driveFrom 59 = .ok (.getfield 89, 3) := by decide +kernel
theorem dX11_driveFrom_62 : decode cX11_driveFrom 62 = .ok (.iload_n 3, 1) := by decide +kernel
theorem dX11_driveFrom_63 : decode cX11_driveFrom 63 = .ok (.iaload, 1) := by decide +kernel
theorem dX11_driveFrom_64 : decode cX11_driveFrom 64 = .ok (.aload_n 0, 1) := by decide +kernel
theorem dX11_driveFrom_65 : decode cX11_driveFrom 65 = .ok (.getfield 50, 3) := by decide +kernel
theorem dX11_driveFrom_68 : decode cX11_driveFrom 68 = .ok (.bipush 8, 2) := by decide +kernel
theorem dX11_driveFrom_70 : decode cX11_driveFrom 70 = .ok (.iload_n 3, 1) := by decide +kernel
theorem dX11_driveFrom_71 : decode cX11_driveFrom 71 = .ok (.imul, 1) := by decide +kernel
theorem dX11_driveFrom_72 : decode cX11_driveFrom 72 = .ok (.iload 4, 2) := by decide +kernel
theorem dX11_driveFrom_74 : decode cX11_driveFrom 74 = .ok (.iadd, 1) := by decide +kernel
theorem dX11_driveFrom_75 : decode cX11_driveFrom 75 = .ok (.iaload, 1) := by decide +kernel
theorem dX11_driveFrom_76 : decode cX11_driveFrom 76 = .ok (.iadd, 1) := by decide +kernel
theorem dX11_driveFrom_77 : decode cX11_driveFrom 77 = .ok (.istore 5, 2) := by decide +kernel
theorem dX11_driveFrom_79 : decode cX11_driveFrom 79 = .ok (.aload_n 0, 1) := by decide +kernel
theorem dX11_driveFrom_80 : decode cX11_driveFrom 80 = .ok (.getfield 89, 3) := by decide +kernel
theorem dX11_driveFrom_83 : decode cX11_driveFrom 83 = .ok (.iload 4, 2) := by decide +kernel
theorem dX11_driveFrom_85 : decode cX11_driveFrom 85 = .ok (.aload_n 0, 1) := by decide +kernel
theorem dX11_driveFrom_86 : decode cX11_driveFrom 86 = .ok (.getfield 50, 3) := by decide +kernel
theorem dX11_driveFrom_89 : decode cX11_driveFrom 89 = .ok (.bipush 8, 2) := by decide +kernel
theorem dX11_driveFrom_91 : decode cX11_driveFrom 91 = .ok (.iload_n 3, 1) := by decide +kernel
theorem dX11_driveFrom_92 : decode cX11_driveFrom 92 = .ok (.imul, 1) := by decide +kernel
theorem dX11_driveFrom_93 : decode cX11_driveFrom 93 = .ok (.iload 4, 2) := by decide +kernel
theorem dX11_driveFrom_95 : decode cX11_driveFrom 95 = .ok (.iadd, 1) := by decide +kernel
theorem dX11_driveFrom_96 : decode cX11_driveFrom 96 = .ok (.iaload, 1) := by decide +kernel
theorem dX11_driveFrom_97 : decode cX11_driveFrom 97 = .ok (.ifCond .le 20, 3) := by decide +kernel
theorem dX11_driveFrom_100 : decode cX11_driveFrom 100 = .ok (.iload 5, 2) := by decide +kernel
theorem dX11_driveFrom_102 : decode cX11_driveFrom 102 = .ok (.aload_n 0, 1) := by decide +kernel
theorem dX11_driveFrom_103 : decode cX11_driveFrom 103 = .ok (.getfield 89, 3) := by decide +kernel
theorem dX11_driveFrom_106 : decode cX11_driveFrom 106 = .ok (.iload 4, 2) := by decide +kernel
theorem dX11_driveFrom_108 : decode cX11_driveFrom 108 = .ok (.iaload, 1) := by decide +kernel
theorem dX11_driveFrom_109 : decode cX11_driveFrom 109 = .ok (.if_icmp .ge 8, 3) := by decide +kernel
theorem dX11_driveFrom_112 : decode cX11_driveFrom 112 = .ok (.iload 5, 2) := by decide +kernel
theorem dX11_driveFrom_114 : decode cX11_driveFrom 114 = .ok (.goto 10, 3) := by decide +kernel
theorem dX11_driveFrom_117 : decode cX11_driveFrom 117 = .ok (.aload_n 0, 1) := by decide +kernel
theorem dX11_driveFrom_118 : decode cX11_driveFrom 118 = .ok (.getfield 89, 3) := by decide +kernel
theorem dX11_driveFrom_121 : decode cX11_driveFrom 121 = .ok (.iload 4, 2) := by decide +kernel
theorem dX11_driveFrom_123 : decode cX11_driveFrom 123 = .ok (.iaload, 1) := by decide +kernel
theorem dX11_driveFrom_124 : decode cX11_driveFrom 124 = .ok (.iastore, 1) := by decide +kernel
theorem dX11_driveFrom_125 : decode cX11_driveFrom 125 = .ok (.iinc 4 1, 3) := by decide +kernel
theorem dX11_driveFrom_128 : decode cX11_driveFrom 128 = .ok (.goto (-77), 3) := by decide +kernel
theorem dX11_driveFrom_131 : decode cX11_driveFrom 131 = .ok (.iinc 3 1, 3) := by decide +kernel
theorem dX11_driveFrom_134 : decode cX11_driveFrom 134 = .ok (.goto (-92), 3) := by decide +kernel
theorem dX11_driveFrom_137 : decode cX11_driveFrom 137 = .ok (.iinc 2 1, 3) := by decide +kernel
theorem dX11_driveFrom_140 : decode cX11_driveFrom 140 = .ok (.goto (-106), 3) := by decide +kernel
theorem dX11_driveFrom_143 : decode cX11_driveFrom 143 = .ok (.return_, 1) := by decide +kernel
theorem dX11_road_0 : decode cX11_road 0 = .ok (.aload_n 0, 1) := by decide +kernel
theorem dX11_road_1 : decode cX11_road 1 = .ok (.iconst 0, 1) := by decide +kernel
theorem dX11_road_2 : decode cX11_road 2 = .ok (.putfield 104, 3) := by decide +kernel
theorem dX11_road_5 : decode cX11_road 5 = .ok (.iload_n 1, 1) := by decide +kernel
theorem dX11_road_6 : decode cX11_road 6 = .ok (.invokestatic 202, 3) := by decide +kernel
theorem dX11_road_9 : decode cX11_road 9 = .ok (.ifCond .eq 25, 3) := by decide +kernel
theorem dX11_road_12 : decode cX11_road 12 = .ok (.iload_n 2, 1) := by decide +kernel
theorem dX11_road_13 : decode cX11_road 13 = .ok (.invokestatic 202, 3) := by decide +kernel
theorem dX11_road_16 : decode cX11_road 16 = .ok (.ifCond .eq 18, 3) := by decide +kernel
theorem dX11_road_19 : decode cX11_road 19 = .ok (.iload_n 1, 1) := by decide +kernel
theorem dX11_road_20 : decode cX11_road 20 = .ok (.iload_n 2, 1) := by decide +kernel
theorem dX11_road_21 : decode cX11_road 21 = .ok (.if_icmp .eq 13, 3) := by decide +kernel
theorem dX11_road_24 : decode cX11_road 24 = .ok (.iload_n 3, 1) := by decide +kernel
theorem dX11_road_25 : decode cX11_road 25 = .ok (.iconst 0, 1) := by decide +kernel
theorem dX11_road_26 : decode cX11_road 26 = .ok (.bipush 99, 2) := by decide +kernel
theorem dX11_road_28 : decode cX11_road 28 = .ok (.invokestatic 255, 3) := by decide +kernel
theorem dX11_road_31 : decode cX11_road 31 = .ok (.goto 4, 3) := by decide +kernel
theorem dX11_road_34 : decode cX11_road 34 = .ok (.iconst (-1), 1) := by decide +kernel
theorem dX11_road_35 : decode cX11_road 35 = .ok (.istore 4, 2) := by decide +kernel
theorem dX11_road_37 : decode cX11_road 37 = .ok (.iload 4, 2) := by decide +kernel
theorem dX11_road_39 : decode cX11_road 39 = .ok (.ifCond .ge 10, 3) := by decide +kernel
theorem dX11_road_42 : decode cX11_road 42 = .ok (.aload_n 0, 1) := by decide +kernel
theorem dX11_road_43 : decode cX11_road 43 = .ok (.iload 4, 2) := by decide +kernel
theorem dX11_road_45 : decode cX11_road 45 = .ok (.invokevirtual 153, 3) := by decide +kernel
theorem dX11_road_48 : decode cX11_road 48 = .ok (.ireturn, 1) := by decide +kernel
theorem dX11_road_49 : decode cX11_road 49 = .ok (.aload_n 0, 1) := by decide +kernel
theorem dX11_road_50 : decode cX11_road 50 = .ok (.getfield 50, 3) := by decide +kernel
theorem dX11_road_53 : decode cX11_road 53 = .ok (.bipush 8, 2) := by decide +kernel
theorem dX11_road_55 : decode cX11_road 55 = .ok (.iload_n 1, 1) := by decide +kernel
theorem dX11_road_56 : decode cX11_road 56 = .ok (.imul, 1) := by decide +kernel
theorem dX11_road_57 : decode cX11_road 57 = .ok (.iload_n 2, 1) := by decide +kernel
theorem dX11_road_58 : decode cX11_road 58 = .ok (.iadd, 1) := by decide +kernel
theorem dX11_road_59 : decode cX11_road 59 = .ok (.iaload, 1) := by decide +kernel
theorem dX11_road_60 : decode cX11_road 60 = .ok (.istore 5, 2) := by decide +kernel
theorem dX11_road_62 : decode cX11_road 62 = .ok (.aload_n 0, 1) := by decide +kernel
theorem dX11_road_63 : decode cX11_road 63 = .ok (.iload_n 1, 1) := by decide +kernel
theorem dX11_road_64 : decode cX11_road 64 = .ok (.iload_n 2, 1) := by decide +kernel
theorem dX11_road_65 : decode cX11_road 65 = .ok (.iload_n 3, 1) := by decide +kernel
theorem dX11_road_66 : decode cX11_road 66 = .ok (.invokevirtual 205, 3) := by decide +kernel
theorem dX11_road_69 : decode cX11_road 69 = .ok (.aload_n 0, 1) := by decide +kernel
theorem dX11_road_70 : decode cX11_road 70 = .ok (.iconst 0, 1) := by decide +kernel
theorem dX11_road_71 : decode cX11_road 71 = .ok (.putfield 225, 3) := by decide +kernel
theorem dX11_road_74 : decode cX11_road 74 = .ok (.iload 5, 2) := by decide +kernel
theorem dX11_road_76 : decode cX11_road 76 = .ok (.ireturn, 1) := by decide +kernel
theorem dX11_car_0 : decode cX11_car 0 = .ok (.aload_n 0, 1) := by decide +kernel
theorem dX11_car_1 : decode cX11_car 1 = .ok (.iconst 0, 1) := by decide +kernel
theorem dX11_car_2 : decode cX11_car 2 = .ok (.putfield 104, 3) := by decide +kernel
theorem dX11_car_5 : decode cX11_car 5 = .ok (.iload_n 1, 1) := by decide +kernel
theorem dX11_car_6 : decode cX11_car 6 = .ok (.invokestatic 202, 3) := by decide +kernel
theorem dX11_car_9 : decode cX11_car 9 = .ok (.ifCond .ne 9, 3) := by decide +kernel
theorem dX11_car_12 : decode cX11_car 12 = .ok (.aload_n 0, 1) := by decide +kernel
theorem dX11_car_13 : decode cX11_car 13 = .ok (.iconst (-1), 1) := by decide +kernel
theorem dX11_car_14 : decode cX11_car 14 = .ok (.invokevirtual 153, 3) := by decide +kernel
theorem dX11_car_17 : decode cX11_car 17 = .ok (.ireturn, 1) := by decide +kernel
theorem dX11_car_18 : decode cX11_car 18 = .ok (.aload_n 0, 1) := by decide +kernel
theorem dX11_car_19 : decode cX11_car 19 = .ok (.getfield 243, 3) := by decide +kernel
theorem dX11_car_22 : decode cX11_car 22 = .ok (.istore_n 2, 1) := by decide +kernel
theorem dX11_car_23 : decode cX11_car 23 = .ok (.aload_n 0, 1) := by decide +kernel
theorem dX11_car_24 : decode cX11_car 24 = .ok (.iload_n 1, 1) := by decide +kernel
theorem dX11_car_25 : decode cX11_car 25 = .ok (.putfield 243, 3) := by decide +kernel
theorem dX11_car_28 : decode cX11_car 28 = .ok (.aload_n 0, 1) := by decide +kernel
theorem dX11_car_29 : decode cX11_car 29 = .ok (.iconst 0, 1) := by decide +kernel
theorem dX11_car_30 : decode cX11_car 30 = .ok (.putfield 225, 3) := by decide +kernel
theorem dX11_car_33 : decode cX11_car 33 = .ok (.iload_n 2, 1) := by decide +kernel
theorem dX11_car_34 : decode cX11_car 34 = .ok (.ireturn, 1) := by decide +kernel
theorem dX11_drive_0 : decode cX11_drive 0 = .ok (.aload_n 0, 1) := by decide +kernel
theorem dX11_drive_1 : decode cX11_drive 1 = .ok (.iconst 0, 1) := by decide +kernel
theorem dX11_drive_2 : decode cX11_drive 2 = .ok (.putfield 104, 3) := by decide +kernel
theorem dX11_drive_5 : decode cX11_drive 5 = .ok (.iload_n 1, 1) := by decide +kernel
theorem dX11_drive_6 : decode cX11_drive 6 = .ok (.invokestatic 202, 3) := by decide +kernel
theorem dX11_drive_9 : decode cX11_drive 9 = .ok (.ifCond .ne 9, 3) := by decide +kernel
theorem dX11_drive_12 : decode cX11_drive 12 = .ok (.aload_n 0, 1) := by decide +kernel
theorem dX11_drive_13 : decode cX11_drive 13 = .ok (.iconst (-1), 1) := by decide +kernel
theorem dX11_drive_14 : decode cX11_drive 14 = .ok (.invokevirtual 153, 3) := by decide +kernel
theorem dX11_drive_17 : decode cX11_drive 17 = .ok (.ireturn, 1) := by decide +kernel
theorem dX11_drive_18 : decode cX11_drive 18 = .ok (.aload_n 0, 1) := by decide +kernel
theorem dX11_drive_19 : decode cX11_drive 19 = .ok (.aload_n 0, 1) := by decide +kernel
theorem dX11_drive_20 : decode cX11_drive 20 = .ok (.getfield 243, 3) := by decide +kernel
theorem dX11_drive_23 : decode cX11_drive 23 = .ok (.invokevirtual 338, 3) := by decide +kernel
theorem dX11_drive_26 : decode cX11_drive 26 = .ok (.aload_n 0, 1) := by decide +kernel
theorem dX11_drive_27 : decode cX11_drive 27 = .ok (.getfield 89, 3) := by decide +kernel
theorem dX11_drive_30 : decode cX11_drive 30 = .ok (.iload_n 1, 1) := by decide +kernel
theorem dX11_drive_31 : decode cX11_drive 31 = .ok (.iaload, 1) := by decide +kernel
theorem dX11_drive_32 : decode cX11_drive 32 = .ok (.ldc_w 337, 3) := by decide +kernel
theorem dX11_drive_35 : decode cX11_drive 35 = .ok (.if_icmp .ge 12, 3) := by decide +kernel
theorem dX11_drive_38 : decode cX11_drive 38 = .ok (.aload_n 0, 1) := by decide +kernel
theorem dX11_drive_39 : decode cX11_drive 39 = .ok (.getfield 89, 3) := by decide +kernel
theorem dX11_drive_42 : decode cX11_drive 42 = .ok (.iload_n 1, 1) := by decide +kernel
theorem dX11_drive_43 : decode cX11_drive 43 = .ok (.iaload, 1) := by decide +kernel
theorem dX11_drive_44 : decode cX11_drive 44 = .ok (.goto 5, 3) := by decide +kernel
theorem dX11_drive_47 : decode cX11_drive 47 = .ok (.bipush (-9), 2) := by decide +kernel
theorem dX11_drive_49 : decode cX11_drive 49 = .ok (.ireturn, 1) := by decide +kernel
theorem dX11_waitSum_0 : decode cX11_waitSum 0 = .ok (.aload_n 0, 1) := by decide +kernel
theorem dX11_waitSum_1 : decode cX11_waitSum 1 = .ok (.iload_n 1, 1) := by decide +kernel
theorem dX11_waitSum_2 : decode cX11_waitSum 2 = .ok (.invokevirtual 338, 3) := by decide +kernel
theorem dX11_waitSum_5 : decode cX11_waitSum 5 = .ok (.iconst 0, 1) := by decide +kernel
theorem dX11_waitSum_6 : decode cX11_waitSum 6 = .ok (.istore_n 2, 1) := by decide +kernel
theorem dX11_waitSum_7 : decode cX11_waitSum 7 = .ok (.iconst 0, 1) := by decide +kernel
theorem dX11_waitSum_8 : decode cX11_waitSum 8 = .ok (.istore_n 3, 1) := by decide +kernel
theorem dX11_waitSum_9 : decode cX11_waitSum 9 = .ok (.iload_n 3, 1) := by decide +kernel
theorem dX11_waitSum_10 : decode cX11_waitSum 10 = .ok (.bipush 8, 2) := by decide +kernel
theorem dX11_waitSum_12 : decode cX11_waitSum 12 = .ok (.if_icmp .ge 42, 3) := by decide +kernel
theorem dX11_waitSum_15 : decode cX11_waitSum 15 = .ok (.iload_n 2, 1) := by decide +kernel
theorem dX11_waitSum_16 : decode cX11_waitSum 16 = .ok (.aload_n 0, 1) := by decide +kernel
theorem dX11_waitSum_17 : decode cX11_waitSum 17 = .ok (.getfield 101, 3) := by decide +kernel
theorem dX11_waitSum_20 : decode cX11_waitSum 20 = .ok (.iload_n 3, 1) := by decide +kernel
theorem dX11_waitSum_21 : decode cX11_waitSum 21 = .ok (.iaload, 1) := by decide +kernel
theorem dX11_waitSum_22 : decode cX11_waitSum 22 = .ok (.aload_n 0, 1) := by decide +kernel
theorem dX11_waitSum_23 : decode cX11_waitSum 23 = .ok (.getfield 89, 3) := by decide +kernel
theorem dX11_waitSum_26 : decode cX11_waitSum 26 = .ok (.iload_n 3, 1) := by decide +kernel
theorem dX11_waitSum_27 : decode cX11_waitSum 27 = .ok (.iaload, 1) := by decide +kernel
theorem dX11_waitSum_28 : decode cX11_waitSum 28 = .ok (.ldc_w 337, 3) := by decide +kernel
theorem dX11_waitSum_31 : decode cX11_waitSum 31 = .ok (.if_icmp .ge 12, 3) := by decide +kernel
theorem dX11_waitSum_34 : decode cX11_waitSum 34 = .ok (.aload_n 0, 1) := by decide +kernel
theorem dX11_waitSum_35 : decode cX11_waitSum 35 = .ok (.getfield 89, 3) := by decide +kernel
theorem dX11_waitSum_38 : decode cX11_waitSum 38 = .ok (.iload_n 3, 1) := by decide +kernel
theorem dX11_waitSum_39 : decode cX11_waitSum 39 = .ok (.iaload, 1) := by decide +kernel
theorem dX11_waitSum_40 : decode cX11_waitSum 40 = .ok (.goto 5, 3) := by decide +kernel
theorem dX11_waitSum_43 : decode cX11_waitSum 43 = .ok (.bipush 99, 2) := by decide +kernel
theorem dX11_waitSum_45 : decode cX11_waitSum 45 = .ok (.imul, 1) := by decide +kernel
theorem dX11_waitSum_46 : decode cX11_waitSum 46 = .ok (.iadd, 1) := by decide +kernel
theorem dX11_waitSum_47 : decode cX11_waitSum 47 = .ok (.istore_n 2, 1) := by decide +kernel
theorem dX11_waitSum_48 : decode cX11_waitSum 48 = .ok (.iinc 3 1, 3) := by decide +kernel
theorem dX11_waitSum_51 : decode cX11_waitSum 51 = .ok (.goto (-42), 3) := by decide +kernel
theorem dX11_waitSum_54 : decode cX11_waitSum 54 = .ok (.iload_n 2, 1) := by decide +kernel
theorem dX11_waitSum_55 : decode cX11_waitSum 55 = .ok (.ireturn, 1) := by decide +kernel
theorem dX11_waitBest_0 : decode cX11_waitBest 0 = .ok (.iconst 0, 1) := by decide +kernel
theorem dX11_waitBest_1 : decode cX11_waitBest 1 = .ok (.istore_n 1, 1) := by decide +kernel
theorem dX11_waitBest_2 : decode cX11_waitBest 2 = .ok (.aload_n 0, 1) := by decide +kernel
theorem dX11_waitBest_3 : decode cX11_waitBest 3 = .ok (.iconst 0, 1) := by decide +kernel
theorem dX11_waitBest_4 : decode cX11_waitBest 4 = .ok (.invokevirtual 341, 3) := by decide +kernel
theorem dX11_waitBest_7 : decode cX11_waitBest 7 = .ok (.istore_n 2, 1) := by decide +kernel
theorem dX11_waitBest_8 : decode cX11_waitBest 8 = .ok (.iconst 1, 1) := by decide +kernel
theorem dX11_waitBest_9 : decode cX11_waitBest 9 = .ok (.istore_n 3, 1) := by decide +kernel
theorem dX11_waitBest_10 : decode cX11_waitBest 10 = .ok (.iload_n 3, 1) := by decide +kernel
theorem dX11_waitBest_11 : decode cX11_waitBest 11 = .ok (.bipush 8, 2) := by decide +kernel
theorem dX11_waitBest_13 : decode cX11_waitBest 13 = .ok (.if_icmp .ge 41, 3) := by decide +kernel
theorem dX11_waitBest_16 : decode cX11_waitBest 16 = .ok (.aload_n 0, 1) := by decide +kernel
theorem dX11_waitBest_17 : decode cX11_waitBest 17 = .ok (.iload_n 3, 1) := by decide +kernel
theorem dX11_waitBest_18 : decode cX11_waitBest 18 = .ok (.invokevirtual 341, 3) := by decide +kernel
theorem dX11_waitBest_21 : decode cX11_waitBest 21 = .ok (.istore 4, 2) := by decide +kernel
theorem dX11_waitBest_23 : decode cX11_waitBest 23 = .ok (.iload 4, 2) := by decide +kernel
theorem dX11_waitBest_25 : decode cX11_waitBest 25 = .ok (.iload_n 2, 1) := by decide +kernel
theorem dX11_waitBest_26 : decode cX11_waitBest 26 = .ok (.if_icmp .ge 7, 3) := by decide +kernel
theorem dX11_waitBest_29 : decode cX11_waitBest 29 = .ok (.iload_n 3, 1) := by decide +kernel
theorem dX11_waitBest_30 : decode cX11_waitBest 30 = .ok (.goto 4, 3) := by decide +kernel
theorem dX11_waitBest_33 : decode cX11_waitBest 33 = .ok (.iload_n 1, 1) := by decide +kernel
theorem dX11_waitBest_34 : decode cX11_waitBest 34 = .ok (.istore_n 1, 1) := by decide +kernel
theorem dX11_waitBest_35 : decode cX11_waitBest 35 = .ok (.iload 4, 2) := by decide +kernel
theorem dX11_waitBest_37 : decode cX11_waitBest 37 = .ok (.iload_n 2, 1) := by decide +kernel
theorem dX11_waitBest_38 : decode cX11_waitBest 38 = .ok (.if_icmp .ge 8, 3) := by decide +kernel
theorem dX11_waitBest_41 : decode cX11_waitBest 41 = .ok (.iload 4, 2) := by decide +kernel
theorem dX11_waitBest_43 : decode cX11_waitBest 43 = .ok (.goto 4, 3) := by decide +kernel
theorem dX11_waitBest_46 : decode cX11_waitBest 46 = .ok (.iload_n 2, 1) := by decide +kernel
theorem dX11_waitBest_47 : decode cX11_waitBest 47 = .ok (.istore_n 2, 1) := by decide +kernel
theorem dX11_waitBest_48 : decode cX11_waitBest 48 = .ok (.iinc 3 1, 3) := by decide +kernel
theorem dX11_waitBest_51 : decode cX11_waitBest 51 = .ok (.goto (-41), 3) := by decide +kernel
theorem dX11_waitBest_54 : decode cX11_waitBest 54 = .ok (.iload_n 1, 1) := by decide +kernel
theorem dX11_waitBest_55 : decode cX11_waitBest 55 = .ok (.ireturn, 1) := by decide +kernel
theorem dX11_waitAt_0 : decode cX11_waitAt 0 = .ok (.aload_n 0, 1) := by decide +kernel
theorem dX11_waitAt_1 : decode cX11_waitAt 1 = .ok (.iconst 0, 1) := by decide +kernel
theorem dX11_waitAt_2 : decode cX11_waitAt 2 = .ok (.putfield 104, 3) := by decide +kernel
theorem dX11_waitAt_5 : decode cX11_waitAt 5 = .ok (.aload_n 0, 1) := by decide +kernel
theorem dX11_waitAt_6 : decode cX11_waitAt 6 = .ok (.getfield 344, 3) := by decide +kernel
theorem dX11_waitAt_9 : decode cX11_waitAt 9 = .ok (.bipush 8, 2) := by decide +kernel
theorem dX11_waitAt_11 : decode cX11_waitAt 11 = .ok (.if_icmp .ne 10, 3) := by decide +kernel
theorem dX11_waitAt_14 : decode cX11_waitAt 14 = .ok (.aload_n 0, 1) := by decide +kernel
theorem dX11_waitAt_15 : decode cX11_waitAt 15 = .ok (.invokevirtual 347, 3) := by decide +kernel
theorem dX11_waitAt_18 : decode cX11_waitAt 18 = .ok (.goto 9, 3) := by decide +kernel
theorem dX11_waitAt_21 : decode cX11_waitAt 21 = .ok (.aload_n 0, 1) := by decide +kernel
theorem dX11_waitAt_22 : decode cX11_waitAt 22 = .ok (.bipush (-3), 2) := by decide +kernel
theorem dX11_waitAt_24 : decode cX11_waitAt 24 = .ok (.invokevirtual 153, 3) := by decide +kernel
theorem dX11_waitAt_27 : decode cX11_waitAt 27 = .ok (.ireturn, 1) := by decide +kernel
theorem dX11_divisor_0 : decode cX11_divisor 0 = .ok (.lload_n 0, 1) := by decide +kernel
theorem dX11_divisor_1 : decode cX11_divisor 1 = .ok (.lstore 4, 2) := by decide +kernel
theorem dX11_divisor_3 : decode cX11_divisor 3 = .ok (.lload_n 2, 1) := by decide +kernel
theorem dX11_divisor_4 : decode cX11_divisor 4 = .ok (.lstore 6, 2) := by decide +kernel
theorem dX11_divisor_6 : decode cX11_divisor 6 = .ok (.lload 6, 2) := by decide +kernel
theorem dX11_divisor_8 : decode cX11_divisor 8 = .ok (.lconst 0, 1) := by decide +kernel
theorem dX11_divisor_9 : decode cX11_divisor 9 = .ok (.lcmp, 1) := by decide +kernel
theorem dX11_divisor_10 : decode cX11_divisor 10 = .ok (.ifCond .eq 21, 3) := by decide +kernel
theorem dX11_divisor_13 : decode cX11_divisor 13 = .ok (.lload 4, 2) := by decide +kernel
theorem dX11_divisor_15 : decode cX11_divisor 15 = .ok (.lload 6, 2) := by decide +kernel
theorem dX11_divisor_17 : decode cX11_divisor 17 = .ok (.lrem, 1) := by decide +kernel
theorem dX11_divisor_18 : decode cX11_divisor 18 = .ok (.lstore 8, 2) := by decide +kernel
theorem dX11_divisor_20 : decode cX11_divisor 20 = .ok (.lload 6, 2) := by decide +kernel
theorem dX11_divisor_22 : decode cX11_divisor 22 = .ok (.lstore 4, 2) := by decide +kernel
theorem dX11_divisor_24 : decode cX11_divisor 24 = .ok (.lload 8, 2) := by decide +kernel
theorem dX11_divisor_26 : decode cX11_divisor 26 = .ok (.lstore 6, 2) := by decide +kernel
theorem dX11_divisor_28 : decode cX11_divisor 28 = .ok (.goto (-22), 3) := by decide +kernel
theorem dX11_divisor_31 : decode cX11_divisor 31 = .ok (.lload 4, 2) := by decide +kernel
theorem dX11_divisor_33 : decode cX11_divisor 33 = .ok (.lreturn, 1) := by decide +kernel
theorem dX11_meanWait_0 : decode cX11_meanWait 0 = .ok (.aload_n 0, 1) := by decide +kernel
theorem dX11_meanWait_1 : decode cX11_meanWait 1 = .ok (.iconst 0, 1) := by decide +kernel
theorem dX11_meanWait_2 : decode cX11_meanWait 2 = .ok (.putfield 104, 3) := by decide +kernel
theorem dX11_meanWait_5 : decode cX11_meanWait 5 = .ok (.aload_n 0, 1) := by decide +kernel
theorem dX11_meanWait_6 : decode cX11_meanWait 6 = .ok (.getfield 344, 3) := by decide +kernel
theorem dX11_meanWait_9 : decode cX11_meanWait 9 = .ok (.bipush 8, 2) := by decide +kernel
theorem dX11_meanWait_11 : decode cX11_meanWait 11 = .ok (.if_icmp .eq 8, 3) := by decide +kernel
theorem dX11_meanWait_14 : decode cX11_meanWait 14 = .ok (.bipush (-3), 2) := by decide +kernel
theorem dX11_meanWait_16 : decode cX11_meanWait 16 = .ok (.goto 9, 3) := by decide +kernel
theorem dX11_meanWait_19 : decode cX11_meanWait 19 = .ok (.iconst 0, 1) := by decide +kernel
theorem dX11_meanWait_20 : decode cX11_meanWait 20 = .ok (.iload_n 1, 1) := by decide +kernel
theorem dX11_meanWait_21 : decode cX11_meanWait 21 = .ok (.iconst 1, 1) := by decide +kernel
theorem dX11_meanWait_22 : decode cX11_meanWait 22 = .ok (.invokestatic 288, 3) := by decide +kernel
theorem dX11_meanWait_25 : decode cX11_meanWait 25 = .ok (.istore_n 2, 1) := by decide +kernel
theorem dX11_meanWait_26 : decode cX11_meanWait 26 = .ok (.iload_n 2, 1) := by decide +kernel
theorem dX11_meanWait_27 : decode cX11_meanWait 27 = .ok (.ifCond .ge 14, 3) := by decide +kernel
theorem dX11_meanWait_30 : decode cX11_meanWait 30 = .ok (.ldc2_w 350, 3) := by decide +kernel
theorem dX11_meanWait_33 : decode cX11_meanWait 33 = .ok (.aload_n 0, 1) := by decide +kernel
theorem dX11_meanWait_34 : decode cX11_meanWait 34 = .ok (.iload_n 2, 1) := by decide +kernel
theorem dX11_meanWait_35 : decode cX11_meanWait 35 = .ok (.invokevirtual 153, 3) := by decide +kernel
theorem dX11_meanWait_38 : decode cX11_meanWait 38 = .ok (.i2l, 1) := by decide +kernel
theorem dX11_meanWait_39 : decode cX11_meanWait 39 = .ok (.lsub, 1) := by decide +kernel
theorem dX11_meanWait_40 : decode cX11_meanWait 40 = .ok (.lreturn, 1) := by decide +kernel
theorem dX11_meanWait_41 : decode cX11_meanWait 41 = .ok (.aload_n 0, 1) := by decide +kernel
theorem dX11_meanWait_42 : decode cX11_meanWait 42 = .ok (.aload_n 0, 1) := by decide +kernel
theorem dX11_meanWait_43 : decode cX11_meanWait 43 = .ok (.invokevirtual 347, 3) := by decide +kernel
theorem dX11_meanWait_46 : decode cX11_meanWait 46 = .ok (.invokevirtual 341, 3) := by decide +kernel
theorem dX11_meanWait_49 : decode cX11_meanWait 49 = .ok (.i2l, 1) := by decide +kernel
theorem dX11_meanWait_50 : decode cX11_meanWait 50 = .ok (.lstore_n 3, 1) := by decide +kernel
theorem dX11_meanWait_51 : decode cX11_meanWait 51 = .ok (.lconst 0, 1) := by decide +kernel
theorem dX11_meanWait_52 : decode cX11_meanWait 52 = .ok (.lstore 5, 2) := by decide +kernel
theorem dX11_meanWait_54 : decode cX11_meanWait 54 = .ok (.iconst 0, 1) := by decide +kernel
theorem dX11_meanWait_55 : decode cX11_meanWait 55 = .ok (.istore 7, 2) := by decide +kernel
theorem dX11_meanWait_57 : decode cX11_meanWait 57 = .ok (.iload 7, 2) := by decide +kernel
theorem dX11_meanWait_59 : decode cX11_meanWait 59 = .ok (.bipush 8, 2) := by decide +kernel
theorem dX11_meanWait_61 : decode cX11_meanWait 61 = .ok (.if_icmp .ge 22, 3) := by decide +kernel
theorem dX11_meanWait_64 : decode cX11_meanWait 64 = .ok (.lload 5, 2) := by decide +kernel
theorem dX11_meanWait_66 : decode cX11_meanWait 66 = .ok (.aload_n 0, 1) := by decide +kernel
theorem dX11_meanWait_67 : decode cX11_meanWait 67 = .ok (.getfield 101, 3) := by decide +kernel
theorem dX11_meanWait_70 : decode cX11_meanWait 70 = .ok (.iload 7, 2) := by decide +kernel
theorem dX11_meanWait_72 : decode cX11_meanWait 72 = .ok (.iaload, 1) := by decide +kernel
theorem dX11_meanWait_73 : decode cX11_meanWait 73 = .ok (.i2l, 1) := by decide +kernel
theorem dX11_meanWait_74 : decode cX11_meanWait 74 = .ok (.ladd, 1) := by decide +kernel
theorem dX11_meanWait_75 : decode cX11_meanWait 75 = .ok (.lstore 5, 2) := by decide +kernel
theorem dX11_meanWait_77 : decode cX11_meanWait 77 = .ok (.iinc 7 1, 3) := by decide +kernel
theorem dX11_meanWait_80 : decode cX11_meanWait 80 = .ok (.goto (-23), 3) := by decide +kernel
theorem dX11_meanWait_83 : decode cX11_meanWait 83 = .ok (.lload_n 3, 1) := by decide +kernel
theorem dX11_meanWait_84 : decode cX11_meanWait 84 = .ok (.lconst 0, 1) := by decide +kernel
theorem dX11_meanWait_85 : decode cX11_meanWait 85 = .ok (.lcmp, 1) := by decide +kernel
theorem dX11_meanWait_86 : decode cX11_meanWait 86 = .ok (.ifCond .ne 6, 3) := by decide +kernel
theorem dX11_meanWait_89 : decode cX11_meanWait 89 = .ok (.iload_n 1, 1) := by decide +kernel
theorem dX11_meanWait_90 : decode cX11_meanWait 90 = .ok (.i2l, 1) := by decide +kernel
theorem dX11_meanWait_91 : decode cX11_meanWait 91 = .ok (.lreturn, 1) := by decide +kernel
theorem dX11_meanWait_92 : decode cX11_meanWait 92 = .ok (.lload_n 3, 1) := by decide +kernel
theorem dX11_meanWait_93 : decode cX11_meanWait 93 = .ok (.lload 5, 2) := by decide +kernel
theorem dX11_meanWait_95 : decode cX11_meanWait 95 = .ok (.invokestatic 352, 3) := by decide +kernel
theorem dX11_meanWait_98 : decode cX11_meanWait 98 = .ok (.lstore 7, 2) := by decide +kernel
theorem dX11_meanWait_100 : decode cX11_meanWait 100 = .ok (.iload_n 1, 1) := by decide +kernel
theorem dX11_meanWait_101 : decode cX11_meanWait 101 = .ok (.ifCond .ne 10, 3) := by decide +kernel
theorem dX11_meanWait_104 : decode cX11_meanWait 104 = .ok (.lload_n 3, 1) := by decide +kernel
theorem dX11_meanWait_105 : decode cX11_meanWait 105 = .ok (.lload 7, 2) := by decide +kernel
theorem dX11_meanWait_107 : decode cX11_meanWait 107 = .ok (.ldiv, 1) := by decide +kernel
theorem dX11_meanWait_108 : decode cX11_meanWait 108 = .ok (.goto 8, 3) := by decide +kernel
theorem dX11_meanWait_111 : decode cX11_meanWait 111 = .ok (.lload 5, 2) := by decide +kernel
theorem dX11_meanWait_113 : decode cX11_meanWait 113 = .ok (.lload 7, 2) := by decide +kernel
theorem dX11_meanWait_115 : decode cX11_meanWait 115 = .ok (.ldiv, 1) := by decide +kernel
theorem dX11_meanWait_116 : decode cX11_meanWait 116 = .ok (.lreturn, 1) := by decide +kernel
theorem dX11_turned_0 : decode cX11_turned 0 = .ok (.aload_n 0, 1) := by decide +kernel
theorem dX11_turned_1 : decode cX11_turned 1 = .ok (.iconst 0, 1) := by decide +kernel
theorem dX11_turned_2 : decode cX11_turned 2 = .ok (.putfield 104, 3) := by decide +kernel
theorem dX11_turned_5 : decode cX11_turned 5 = .ok (.iload_n 1, 1) := by decide +kernel
theorem dX11_turned_6 : decode cX11_turned 6 = .ok (.invokestatic 202, 3) := by decide +kernel
theorem dX11_turned_9 : decode cX11_turned 9 = .ok (.ifCond .eq 15, 3) := by decide +kernel
theorem dX11_turned_12 : decode cX11_turned 12 = .ok (.iload_n 2, 1) := by decide +kernel
theorem dX11_turned_13 : decode cX11_turned 13 = .ok (.invokestatic 202, 3) := by decide +kernel
theorem dX11_turned_16 : decode cX11_turned 16 = .ok (.ifCond .eq 8, 3) := by decide +kernel
theorem dX11_turned_19 : decode cX11_turned 19 = .ok (.iload_n 1, 1) := by decide +kernel
theorem dX11_turned_20 : decode cX11_turned 20 = .ok (.iload_n 2, 1) := by decide +kernel
theorem dX11_turned_21 : decode cX11_turned 21 = .ok (.if_icmp .ne 9, 3) := by decide +kernel
theorem dX11_turned_24 : decode cX11_turned 24 = .ok (.aload_n 0, 1) := by decide +kernel
theorem dX11_turned_25 : decode cX11_turned 25 = .ok (.iconst (-1), 1) := by decide +kernel
theorem dX11_turned_26 : decode cX11_turned 26 = .ok (.invokevirtual 153, 3) := by decide +kernel
theorem dX11_turned_29 : decode cX11_turned 29 = .ok (.ireturn, 1) := by decide +kernel
theorem dX11_turned_30 : decode cX11_turned 30 = .ok (.aload_n 0, 1) := by decide +kernel
theorem dX11_turned_31 : decode cX11_turned 31 = .ok (.getfield 50, 3) := by decide +kernel
theorem dX11_turned_34 : decode cX11_turned 34 = .ok (.bipush 8, 2) := by decide +kernel
theorem dX11_turned_36 : decode cX11_turned 36 = .ok (.iload_n 1, 1) := by decide +kernel
theorem dX11_turned_37 : decode cX11_turned 37 = .ok (.imul, 1) := by decide +kernel
theorem dX11_turned_38 : decode cX11_turned 38 = .ok (.iload_n 2, 1) := by decide +kernel
theorem dX11_turned_39 : decode cX11_turned 39 = .ok (.iadd, 1) := by decide +kernel
theorem dX11_turned_40 : decode cX11_turned 40 = .ok (.iaload, 1) := by decide +kernel
theorem dX11_turned_41 : decode cX11_turned 41 = .ok (.istore_n 3, 1) := by decide +kernel
theorem dX11_turned_42 : decode cX11_turned 42 = .ok (.iload_n 3, 1) := by decide +kernel
theorem dX11_turned_43 : decode cX11_turned 43 = .ok (.ifCond .ne 6, 3) := by decide +kernel
theorem dX11_turned_46 : decode cX11_turned 46 = .ok (.bipush (-9), 2) := by decide +kernel
theorem dX11_turned_48 : decode cX11_turned 48 = .ok (.ireturn, 1) := by decide +kernel
theorem dX11_turned_49 : decode cX11_turned 49 = .ok (.aload_n 0, 1) := by decide +kernel
theorem dX11_turned_50 : decode cX11_turned 50 = .ok (.iload_n 1, 1) := by decide +kernel
theorem dX11_turned_51 : decode cX11_turned 51 = .ok (.invokevirtual 338, 3) := by decide +kernel
theorem dX11_turned_54 : decode cX11_turned 54 = .ok (.aload_n 0, 1) := by decide +kernel
theorem dX11_turned_55 : decode cX11_turned 55 = .ok (.getfield 89, 3) := by decide +kernel
theorem dX11_turned_58 : decode cX11_turned 58 = .ok (.iload_n 2, 1) := by decide +kernel
theorem dX11_turned_59 : decode cX11_turned 59 = .ok (.iaload, 1) := by decide +kernel
theorem dX11_turned_60 : decode cX11_turned 60 = .ok (.istore 4, 2) := by decide +kernel
theorem dX11_turned_62 : decode cX11_turned 62 = .ok (.aload_n 0, 1) := by decide +kernel
theorem dX11_turned_63 : decode cX11_turned 63 = .ok (.iload_n 1, 1) := by decide +kernel
theorem dX11_turned_64 : decode cX11_turned 64 = .ok (.iload_n 2, 1) := by decide +kernel
theorem dX11_turned_65 : decode cX11_turned 65 = .ok (.iconst 0, 1) := by decide +kernel
theorem dX11_turned_66 : decode cX11_turned 66 = .ok (.invokevirtual 205, 3) := by decide +kernel
theorem dX11_turned_69 : decode cX11_turned 69 = .ok (.aload_n 0, 1) := by decide +kernel
theorem dX11_turned_70 : decode cX11_turned 70 = .ok (.iload_n 1, 1) := by decide +kernel
theorem dX11_turned_71 : decode cX11_turned 71 = .ok (.invokevirtual 338, 3) := by decide +kernel
theorem dX11_turned_74 : decode cX11_turned 74 = .ok (.aload_n 0, 1) := by decide +kernel
theorem dX11_turned_75 : decode cX11_turned 75 = .ok (.iload_n 1, 1) := by decide +kernel
theorem dX11_turned_76 : decode cX11_turned 76 = .ok (.iload_n 2, 1) := by decide +kernel
theorem dX11_turned_77 : decode cX11_turned 77 = .ok (.iload_n 3, 1) := by decide +kernel
theorem dX11_turned_78 : decode cX11_turned 78 = .ok (.invokevirtual 205, 3) := by decide +kernel
theorem dX11_turned_81 : decode cX11_turned 81 = .ok (.aload_n 0, 1) := by decide +kernel
theorem dX11_turned_82 : decode cX11_turned 82 = .ok (.getfield 89, 3) := by decide +kernel
theorem dX11_turned_85 : decode cX11_turned 85 = .ok (.iload_n 2, 1) := by decide +kernel
theorem dX11_turned_86 : decode cX11_turned 86 = .ok (.iaload, 1) := by decide +kernel
theorem dX11_turned_87 : decode cX11_turned 87 = .ok (.ldc_w 337, 3) := by decide +kernel
theorem dX11_turned_90 : decode cX11_turned 90 = .ok (.if_icmp .ge 15, 3) := by decide +kernel
theorem dX11_turned_93 : decode cX11_turned 93 = .ok (.aload_n 0, 1) := by decide +kernel
theorem dX11_turned_94 : decode cX11_turned 94 = .ok (.getfield 89, 3) := by decide +kernel
theorem dX11_turned_97 : decode cX11_turned 97 = .ok (.iload_n 2, 1) := by decide +kernel
theorem dX11_turned_98 : decode cX11_turned 98 = .ok (.iaload, 1) := by decide +kernel
theorem dX11_turned_99 : decode cX11_turned 99 = .ok (.iload 4, 2) := by decide +kernel
theorem dX11_turned_101 : decode cX11_turned 101 = .ok (.isub, 1) := by decide +kernel
theorem dX11_turned_102 : decode cX11_turned 102 = .ok (.goto 5, 3) := by decide +kernel
theorem dX11_turned_105 : decode cX11_turned 105 = .ok (.bipush (-9), 2) := by decide +kernel
theorem dX11_turned_107 : decode cX11_turned 107 = .ok (.ireturn, 1) := by decide +kernel
theorem dX11_crew_0 : decode cX11_crew 0 = .ok (.aload_n 0, 1) := by decide +kernel
theorem dX11_crew_1 : decode cX11_crew 1 = .ok (.iconst 0, 1) := by decide +kernel
theorem dX11_crew_2 : decode cX11_crew 2 = .ok (.putfield 104, 3) := by decide +kernel
theorem dX11_crew_5 : decode cX11_crew 5 = .ok (.iload_n 1, 1) := by decide +kernel
theorem dX11_crew_6 : decode cX11_crew 6 = .ok (.i2l, 1) := by decide +kernel
theorem dX11_crew_7 : decode cX11_crew 7 = .ok (.lconst 0, 1) := by decide +kernel
theorem dX11_crew_8 : decode cX11_crew 8 = .ok (.lconst 1, 1) := by decide +kernel
theorem dX11_crew_9 : decode cX11_crew 9 = .ok (.invokestatic 107, 3) := by decide +kernel
theorem dX11_crew_12 : decode cX11_crew 12 = .ok (.ifCond .ne 10, 3) := by decide +kernel
theorem dX11_crew_15 : decode cX11_crew 15 = .ok (.aload_n 0, 1) := by decide +kernel
theorem dX11_crew_16 : decode cX11_crew 16 = .ok (.bipush (-2), 2) := by decide +kernel
theorem dX11_crew_18 : decode cX11_crew 18 = .ok (.invokevirtual 153, 3) := by decide +kernel
theorem dX11_crew_21 : decode cX11_crew 21 = .ok (.ireturn, 1) := by decide +kernel
theorem dX11_crew_22 : decode cX11_crew 22 = .ok (.aload_n 0, 1) := by decide +kernel
theorem dX11_crew_23 : decode cX11_crew 23 = .ok (.getfield 26, 3) := by decide +kernel
theorem dX11_crew_26 : decode cX11_crew 26 = .ok (.istore_n 2, 1) := by decide +kernel
theorem dX11_crew_27 : decode cX11_crew 27 = .ok (.bipush (-9), 2) := by decide +kernel
theorem dX11_crew_29 : decode cX11_crew 29 = .ok (.istore_n 3, 1) := by decide +kernel
theorem dX11_crew_30 : decode cX11_crew 30 = .ok (.bipush (-9), 2) := by decide +kernel
theorem dX11_crew_32 : decode cX11_crew 32 = .ok (.istore 4, 2) := by decide +kernel
theorem dX11_crew_34 : decode cX11_crew 34 = .ok (.iconst 1, 1) := by decide +kernel
theorem dX11_crew_35 : decode cX11_crew 35 = .ok (.istore 5, 2) := by decide +kernel
theorem dX11_crew_37 : decode cX11_crew 37 = .ok (.iload 5, 2) := by decide +kernel
theorem dX11_crew_39 : decode cX11_crew 39 = .ok (.bipush 6, 2) := by decide +kernel
theorem dX11_crew_41 : decode cX11_crew 41 = .ok (.if_icmp .gt 78, 3) := by decide +kernel
theorem dX11_crew_44 : decode cX11_crew 44 = .ok (.aload_n 0, 1) := by decide +kernel
theorem dX11_crew_45 : decode cX11_crew 45 = .ok (.iload 5, 2) := by decide +kernel
theorem dX11_crew_47 : decode cX11_crew 47 = .ok (.putfield 26, 3) := by decide +kernel
theorem dX11_crew_50 : decode cX11_crew 50 = .ok (.aload_n 0, 1) := by decide +kernel
theorem dX11_crew_51 : decode cX11_crew 51 = .ok (.invokevirtual 291, 3) := by decide +kernel
theorem dX11_crew_54 : decode cX11_crew 54 = .ok (.aload_n 0, 1) := by decide +kernel
theorem dX11_crew_55 : decode cX11_crew 55 = .ok (.invokevirtual 322, 3) := by decide +kernel
theorem dX11_crew_58 : decode cX11_crew 58 = .ok (.aload_n 0, 1) := by decide +kernel
theorem dX11_crew_59 : decode cX11_crew 59 = .ok (.getfield 316, 3) := by decide +kernel
theorem dX11_crew_62 : decode cX11_crew 62 = .ok (.ifCond .lt 20, 3) := by decide +kernel
theorem dX11_crew_65 : decode cX11_crew 65 = .ok (.iload_n 3, 1) := by decide +kernel
theorem dX11_crew_66 : decode cX11_crew 66 = .ok (.ifCond .lt 12, 3) := by decide +kernel
theorem dX11_crew_69 : decode cX11_crew 69 = .ok (.aload_n 0, 1) := by decide +kernel
theorem dX11_crew_70 : decode cX11_crew 70 = .ok (.getfield 316, 3) := by decide +kernel
theorem dX11_crew_73 : decode cX11_crew 73 = .ok (.iload 4, 2) := by decide +kernel
theorem dX11_crew_75 : decode cX11_crew 75 = .ok (.if_icmp .ge 7, 3) := by decide +kernel
theorem dX11_crew_78 : decode cX11_crew 78 = .ok (.iconst 1, 1) := by decide +kernel
theorem dX11_crew_79 : decode cX11_crew 79 = .ok (.goto 4, 3) := by decide +kernel
theorem dX11_crew_82 : decode cX11_crew 82 = .ok (.iconst 0, 1) := by decide +kernel
theorem dX11_crew_83 : decode cX11_crew 83 = .ok (.istore 6, 2) := by decide +kernel
theorem dX11_crew_85 : decode cX11_crew 85 = .ok (.iload 6, 2) := by decide +kernel
theorem dX11_crew_87 : decode cX11_crew 87 = .ok (.ifCond .eq 8, 3) := by decide +kernel
theorem dX11_crew_90 : decode cX11_crew 90 = .ok (.iload 5, 2) := by decide +kernel
theorem dX11_crew_92 : decode cX11_crew 92 = .ok (.goto 4, 3) := by decide +kernel
theorem dX11_crew_95 : decode cX11_crew 95 = .ok (.iload_n 3, 1) := by decide +kernel
theorem dX11_crew_96 : decode cX11_crew 96 = .ok (.istore_n 3, 1) := by decide +kernel
theorem dX11_crew_97 : decode cX11_crew 97 = .ok (.iload 6, 2) := by decide +kernel
theorem dX11_crew_99 : decode cX11_crew 99 = .ok (.ifCond .eq 10, 3) := by decide +kernel
theorem dX11_crew_102 : decode cX11_crew 102 = .ok (.aload_n 0, 1) := by decide +kernel
theorem dX11_crew_103 : decode cX11_crew 103 = .ok (.getfield 316, 3) := by decide +kernel
theorem dX11_crew_106 : decode cX11_crew 106 = .ok (.goto 5, 3) := by decide +kernel
theorem dX11_crew_109 : decode cX11_crew 109 = .ok (.iload 4, 2) := by decide +kernel
theorem dX11_crew_111 : decode cX11_crew 111 = .ok (.istore 4, 2) := by decide +kernel
theorem dX11_crew_113 : decode cX11_crew 113 = .ok (.iinc 5 1, 3) := by decide +kernel
theorem dX11_crew_116 : decode cX11_crew 116 = .ok (.goto (-79), 3) := by decide +kernel
theorem dX11_crew_119 : decode cX11_crew 119 = .ok (.aload_n 0, 1) := by decide +kernel
theorem dX11_crew_120 : decode cX11_crew 120 = .ok (.iload_n 2, 1) := by decide +kernel
theorem dX11_crew_121 : decode cX11_crew 121 = .ok (.putfield 26, 3) := by decide +kernel
theorem dX11_crew_124 : decode cX11_crew 124 = .ok (.iload_n 1, 1) := by decide +kernel
theorem dX11_crew_125 : decode cX11_crew 125 = .ok (.ifCond .ne 7, 3) := by decide +kernel
theorem dX11_crew_128 : decode cX11_crew 128 = .ok (.iload_n 3, 1) := by decide +kernel
theorem dX11_crew_129 : decode cX11_crew 129 = .ok (.goto 5, 3) := by decide +kernel
theorem dX11_crew_132 : decode cX11_crew 132 = .ok (.iload 4, 2) := by decide +kernel
theorem dX11_crew_134 : decode cX11_crew 134 = .ok (.ireturn, 1) := by decide +kernel
theorem dX11_whichLag_0 : decode cX11_whichLag 0 = .ok (.aload_n 0, 1) := by decide +kernel
theorem dX11_whichLag_1 : decode cX11_whichLag 1 = .ok (.iconst 0, 1) := by decide +kernel
theorem dX11_whichLag_2 : decode cX11_whichLag 2 = .ok (.putfield 104, 3) := by decide +kernel
theorem dX11_whichLag_5 : decode cX11_whichLag 5 = .ok (.iconst 0, 1) := by decide +kernel
theorem dX11_whichLag_6 : decode cX11_whichLag 6 = .ok (.istore_n 1, 1) := by decide +kernel
theorem dX11_whichLag_7 : decode cX11_whichLag 7 = .ok (.iconst 0, 1) := by decide +kernel
theorem dX11_whichLag_8 : decode cX11_whichLag 8 = .ok (.istore_n 2, 1) := by decide +kernel
theorem dX11_whichLag_9 : decode cX11_whichLag 9 = .ok (.iload_n 2, 1) := by decide +kernel
theorem dX11_whichLag_10 : decode cX11_whichLag 10 = .ok (.iconst 5, 1) := by decide +kernel
theorem dX11_whichLag_11 : decode cX11_whichLag 11 = .ok (.if_icmp .gt 84, 3) := by decide +kernel
theorem dX11_whichLag_14 : decode cX11_whichLag 14 = .ok (.aload_n 0, 1) := by decide +kernel
theorem dX11_whichLag_15 : decode cX11_whichLag 15 = .ok (.invokevirtual 291, 3) := by decide +kernel
theorem dX11_whichLag_18 : decode cX11_whichLag 18 = .ok (.aload_n 0, 1) := by decide +kernel
theorem dX11_whichLag_19 : decode cX11_whichLag 19 = .ok (.iload_n 2, 1) := by decide +kernel
theorem dX11_whichLag_20 : decode cX11_whichLag 20 = .ok (.invokevirtual 196, 3) := by decide +kernel
theorem dX11_whichLag_23 : decode cX11_whichLag 23 = .ok (.iconst 1, 1) := by decide +kernel
theorem dX11_whichLag_24 : decode cX11_whichLag 24 = .ok (.istore_n 3, 1) := by decide +kernel
theorem dX11_whichLag_25 : decode cX11_whichLag 25 = .ok (.iconst 0, 1) := by decide +kernel
theorem dX11_whichLag_26 : decode cX11_whichLag 26 = .ok (.istore 4, 2) := by decide +kernel
theorem dX11_whichLag_28 : decode cX11_whichLag 28 = .ok (.iload 4, 2) := by decide +kernel
theorem dX11_whichLag_30 : decode cX11_whichLag 30 = .ok (.aload_n 0, 1) := by decide +kernel
theorem dX11_whichLag_31 : decode cX11_whichLag 31 = .ok (.getfield 344, 3) := by decide +kernel
theorem dX11_whichLag_34 : decode cX11_whichLag 34 = .ok (.if_icmp .ge 37, 3) := by decide +kernel
theorem dX11_whichLag_37 : decode cX11_whichLag 37 = .ok (.aload_n 0, 1) := by decide +kernel
theorem dX11_whichLag_38 : decode cX11_whichLag 38 = .ok (.invokevirtual 276, 3) := by decide +kernel
theorem dX11_whichLag_41 : decode cX11_whichLag 41 = .ok (.iload_n 3, 1) := by decide +kernel
theorem dX11_whichLag_42 : decode cX11_whichLag 42 = .ok (.ifCond .eq 21, 3) := by decide +kernel
theorem dX11_whichLag_45 : decode cX11_whichLag 45 = .ok (.aload_n 0, 1) := by decide +kernel
theorem dX11_whichLag_46 : decode cX11_whichLag 46 = .ok (.getfield 127, 3) := by decide +kernel
theorem dX11_whichLag_49 : decode cX11_whichLag 49 = .ok (.aload_n 0, 1) := by decide +kernel
theorem dX11_whichLag_50 : decode cX11_whichLag 50 = .ok (.getfield 101, 3) := by decide +kernel
theorem dX11_whichLag_53 : decode cX11_whichLag 53 = .ok (.iload 4, 2) := by decide +kernel
theorem dX11_whichLag_55 : decode cX11_whichLag 55 = .ok (.iaload, 1) := by decide +kernel
theorem dX11_whichLag_56 : decode cX11_whichLag 56 = .ok (.if_icmp .ne 7, 3) := by decide +kernel
theorem dX11_whichLag_59 : decode cX11_whichLag 59 = .ok (.iconst 1, 1) := by decide +kernel
theorem dX11_whichLag_60 : decode cX11_whichLag 60 = .ok (.goto 4, 3) := by decide +kernel
theorem dX11_whichLag_63 : decode cX11_whichLag 63 = .ok (.iconst 0, 1) := by decide +kernel
theorem dX11_whichLag_64 : decode cX11_whichLag 64 = .ok (.istore_n 3, 1) := by decide +kernel
theorem dX11_whichLag_65 : decode cX11_whichLag 65 = .ok (.iinc 4 1, 3) := by decide +kernel
theorem dX11_whichLag_68 : decode cX11_whichLag 68 = .ok (.goto (-40), 3) := by decide +kernel
theorem dX11_whichLag_71 : decode cX11_whichLag 71 = .ok (.iload_n 1, 1) := by decide +kernel
theorem dX11_whichLag_72 : decode cX11_whichLag 72 = .ok (.iload_n 3, 1) := by decide +kernel
theorem dX11_whichLag_73 : decode cX11_whichLag 73 = .ok (.ifCond .eq 9, 3) := by decide +kernel
theorem dX11_whichLag_76 : decode cX11_whichLag 76 = .ok (.iconst 1, 1) := by decide +kernel
theorem dX11_whichLag_77 : decode cX11_whichLag 77 = .ok (.iload_n 2, 1) := by decide +kernel
theorem dX11_whichLag_78 : decode cX11_whichLag 78 = .ok (.ishl, 1) := by decide +kernel
theorem dX11_whichLag_79 : decode cX11_whichLag 79 = .ok (.goto 4, 3) := by decide +kernel
theorem dX11_whichLag_82 : decode cX11_whichLag 82 = .ok (.iconst 0, 1) := by decide +kernel
theorem dX11_whichLag_83 : decode cX11_whichLag 83 = .ok (.ior, 1) := by decide +kernel
theorem dX11_whichLag_84 : decode cX11_whichLag 84 = .ok (.istore_n 1, 1) := by decide +kernel
theorem dX11_whichLag_85 : decode cX11_whichLag 85 = .ok (.aload_n 0, 1) := by decide +kernel
theorem dX11_whichLag_86 : decode cX11_whichLag 86 = .ok (.invokevirtual 270, 3) := by decide +kernel
theorem dX11_whichLag_89 : decode cX11_whichLag 89 = .ok (.iinc 2 1, 3) := by decide +kernel
theorem dX11_whichLag_92 : decode cX11_whichLag 92 = .ok (.goto (-83), 3) := by decide +kernel
theorem dX11_whichLag_95 : decode cX11_whichLag 95 = .ok (.iload_n 1, 1) := by decide +kernel
theorem dX11_whichLag_96 : decode cX11_whichLag 96 = .ok (.ireturn, 1) := by decide +kernel
theorem dX11_comesTo_0 : decode cX11_comesTo 0 = .ok (.aload_n 0, 1) := by decide +kernel
theorem dX11_comesTo_1 : decode cX11_comesTo 1 = .ok (.iload_n 2, 1) := by decide +kernel
theorem dX11_comesTo_2 : decode cX11_comesTo 2 = .ok (.iload_n 3, 1) := by decide +kernel
theorem dX11_comesTo_3 : decode cX11_comesTo 3 = .ok (.invokevirtual 294, 3) := by decide +kernel
theorem dX11_comesTo_6 : decode cX11_comesTo 6 = .ok (.aload_n 0, 1) := by decide +kernel
theorem dX11_comesTo_7 : decode cX11_comesTo 7 = .ok (.getfield 279, 3) := by decide +kernel
theorem dX11_comesTo_10 : decode cX11_comesTo 10 = .ok (.ifCond .eq 15, 3) := by decide +kernel
theorem dX11_comesTo_13 : decode cX11_comesTo 13 = .ok (.aload_n 0, 1) := by decide +kernel
theorem dX11_comesTo_14 : decode cX11_comesTo 14 = .ok (.invokevirtual 285, 3) := by decide +kernel
theorem dX11_comesTo_17 : decode cX11_comesTo 17 = .ok (.iload_n 1, 1) := by decide +kernel
theorem dX11_comesTo_18 : decode cX11_comesTo 18 = .ok (.if_icmp .ne 7, 3) := by decide +kernel
theorem dX11_comesTo_21 : decode cX11_comesTo 21 = .ok (.iconst 1, 1) := by decide +kernel
theorem dX11_comesTo_22 : decode cX11_comesTo 22 = .ok (.goto 4, 3) := by decide +kernel
theorem dX11_comesTo_25 : decode cX11_comesTo 25 = .ok (.iconst 0, 1) := by decide +kernel
theorem dX11_comesTo_26 : decode cX11_comesTo 26 = .ok (.ireturn, 1) := by decide +kernel
theorem dX11_windFor_0 : decode cX11_windFor 0 = .ok (.aload_n 0, 1) := by decide +kernel
theorem dX11_windFor_1 : decode cX11_windFor 1 = .ok (.iconst 0, 1) := by decide +kernel
theorem dX11_windFor_2 : decode cX11_windFor 2 = .ok (.putfield 104, 3) := by decide +kernel
theorem dX11_windFor_5 : decode cX11_windFor 5 = .ok (.iconst 0, 1) := by decide +kernel
theorem dX11_windFor_6 : decode cX11_windFor 6 = .ok (.istore 5, 2) := by decide +kernel
theorem dX11_windFor_8 : decode cX11_windFor 8 = .ok (.aload_n 0, 1) := by decide +kernel
theorem dX11_windFor_9 : decode cX11_windFor 9 = .ok (.iload_n 1, 1) := by decide +kernel
theorem dX11_windFor_10 : decode cX11_windFor 10 = .ok (.invokevirtual 250, 3) := by decide +kernel
theorem dX11_windFor_13 : decode cX11_windFor 13 = .ok (.ifCond .ne 9, 3) := by decide +kernel
theorem dX11_windFor_16 : decode cX11_windFor 16 = .ok (.iconst (-1), 1) := by decide +kernel
theorem dX11_windFor_17 : decode cX11_windFor 17 = .ok (.istore 5, 2) := by decide +kernel
theorem dX11_windFor_19 : decode cX11_windFor 19 = .ok (.goto 33, 3) := by decide +kernel
theorem dX11_windFor_22 : decode cX11_windFor 22 = .ok (.iload_n 2, 1) := by decide +kernel
theorem dX11_windFor_23 : decode cX11_windFor 23 = .ok (.ifCond .lt 7, 3) := by decide +kernel
theorem dX11_windFor_26 : decode cX11_windFor 26 = .ok (.iload_n 3, 1) := by decide +kernel
theorem dX11_windFor_27 : decode cX11_windFor 27 = .ok (.ifCond .ge 10, 3) := by decide +kernel
theorem dX11_windFor_30 : decode cX11_windFor 30 = .ok (.bipush (-4), 2) := by decide +kernel
theorem dX11_windFor_32 : decode cX11_windFor 32 = .ok (.istore 5, 2) := by decide +kernel
theorem dX11_windFor_34 : decode cX11_windFor 34 = .ok (.goto 18, 3) := by decide +kernel
theorem dX11_windFor_37 : decode cX11_windFor 37 = .ok (.iload_n 2, 1) := by decide +kernel
theorem dX11_windFor_38 : decode cX11_windFor 38 = .ok (.bipush 30, 2) := by decide +kernel
theorem dX11_windFor_40 : decode cX11_windFor 40 = .ok (.if_icmp .gt 8, 3) := by decide +kernel
theorem dX11_windFor_43 : decode cX11_windFor 43 = .ok (.iload_n 3, 1) := by decide +kernel
theorem dX11_windFor_44 : decode cX11_windFor 44 = .ok (.iconst 5, 1) := by decide +kernel
theorem dX11_windFor_45 : decode cX11_windFor 45 = .ok (.if_icmp .le 7, 3) := by decide +kernel
theorem dX11_windFor_48 : decode cX11_windFor 48 = .ok (.bipush (-6), 2) := by decide +kernel
theorem dX11_windFor_50 : decode cX11_windFor 50 = .ok (.istore 5, 2) := by decide +kernel
theorem dX11_windFor_52 : decode cX11_windFor 52 = .ok (.iload 5, 2) := by decide +kernel
theorem dX11_windFor_54 : decode cX11_windFor 54 = .ok (.iload 4, 2) := by decide +kernel
theorem dX11_windFor_56 : decode cX11_windFor 56 = .ok (.iconst 1, 1) := by decide +kernel
theorem dX11_windFor_57 : decode cX11_windFor 57 = .ok (.invokestatic 288, 3) := by decide +kernel
theorem dX11_windFor_60 : decode cX11_windFor 60 = .ok (.istore 5, 2) := by decide +kernel
theorem dX11_windFor_62 : decode cX11_windFor 62 = .ok (.iload 5, 2) := by decide +kernel
theorem dX11_windFor_64 : decode cX11_windFor 64 = .ok (.ifCond .ge 10, 3) := by decide +kernel
theorem dX11_windFor_67 : decode cX11_windFor 67 = .ok (.aload_n 0, 1) := by decide +kernel
theorem dX11_windFor_68 : decode cX11_windFor 68 = .ok (.iload 5, 2) := by decide +kernel
theorem dX11_windFor_70 : decode cX11_windFor 70 = .ok (.invokevirtual 153, 3) := by decide +kernel
theorem dX11_windFor_73 : decode cX11_windFor 73 = .ok (.ireturn, 1) := by decide +kernel
theorem dX11_windFor_74 : decode cX11_windFor 74 = .ok (.aload_n 0, 1) := by decide +kernel
theorem dX11_windFor_75 : decode cX11_windFor 75 = .ok (.getfield 127, 3) := by decide +kernel
theorem dX11_windFor_78 : decode cX11_windFor 78 = .ok (.iconst 5, 1) := by decide +kernel
theorem dX11_windFor_79 : decode cX11_windFor 79 = .ok (.idiv, 1) := by decide +kernel
theorem dX11_windFor_80 : decode cX11_windFor 80 = .ok (.istore 6, 2) := by decide +kernel
theorem dX11_windFor_82 : decode cX11_windFor 82 = .ok (.aload_n 0, 1) := by decide +kernel
theorem dX11_windFor_83 : decode cX11_windFor 83 = .ok (.getfield 7, 3) := by decide +kernel
theorem dX11_windFor_86 : decode cX11_windFor 86 = .ok (.iload 6, 2) := by decide +kernel
theorem dX11_windFor_88 : decode cX11_windFor 88 = .ok (.iaload, 1) := by decide +kernel
theorem dX11_windFor_89 : decode cX11_windFor 89 = .ok (.istore 7, 2) := by decide +kernel
theorem dX11_windFor_91 : decode cX11_windFor 91 = .ok (.iconst 0, 1) := by decide +kernel
theorem dX11_windFor_92 : decode cX11_windFor 92 = .ok (.istore 8, 2) := by decide +kernel
theorem dX11_windFor_94 : decode cX11_windFor 94 = .ok (.bipush (-9), 2) := by decide +kernel
theorem dX11_windFor_96 : decode cX11_windFor 96 = .ok (.istore 9, 2) := by decide +kernel
theorem dX11_windFor_98 : decode cX11_windFor 98 = .ok (.aload_n 0, 1) := by decide +kernel
theorem dX11_windFor_99 : decode cX11_windFor 99 = .ok (.invokevirtual 291, 3) := by decide +kernel
theorem dX11_windFor_102 : decode cX11_windFor 102 = .ok (.bipush (-9), 2) := by decide +kernel
theorem dX11_windFor_104 : decode cX11_windFor 104 = .ok (.istore 10, 2) := by decide +kernel
theorem dX11_windFor_106 : decode cX11_windFor 106 = .ok (.iload 10, 2) := by decide +kernel
theorem dX11_windFor_108 : decode cX11_windFor 108 = .ok (.bipush 9, 2) := by decide +kernel
theorem dX11_windFor_110 : decode cX11_windFor 110 = .ok (.if_icmp .gt 48, 3) := by decide +kernel
theorem dX11_windFor_113 : decode cX11_windFor 113 = .ok (.aload_n 0, 1) := by decide +kernel
theorem dX11_windFor_114 : decode cX11_windFor 114 = .ok (.getfield 7, 3) := by decide +kernel
theorem dX11_windFor_117 : decode cX11_windFor 117 = .ok (.iload 6, 2) := by decide +kernel
theorem dX11_windFor_119 : decode cX11_windFor 119 = .ok (.iload 10, 2) := by decide +kernel
theorem dX11_windFor_121 : decode cX11_windFor 121 = .ok (.iastore, 1) := by decide +kernel
theorem dX11_windFor_122 : decode cX11_windFor 122 = .ok (.aload_n 0, 1) := by decide +kernel
theorem dX11_windFor_123 : decode cX11_windFor 123 = .ok (.iload_n 1, 1) := by decide +kernel
theorem dX11_windFor_124 : decode cX11_windFor 124 = .ok (.iload_n 2, 1) := by decide +kernel
theorem dX11_windFor_125 : decode cX11_windFor 125 = .ok (.iload_n 3, 1) := by decide +kernel
theorem dX11_windFor_126 : decode cX11_windFor 126 = .ok (.invokevirtual 356, 3) := by decide +kernel
theorem dX11_windFor_129 : decode cX11_windFor 129 = .ok (.ifCond .eq 23, 3) := by decide +kernel
theorem dX11_windFor_132 : decode cX11_windFor 132 = .ok (.iinc 8 1, 3) := by decide +kernel
theorem dX11_windFor_135 : decode cX11_windFor 135 = .ok (.iload 9, 2) := by decide +kernel
theorem dX11_windFor_137 : decode cX11_windFor 137 = .ok (.ifCond .ge 11, 3) := by decide +kernel
theorem dX11_windFor_140 : decode cX11_windFor 140 = .ok (.iload 10, 2) := by decide +kernel
theorem dX11_windFor_142 : decode cX11_windFor 142 = .ok (.bipush 9, 2) := by decide +kernel
theorem dX11_windFor_144 : decode cX11_windFor 144 = .ok (.iadd, 1) := by decide +kernel
theorem dX11_windFor_145 : decode cX11_windFor 145 = .ok (.goto 5, 3) := by decide +kernel
theorem dX11_windFor_148 : decode cX11_windFor 148 = .ok (.iload 9, 2) := by decide +kernel
theorem dX11_windFor_150 : decode cX11_windFor 150 = .ok (.istore 9, 2) := by decide +kernel
theorem dX11_windFor_152 : decode cX11_windFor 152 = .ok (.iinc 10 1, 3) := by decide +kernel
theorem dX11_windFor_155 : decode cX11_windFor 155 = .ok (.goto (-49), 3) := by decide +kernel
theorem dX11_windFor_158 : decode cX11_windFor 158 = .ok (.aload_n 0, 1) := by decide +kernel
theorem dX11_windFor_159 : decode cX11_windFor 159 = .ok (.getfield 7, 3) := by decide +kernel
theorem dX11_windFor_162 : decode cX11_windFor 162 = .ok (.iload 6, 2) := by decide +kernel
theorem dX11_windFor_164 : decode cX11_windFor 164 = .ok (.iload 7, 2) := by decide +kernel
theorem dX11_windFor_166 : decode cX11_windFor 166 = .ok (.iastore, 1) := by decide +kernel
theorem dX11_windFor_167 : decode cX11_windFor 167 = .ok (.aload_n 0, 1) := by decide +kernel
theorem dX11_windFor_168 : decode cX11_windFor 168 = .ok (.invokevirtual 270, 3) := by decide +kernel
theorem dX11_windFor_171 : decode cX11_windFor 171 = .ok (.iload 4, 2) := by decide +kernel
theorem dX11_windFor_173 : decode cX11_windFor 173 = .ok (.ifCond .ne 8, 3) := by decide +kernel
theorem dX11_windFor_176 : decode cX11_windFor 176 = .ok (.iload 8, 2) := by decide +kernel
theorem dX11_windFor_178 : decode cX11_windFor 178 = .ok (.goto 5, 3) := by decide +kernel
theorem dX11_windFor_181 : decode cX11_windFor 181 = .ok (.iload 9, 2) := by decide +kernel
theorem dX11_windFor_183 : decode cX11_windFor 183 = .ok (.ireturn, 1) := by decide +kernel
theorem dX11_span_0 : decode cX11_span 0 = .ok (.aload_n 0, 1) := by decide +kernel
theorem dX11_span_1 : decode cX11_span 1 = .ok (.iconst 0, 1) := by decide +kernel
theorem dX11_span_2 : decode cX11_span 2 = .ok (.putfield 104, 3) := by decide +kernel
theorem dX11_span_5 : decode cX11_span 5 = .ok (.aload_n 0, 1) := by decide +kernel
theorem dX11_span_6 : decode cX11_span 6 = .ok (.iload_n 1, 1) := by decide +kernel
theorem dX11_span_7 : decode cX11_span 7 = .ok (.invokevirtual 250, 3) := by decide +kernel
theorem dX11_span_10 : decode cX11_span 10 = .ok (.ifCond .eq 12, 3) := by decide +kernel
theorem dX11_span_13 : decode cX11_span 13 = .ok (.iload_n 2, 1) := by decide +kernel
theorem dX11_span_14 : decode cX11_span 14 = .ok (.iconst 0, 1) := by decide +kernel
theorem dX11_span_15 : decode cX11_span 15 = .ok (.iconst 5, 1) := by decide +kernel
theorem dX11_span_16 : decode cX11_span 16 = .ok (.invokestatic 255, 3) := by decide +kernel
theorem dX11_span_19 : decode cX11_span 19 = .ok (.goto 4, 3) := by decide +kernel
theorem dX11_span_22 : decode cX11_span 22 = .ok (.iconst (-1), 1) := by decide +kernel
theorem dX11_span_23 : decode cX11_span 23 = .ok (.iload_n 3, 1) := by decide +kernel
theorem dX11_span_24 : decode cX11_span 24 = .ok (.iconst 1, 1) := by decide +kernel
theorem dX11_span_25 : decode cX11_span 25 = .ok (.invokestatic 288, 3) := by decide +kernel
theorem dX11_span_28 : decode cX11_span 28 = .ok (.istore 4, 2) := by decide +kernel
theorem dX11_span_30 : decode cX11_span 30 = .ok (.iload 4, 2) := by decide +kernel
theorem dX11_span_32 : decode cX11_span 32 = .ok (.ifCond .ge 10, 3) := by decide +kernel
theorem dX11_span_35 : decode cX11_span 35 = .ok (.aload_n 0, 1) := by decide +kernel
theorem dX11_span_36 : decode cX11_span 36 = .ok (.iload 4, 2) := by decide +kernel
theorem dX11_span_38 : decode cX11_span 38 = .ok (.invokevirtual 153, 3) := by decide +kernel
theorem dX11_span_41 : decode cX11_span 41 = .ok (.ireturn, 1) := by decide +kernel
theorem dX11_span_42 : decode cX11_span 42 = .ok (.bipush (-9), 2) := by decide +kernel
theorem dX11_span_44 : decode cX11_span 44 = .ok (.istore 5, 2) := by decide +kernel
theorem dX11_span_46 : decode cX11_span 46 = .ok (.bipush (-9), 2) := by decide +kernel
theorem dX11_span_48 : decode cX11_span 48 = .ok (.istore 6, 2) := by decide +kernel
theorem dX11_span_50 : decode cX11_span 50 = .ok (.aload_n 0, 1) := by decide +kernel
theorem dX11_span_51 : decode cX11_span 51 = .ok (.invokevirtual 291, 3) := by decide +kernel
theorem dX11_span_54 : decode cX11_span 54 = .ok (.iconst 0, 1) := by decide +kernel
theorem dX11_span_55 : decode cX11_span 55 = .ok (.istore 7, 2) := by decide +kernel
theorem dX11_span_57 : decode cX11_span 57 = .ok (.iload 7, 2) := by decide +kernel
theorem dX11_span_59 : decode cX11_span 59 = .ok (.bipush 30, 2) := by decide +kernel
theorem dX11_span_61 : decode cX11_span 61 = .ok (.if_icmp .gt 38, 3) := by decide +kernel
theorem dX11_span_64 : decode cX11_span 64 = .ok (.aload_n 0, 1) := by decide +kernel
theorem dX11_span_65 : decode cX11_span 65 = .ok (.iload_n 1, 1) := by decide +kernel
theorem dX11_span_66 : decode cX11_span 66 = .ok (.iload 7, 2) := by decide +kernel
theorem dX11_span_68 : decode cX11_span 68 = .ok (.iload_n 2, 1) := by decide +kernel
theorem dX11_span_69 : decode cX11_span 69 = .ok (.invokevirtual 356, 3) := by decide +kernel
theorem dX11_span_72 : decode cX11_span 72 = .ok (.ifCond .eq 21, 3) := by decide +kernel
theorem dX11_span_75 : decode cX11_span 75 = .ok (.iload 5, 2) := by decide +kernel
theorem dX11_span_77 : decode cX11_span 77 = .ok (.ifCond .ge 8, 3) := by decide +kernel
theorem dX11_span_80 : decode cX11_span 80 = .ok (.iload 7, 2) := by decide +kernel
theorem dX11_span_82 : decode cX11_span 82 = .ok (.goto 5, 3) := by decide +kernel
theorem dX11_span_85 : decode cX11_span 85 = .ok (.iload 5, 2) := by decide +kernel
theorem dX11_span_87 : decode cX11_span 87 = .ok (.istore 5, 2) := by decide +kernel
theorem dX11_span_89 : decode cX11_span 89 = .ok (.iload 7, 2) := by decide +kernel
theorem dX11_span_91 : decode cX11_span 91 = .ok (.istore 6, 2) := by decide +kernel
theorem dX11_span_93 : decode cX11_span 93 = .ok (.iinc 7 1, 3) := by decide +kernel
theorem dX11_span_96 : decode cX11_span 96 = .ok (.goto (-39), 3) := by decide +kernel
theorem dX11_span_99 : decode cX11_span 99 = .ok (.aload_n 0, 1) := by decide +kernel
theorem dX11_span_100 : decode cX11_span 100 = .ok (.invokevirtual 270, 3) := by decide +kernel
theorem dX11_span_103 : decode cX11_span 103 = .ok (.iload_n 3, 1) := by decide +kernel
theorem dX11_span_104 : decode cX11_span 104 = .ok (.ifCond .ne 8, 3) := by decide +kernel
theorem dX11_span_107 : decode cX11_span 107 = .ok (.iload 5, 2) := by decide +kernel
theorem dX11_span_109 : decode cX11_span 109 = .ok (.goto 5, 3) := by decide +kernel
theorem dX11_span_112 : decode cX11_span 112 = .ok (.iload 6, 2) := by decide +kernel
theorem dX11_span_114 : decode cX11_span 114 = .ok (.ireturn, 1) := by decide +kernel
theorem dX11_flown_0 : decode cX11_flown 0 = .ok (.aload_n 0, 1) := by decide +kernel
theorem dX11_flown_1 : decode cX11_flown 1 = .ok (.iconst 0, 1) := by decide +kernel
theorem dX11_flown_2 : decode cX11_flown 2 = .ok (.putfield 104, 3) := by decide +kernel
theorem dX11_flown_5 : decode cX11_flown 5 = .ok (.iload_n 1, 1) := by decide +kernel
theorem dX11_flown_6 : decode cX11_flown 6 = .ok (.i2l, 1) := by decide +kernel
theorem dX11_flown_7 : decode cX11_flown 7 = .ok (.lconst 0, 1) := by decide +kernel
theorem dX11_flown_8 : decode cX11_flown 8 = .ok (.ldc2_w 253, 3) := by decide +kernel
theorem dX11_flown_11 : decode cX11_flown 11 = .ok (.invokestatic 107, 3) := by decide +kernel
theorem dX11_flown_14 : decode cX11_flown 14 = .ok (.ifCond .ne 10, 3) := by decide +kernel
theorem dX11_flown_17 : decode cX11_flown 17 = .ok (.aload_n 0, 1) := by decide +kernel
theorem dX11_flown_18 : decode cX11_flown 18 = .ok (.bipush (-2), 2) := by decide +kernel
theorem dX11_flown_20 : decode cX11_flown 20 = .ok (.invokevirtual 153, 3) := by decide +kernel
theorem dX11_flown_23 : decode cX11_flown 23 = .ok (.ireturn, 1) := by decide +kernel
theorem dX11_flown_24 : decode cX11_flown 24 = .ok (.aload_n 0, 1) := by decide +kernel
theorem dX11_flown_25 : decode cX11_flown 25 = .ok (.invokevirtual 291, 3) := by decide +kernel
theorem dX11_flown_28 : decode cX11_flown 28 = .ok (.iconst 0, 1) := by decide +kernel
theorem dX11_flown_29 : decode cX11_flown 29 = .ok (.istore_n 2, 1) := by decide +kernel
theorem dX11_flown_30 : decode cX11_flown 30 = .ok (.iload_n 2, 1) := by decide +kernel
theorem dX11_flown_31 : decode cX11_flown 31 = .ok (.aload_n 0, 1) := by decide +kernel
theorem dX11_flown_32 : decode cX11_flown 32 = .ok (.getfield 344, 3) := by decide +kernel
theorem dX11_flown_35 : decode cX11_flown 35 = .ok (.if_icmp .ge 39, 3) := by decide +kernel
theorem dX11_flown_38 : decode cX11_flown 38 = .ok (.aload_n 0, 1) := by decide +kernel
theorem dX11_flown_39 : decode cX11_flown 39 = .ok (.getfield 101, 3) := by decide +kernel
theorem dX11_flown_42 : decode cX11_flown 42 = .ok (.iload_n 2, 1) := by decide +kernel
theorem dX11_flown_43 : decode cX11_flown 43 = .ok (.iaload, 1) := by decide +kernel
theorem dX11_flown_44 : decode cX11_flown 44 = .ok (.iconst 3, 1) := by decide +kernel
theorem dX11_flown_45 : decode cX11_flown 45 = .ok (.irem, 1) := by decide +kernel
theorem dX11_flown_46 : decode cX11_flown 46 = .ok (.istore_n 3, 1) := by decide +kernel
theorem dX11_flown_47 : decode cX11_flown 47 = .ok (.aload_n 0, 1) := by decide +kernel
theorem dX11_flown_48 : decode cX11_flown 48 = .ok (.iload_n 3, 1) := by decide +kernel
theorem dX11_flown_49 : decode cX11_flown 49 = .ok (.iconst 1, 1) := by decide +kernel
theorem dX11_flown_50 : decode cX11_flown 50 = .ok (.if_icmp .ne 14, 3) := by decide +kernel
theorem dX11_flown_53 : decode cX11_flown 53 = .ok (.aload_n 0, 1) := by decide +kernel
theorem dX11_flown_54 : decode cX11_flown 54 = .ok (.getfield 23, 3) := by decide +kernel
theorem dX11_flown_57 : decode cX11_flown 57 = .ok (.ifCond .ne 7, 3) := by decide +kernel
theorem dX11_flown_60 : decode cX11_flown 60 = .ok (.iconst 0, 1) := by decide +kernel
theorem dX11_flown_61 : decode cX11_flown 61 = .ok (.goto 4, 3) := by decide +kernel
theorem dX11_flown_64 : decode cX11_flown 64 = .ok (.iload_n 3, 1) := by decide +kernel
theorem dX11_flown_65 : decode cX11_flown 65 = .ok (.invokevirtual 142, 3) := by decide +kernel
theorem dX11_flown_68 : decode cX11_flown 68 = .ok (.iinc 2 1, 3) := by decide +kernel
theorem dX11_flown_71 : decode cX11_flown 71 = .ok (.goto (-41), 3) := by decide +kernel
theorem dX11_flown_74 : decode cX11_flown 74 = .ok (.iload_n 1, 1) := by decide +kernel
theorem dX11_flown_75 : decode cX11_flown 75 = .ok (.ifCond .ne 10, 3) := by decide +kernel
theorem dX11_flown_78 : decode cX11_flown 78 = .ok (.aload_n 0, 1) := by decide +kernel
theorem dX11_flown_79 : decode cX11_flown 79 = .ok (.getfield 127, 3) := by decide +kernel
theorem dX11_flown_82 : decode cX11_flown 82 = .ok (.goto 43, 3) := by decide +kernel
theorem dX11_flown_85 : decode cX11_flown 85 = .ok (.iload_n 1, 1) := by decide +kernel
theorem dX11_flown_86 : decode cX11_flown 86 = .ok (.iconst 1, 1) := by decide +kernel
theorem dX11_flown_87 : decode cX11_flown 87 = .ok (.if_icmp .ne 10, 3) := by decide +kernel
theorem dX11_flown_90 : decode cX11_flown 90 = .ok (.aload_n 0, 1) := by decide +kernel
theorem dX11_flown_91 : decode cX11_flown 91 = .ok (.getfield 16, 3) := by decide +kernel
theorem dX11_flown_94 : decode cX11_flown 94 = .ok (.goto 31, 3) := by decide +kernel
theorem dX11_flown_97 : decode cX11_flown 97 = .ok (.iload_n 1, 1) := by decide +kernel
theorem dX11_flown_98 : decode cX11_flown 98 = .ok (.iconst 2, 1) := by decide +kernel
theorem dX11_flown_99 : decode cX11_flown 99 = .ok (.if_icmp .ne 10, 3) := by decide +kernel
theorem dX11_flown_102 : decode cX11_flown 102 = .ok (.aload_n 0, 1) := by decide +kernel
theorem dX11_flown_103 : decode cX11_flown 103 = .ok (.getfield 133, 3) := by decide +kernel
theorem dX11_flown_106 : decode cX11_flown 106 = .ok (.goto 19, 3) := by decide +kernel
theorem dX11_flown_109 : decode cX11_flown 109 = .ok (.iload_n 1, 1) := by decide +kernel
theorem dX11_flown_110 : decode cX11_flown 110 = .ok (.iconst 3, 1) := by decide +kernel
theorem dX11_flown_111 : decode cX11_flown 111 = .ok (.if_icmp .ne 10, 3) := by decide +kernel
theorem dX11_flown_114 : decode cX11_flown 114 = .ok (.aload_n 0, 1) := by decide +kernel
theorem dX11_flown_115 : decode cX11_flown 115 = .ok (.getfield 20, 3) := by decide +kernel
theorem dX11_flown_118 : decode cX11_flown 118 = .ok (.goto 7, 3) := by decide +kernel
theorem dX11_flown_121 : decode cX11_flown 121 = .ok (.aload_n 0, 1) := by decide +kernel
theorem dX11_flown_122 : decode cX11_flown 122 = .ok (.getfield 23, 3) := by decide +kernel
theorem dX11_flown_125 : decode cX11_flown 125 = .ok (.istore_n 2, 1) := by decide +kernel
theorem dX11_flown_126 : decode cX11_flown 126 = .ok (.aload_n 0, 1) := by decide +kernel
theorem dX11_flown_127 : decode cX11_flown 127 = .ok (.invokevirtual 270, 3) := by decide +kernel
theorem dX11_flown_130 : decode cX11_flown 130 = .ok (.iload_n 2, 1) := by decide +kernel
theorem dX11_flown_131 : decode cX11_flown 131 = .ok (.ireturn, 1) := by decide +kernel
theorem dX11_ceiling_0 : decode cX11_ceiling 0 = .ok (.aload_n 0, 1) := by decide +kernel
theorem dX11_ceiling_1 : decode cX11_ceiling 1 = .ok (.iconst 0, 1) := by decide +kernel
theorem dX11_ceiling_2 : decode cX11_ceiling 2 = .ok (.putfield 104, 3) := by decide +kernel
theorem dX11_ceiling_5 : decode cX11_ceiling 5 = .ok (.iload_n 1, 1) := by decide +kernel
theorem dX11_ceiling_6 : decode cX11_ceiling 6 = .ok (.i2l, 1) := by decide +kernel
theorem dX11_ceiling_7 : decode cX11_ceiling 7 = .ok (.lconst 0, 1) := by decide +kernel
theorem dX11_ceiling_8 : decode cX11_ceiling 8 = .ok (.lconst 1, 1) := by decide +kernel
theorem dX11_ceiling_9 : decode cX11_ceiling 9 = .ok (.invokestatic 107, 3) := by decide +kernel
theorem dX11_ceiling_12 : decode cX11_ceiling 12 = .ok (.ifCond .ne 10, 3) := by decide +kernel
theorem dX11_ceiling_15 : decode cX11_ceiling 15 = .ok (.aload_n 0, 1) := by decide +kernel
theorem dX11_ceiling_16 : decode cX11_ceiling 16 = .ok (.bipush (-2), 2) := by decide +kernel
theorem dX11_ceiling_18 : decode cX11_ceiling 18 = .ok (.invokevirtual 153, 3) := by decide +kernel
theorem dX11_ceiling_21 : decode cX11_ceiling 21 = .ok (.ireturn, 1) := by decide +kernel
theorem dX11_ceiling_22 : decode cX11_ceiling 22 = .ok (.aload_n 0, 1) := by decide +kernel
theorem dX11_ceiling_23 : decode cX11_ceiling 23 = .ok (.getfield 127, 3) := by decide +kernel
theorem dX11_ceiling_26 : decode cX11_ceiling 26 = .ok (.istore_n 2, 1) := by decide +kernel
theorem dX11_ceiling_27 : decode cX11_ceiling 27 = .ok (.iconst 0, 1) := by decide +kernel
theorem dX11_ceiling_28 : decode cX11_ceiling 28 = .ok (.istore_n 3, 1) := by decide +kernel
theorem dX11_ceiling_29 : decode cX11_ceiling 29 = .ok (.aload_n 0, 1) := by decide +kernel
theorem dX11_ceiling_30 : decode cX11_ceiling 30 = .ok (.invokevirtual 291, 3) := by decide +kernel
theorem dX11_ceiling_33 : decode cX11_ceiling 33 = .ok (.iconst 1, 1) := by decide +kernel
theorem dX11_ceiling_34 : decode cX11_ceiling 34 = .ok (.istore 4, 2) := by decide +kernel
theorem dX11_ceiling_36 : decode cX11_ceiling 36 = .ok (.iload 4, 2) := by decide +kernel
theorem dX11_ceiling_38 : decode cX11_ceiling 38 = .ok (.bipush 60, 2) := by decide +kernel
theorem dX11_ceiling_40 : decode cX11_ceiling 40 = .ok (.if_icmp .gt 57, 3) := by decide +kernel
theorem dX11_ceiling_43 : decode cX11_ceiling 43 = .ok (.aload_n 0, 1) := by decide +kernel
theorem dX11_ceiling_44 : decode cX11_ceiling 44 = .ok (.aload_n 0, 1) := by decide +kernel
theorem dX11_ceiling_45 : decode cX11_ceiling 45 = .ok (.getfield 23, 3) := by decide +kernel
theorem dX11_ceiling_48 : decode cX11_ceiling 48 = .ok (.ifCond .le 7, 3) := by decide +kernel
theorem dX11_ceiling_51 : decode cX11_ceiling 51 = .ok (.iconst 1, 1) := by decide +kernel
theorem dX11_ceiling_52 : decode cX11_ceiling 52 = .ok (.goto 4, 3) := by decide +kernel
theorem dX11_ceiling_55 : decode cX11_ceiling 55 = .ok (.iconst 0, 1) := by decide +kernel
theorem dX11_ceiling_56 : decode cX11_ceiling 56 = .ok (.invokevirtual 142, 3) := by decide +kernel
theorem dX11_ceiling_59 : decode cX11_ceiling 59 = .ok (.aload_n 0, 1) := by decide +kernel
theorem dX11_ceiling_60 : decode cX11_ceiling 60 = .ok (.getfield 127, 3) := by decide +kernel
theorem dX11_ceiling_63 : decode cX11_ceiling 63 = .ok (.iload_n 2, 1) := by decide +kernel
theorem dX11_ceiling_64 : decode cX11_ceiling 64 = .ok (.if_icmp .le 8, 3) := by decide +kernel
theorem dX11_ceiling_67 : decode cX11_ceiling 67 = .ok (.iload 4, 2) := by decide +kernel
theorem dX11_ceiling_69 : decode cX11_ceiling 69 = .ok (.goto 4, 3) := by decide +kernel
theorem dX11_ceiling_72 : decode cX11_ceiling 72 = .ok (.iload_n 3, 1) := by decide +kernel
theorem dX11_ceiling_73 : decode cX11_ceiling 73 = .ok (.istore_n 3, 1) := by decide +kernel
theorem dX11_ceiling_74 : decode cX11_ceiling 74 = .ok (.aload_n 0, 1) := by decide +kernel
theorem dX11_ceiling_75 : decode cX11_ceiling 75 = .ok (.getfield 127, 3) := by decide +kernel
theorem dX11_ceiling_78 : decode cX11_ceiling 78 = .ok (.iload_n 2, 1) := by decide +kernel
theorem dX11_ceiling_79 : decode cX11_ceiling 79 = .ok (.if_icmp .le 10, 3) := by decide +kernel
theorem dX11_ceiling_82 : decode cX11_ceiling 82 = .ok (.aload_n 0, 1) := by decide +kernel
theorem dX11_ceiling_83 : decode cX11_ceiling 83 = .ok (.getfield 127, 3) := by decide +kernel
theorem dX11_ceiling_86 : decode cX11_ceiling 86 = .ok (.goto 4, 3) := by decide +kernel
theorem dX11_ceiling_89 : decode cX11_ceiling 89 = .ok (.iload_n 2, 1) := by decide +kernel
theorem dX11_ceiling_90 : decode cX11_ceiling 90 = .ok (.istore_n 2, 1) := by decide +kernel
theorem dX11_ceiling_91 : decode cX11_ceiling 91 = .ok (.iinc 4 1, 3) := by decide +kernel
theorem dX11_ceiling_94 : decode cX11_ceiling 94 = .ok (.goto (-58), 3) := by decide +kernel
theorem dX11_ceiling_97 : decode cX11_ceiling 97 = .ok (.aload_n 0, 1) := by decide +kernel
theorem dX11_ceiling_98 : decode cX11_ceiling 98 = .ok (.invokevirtual 270, 3) := by decide +kernel
theorem dX11_ceiling_101 : decode cX11_ceiling 101 = .ok (.iload_n 1, 1) := by decide +kernel
theorem dX11_ceiling_102 : decode cX11_ceiling 102 = .ok (.ifCond .ne 7, 3) := by decide +kernel
theorem dX11_ceiling_105 : decode cX11_ceiling 105 = .ok (.iload_n 2, 1) := by decide +kernel
theorem dX11_ceiling_106 : decode cX11_ceiling 106 = .ok (.goto 4, 3) := by decide +kernel
theorem dX11_ceiling_109 : decode cX11_ceiling 109 = .ok (.iload_n 3, 1) := by decide +kernel
theorem dX11_ceiling_110 : decode cX11_ceiling 110 = .ok (.ireturn, 1) := by decide +kernel
theorem dX11_turnAir_0 : decode cX11_turnAir 0 = .ok (.iconst 0, 1) := by decide +kernel
theorem dX11_turnAir_1 : decode cX11_turnAir 1 = .ok (.istore_n 1, 1) := by decide +kernel
theorem dX11_turnAir_2 : decode cX11_turnAir 2 = .ok (.iload_n 1, 1) := by decide +kernel
theorem dX11_turnAir_3 : decode cX11_turnAir 3 = .ok (.bipush 8, 2) := by decide +kernel
theorem dX11_turnAir_5 : decode cX11_turnAir 5 = .ok (.if_icmp .ge 22, 3) := by decide +kernel
theorem dX11_turnAir_8 : decode cX11_turnAir 8 = .ok (.aload_n 0, 1) := by decide +kernel
theorem dX11_turnAir_9 : decode cX11_turnAir 9 = .ok (.getfield 7, 3) := by decide +kernel
theorem dX11_turnAir_12 : decode cX11_turnAir 12 = .ok (.iload_n 1, 1) := by decide +kernel
theorem dX11_turnAir_13 : decode cX11_turnAir 13 = .ok (.aload_n 0, 1) := by decide +kernel
theorem dX11_turnAir_14 : decode cX11_turnAir 14 = .ok (.getfield 7, 3) := by decide +kernel
theorem dX11_turnAir_17 : decode cX11_turnAir 17 = .ok (.iload_n 1, 1) := by decide +kernel
theorem dX11_turnAir_18 : decode cX11_turnAir 18 = .ok (.iaload, 1) := by decide +kernel
theorem dX11_turnAir_19 : decode cX11_turnAir 19 = .ok (.ineg, 1) := by decide +kernel
theorem dX11_turnAir_20 : decode cX11_turnAir 20 = .ok (.iastore, 1) := by decide +kernel
theorem dX11_turnAir_21 : decode cX11_turnAir 21 = .ok (.iinc 1 1, 3) := by decide +kernel
theorem dX11_turnAir_24 : decode cX11_turnAir 24 = .ok (.goto (-22), 3) := by decide +kernel
theorem dX11_turnAir_27 : decode cX11_turnAir 27 = .ok (.return_, 1) := by decide +kernel
theorem dX11_layGame_0 : decode cX11_layGame 0 = .ok (.aload_n 0, 1) := by decide +kernel
theorem dX11_layGame_1 : decode cX11_layGame 1 = .ok (.invokevirtual 291, 3) := by decide +kernel
theorem dX11_layGame_4 : decode cX11_layGame 4 = .ok (.iconst 0, 1) := by decide +kernel
theorem dX11_layGame_5 : decode cX11_layGame 5 = .ok (.istore_n 1, 1) := by decide +kernel
theorem dX11_layGame_6 : decode cX11_layGame 6 = .ok (.iload_n 1, 1) := by decide +kernel
theorem dX11_layGame_7 : decode cX11_layGame 7 = .ok (.bipush 6, 2) := by decide +kernel
theorem dX11_layGame_9 : decode cX11_layGame 9 = .ok (.if_icmp .ge 53, 3) := by decide +kernel
theorem dX11_layGame_12 : decode cX11_layGame 12 = .ok (.aload_n 0, 1) := by decide +kernel
theorem dX11_layGame_13 : decode cX11_layGame 13 = .ok (.iconst 5, 1) := by decide +kernel
theorem dX11_layGame_14 : decode cX11_layGame 14 = .ok (.iload_n 1, 1) := by decide +kernel
theorem dX11_layGame_15 : decode cX11_layGame 15 = .ok (.iconst 2, 1) := by decide +kernel
theorem dX11_layGame_16 : decode cX11_layGame 16 = .ok (.idiv, 1) := by decide +kernel
theorem dX11_layGame_17 : decode cX11_layGame 17 = .ok (.imul, 1) := by decide +kernel
theorem dX11_layGame_18 : decode cX11_layGame 18 = .ok (.iconst 1, 1) := by decide +kernel
theorem dX11_layGame_19 : decode cX11_layGame 19 = .ok (.invokevirtual 294, 3) := by decide +kernel
theorem dX11_layGame_22 : decode cX11_layGame 22 = .ok (.aload_n 0, 1) := by decide +kernel
theorem dX11_layGame_23 : decode cX11_layGame 23 = .ok (.getfield 92, 3) := by decide +kernel
theorem dX11_layGame_26 : decode cX11_layGame 26 = .ok (.iload_n 1, 1) := by decide +kernel
theorem dX11_layGame_27 : decode cX11_layGame 27 = .ok (.aload_n 0, 1) := by decide +kernel
theorem dX11_layGame_28 : decode cX11_layGame 28 = .ok (.getfield 279, 3) := by decide +kernel
theorem dX11_layGame_31 : decode cX11_layGame 31 = .ok (.ifCond .eq 18, 3) := by decide +kernel
theorem dX11_layGame_34 : decode cX11_layGame 34 = .ok (.aload_n 0, 1) := by decide +kernel
theorem dX11_layGame_35 : decode cX11_layGame 35 = .ok (.aload_n 0, 1) := by decide +kernel
theorem dX11_layGame_36 : decode cX11_layGame 36 = .ok (.invokevirtual 285, 3) := by decide +kernel
theorem dX11_layGame_39 : decode cX11_layGame 39 = .ok (.aload_n 0, 1) := by decide +kernel
theorem dX11_layGame_40 : decode cX11_layGame 40 = .ok (.getfield 273, 3) := by decide +kernel
theorem dX11_layGame_43 : decode cX11_layGame 43 = .ok (.invokevirtual 259, 3) := by decide +kernel
theorem dX11_layGame_46 : decode cX11_layGame 46 = .ok (.goto 5, 3) := by decide +kernel
theorem dX11_layGame_49 : decode cX11_layGame 49 = .ok (.bipush 40, 2) := by decide +kernel
theorem dX11_layGame_51 : decode cX11_layGame 51 = .ok (.iastore, 1) := by decide +kernel
theorem dX11_layGame_52 : decode cX11_layGame 52 = .ok (.aload_n 0, 1) := by decide +kernel
theorem dX11_layGame_53 : decode cX11_layGame 53 = .ok (.invokevirtual 360, 3) := by decide +kernel
theorem dX11_layGame_56 : decode cX11_layGame 56 = .ok (.iinc 1 1, 3) := by decide +kernel
theorem dX11_layGame_59 : decode cX11_layGame 59 = .ok (.goto (-53), 3) := by decide +kernel
theorem dX11_layGame_62 : decode cX11_layGame 62 = .ok (.aload_n 0, 1) := by decide +kernel
theorem dX11_layGame_63 : decode cX11_layGame 63 = .ok (.invokevirtual 270, 3) := by decide +kernel
theorem dX11_layGame_66 : decode cX11_layGame 66 = .ok (.return_, 1) := by decide +kernel
theorem dX11_greaterLoss_0 : decode cX11_greaterLoss 0 = .ok (.aload_n 0, 1) := by decide +kernel
theorem dX11_greaterLoss_1 : decode cX11_greaterLoss 1 = .ok (.getfield 92, 3) := by decide +kernel
theorem dX11_greaterLoss_4 : decode cX11_greaterLoss 4 = .ok (.iconst 2, 1) := by decide +kernel
theorem dX11_greaterLoss_5 : decode cX11_greaterLoss 5 = .ok (.iload_n 1, 1) := by decide +kernel
theorem dX11_greaterLoss_6 : decode cX11_greaterLoss 6 = .ok (.imul, 1) := by decide +kernel
theorem dX11_greaterLoss_7 : decode cX11_greaterLoss 7 = .ok (.iaload, 1) := by decide +kernel
theorem dX11_greaterLoss_8 : decode cX11_greaterLoss 8 = .ok (.aload_n 0, 1) := by decide +kernel
theorem dX11_greaterLoss_9 : decode cX11_greaterLoss 9 = .ok (.getfield 92, 3) := by decide +kernel
theorem dX11_greaterLoss_12 : decode cX11_greaterLoss 12 = .ok (.iconst 2, 1) := by decide +kernel
theorem dX11_greaterLoss_13 : decode cX11_greaterLoss 13 = .ok (.iload_n 1, 1) := by decide +kernel
theorem dX11_greaterLoss_14 : decode cX11_greaterLoss 14 = .ok (.imul, 1) := by decide +kernel
theorem dX11_greaterLoss_15 : decode cX11_greaterLoss 15 = .ok (.iconst 1, 1) := by decide +kernel
theorem dX11_greaterLoss_16 : decode cX11_greaterLoss 16 = .ok (.iadd, 1) := by decide +kernel
theorem dX11_greaterLoss_17 : decode cX11_greaterLoss 17 = .ok (.iaload, 1) := by decide +kernel
theorem dX11_greaterLoss_18 : decode cX11_greaterLoss 18 = .ok (.if_icmp .le 14, 3) := by decide +kernel
theorem dX11_greaterLoss_21 : decode cX11_greaterLoss 21 = .ok (.aload_n 0, 1) := by decide +kernel
theorem dX11_greaterLoss_22 : decode cX11_greaterLoss 22 = .ok (.getfield 92, 3) := by decide +kernel
theorem dX11_greaterLoss_25 : decode cX11_greaterLoss 25 = .ok (.iconst 2, 1) := by decide +kernel
theorem dX11_greaterLoss_26 : decode cX11_greaterLoss 26 = .ok (.iload_n 1, 1) := by decide +kernel
theorem dX11_greaterLoss_27 : decode cX11_greaterLoss 27 = .ok (.imul, 1) := by decide +kernel
theorem dX11_greaterLoss_28 : decode cX11_greaterLoss 28 = .ok (.iaload, 1) := by decide +kernel
theorem dX11_greaterLoss_29 : decode cX11_greaterLoss 29 = .ok (.goto 13, 3) := by decide +kernel
theorem dX11_greaterLoss_32 : decode cX11_greaterLoss 32 = .ok (.aload_n 0, 1) := by decide +kernel
theorem dX11_greaterLoss_33 : decode cX11_greaterLoss 33 = .ok (.getfield 92, 3) := by decide +kernel
theorem dX11_greaterLoss_36 : decode cX11_greaterLoss 36 = .ok (.iconst 2, 1) := by decide +kernel
theorem dX11_greaterLoss_37 : decode cX11_greaterLoss 37 = .ok (.iload_n 1, 1) := by decide +kernel
theorem dX11_greaterLoss_38 : decode cX11_greaterLoss 38 = .ok (.imul, 1) := by decide +kernel
theorem dX11_greaterLoss_39 : decode cX11_greaterLoss 39 = .ok (.iconst 1, 1) := by decide +kernel
theorem dX11_greaterLoss_40 : decode cX11_greaterLoss 40 = .ok (.iadd, 1) := by decide +kernel
theorem dX11_greaterLoss_41 : decode cX11_greaterLoss 41 = .ok (.iaload, 1) := by decide +kernel
theorem dX11_greaterLoss_42 : decode cX11_greaterLoss 42 = .ok (.ireturn, 1) := by decide +kernel
theorem dX11_restingPair_0 : decode cX11_restingPair 0 = .ok (.iconst 0, 1) := by decide +kernel
theorem dX11_restingPair_1 : decode cX11_restingPair 1 = .ok (.istore_n 1, 1) := by decide +kernel
theorem dX11_restingPair_2 : decode cX11_restingPair 2 = .ok (.iload_n 1, 1) := by decide +kernel
theorem dX11_restingPair_3 : decode cX11_restingPair 3 = .ok (.bipush 6, 2) := by decide +kernel
theorem dX11_restingPair_5 : decode cX11_restingPair 5 = .ok (.if_icmp .ge 78, 3) := by decide +kernel
theorem dX11_restingPair_8 : decode cX11_restingPair 8 = .ok (.aload_n 0, 1) := by decide +kernel
theorem dX11_restingPair_9 : decode cX11_restingPair 9 = .ok (.getfield 92, 3) := by decide +kernel
theorem dX11_restingPair_12 : decode cX11_restingPair 12 = .ok (.iload_n 1, 1) := by decide +kernel
theorem dX11_restingPair_13 : decode cX11_restingPair 13 = .ok (.iaload, 1) := by decide +kernel
theorem dX11_restingPair_14 : decode cX11_restingPair 14 = .ok (.aload_n 0, 1) := by decide +kernel
theorem dX11_restingPair_15 : decode cX11_restingPair 15 = .ok (.iload_n 1, 1) := by decide +kernel
theorem dX11_restingPair_16 : decode cX11_restingPair 16 = .ok (.iconst 2, 1) := by decide +kernel
theorem dX11_restingPair_17 : decode cX11_restingPair 17 = .ok (.idiv, 1) := by decide +kernel
theorem dX11_restingPair_18 : decode cX11_restingPair 18 = .ok (.invokevirtual 363, 3) := by decide +kernel
theorem dX11_restingPair_21 : decode cX11_restingPair 21 = .ok (.if_icmp .ne 7, 3) := by decide +kernel
theorem dX11_restingPair_24 : decode cX11_restingPair 24 = .ok (.iconst 1, 1) := by decide +kernel
theorem dX11_restingPair_25 : decode cX11_restingPair 25 = .ok (.goto 4, 3) := by decide +kernel
theorem dX11_restingPair_28 : decode cX11_restingPair 28 = .ok (.iconst 0, 1) := by decide +kernel
theorem dX11_restingPair_29 : decode cX11_restingPair 29 = .ok (.istore_n 2, 1) := by decide +kernel
theorem dX11_restingPair_30 : decode cX11_restingPair 30 = .ok (.iload_n 1, 1) := by decide +kernel
theorem dX11_restingPair_31 : decode cX11_restingPair 31 = .ok (.iconst 2, 1) := by decide +kernel
theorem dX11_restingPair_32 : decode cX11_restingPair 32 = .ok (.irem, 1) := by decide +kernel
theorem dX11_restingPair_33 : decode cX11_restingPair 33 = .ok (.istore_n 3, 1) := by decide +kernel
theorem dX11_restingPair_34 : decode cX11_restingPair 34 = .ok (.iload_n 3, 1) := by decide +kernel
theorem dX11_restingPair_35 : decode cX11_restingPair 35 = .ok (.bipush 6, 2) := by decide +kernel
theorem dX11_restingPair_37 : decode cX11_restingPair 37 = .ok (.if_icmp .ge 34, 3) := by decide +kernel
theorem dX11_restingPair_40 : decode cX11_restingPair 40 = .ok (.iload_n 2, 1) := by decide +kernel
theorem dX11_restingPair_41 : decode cX11_restingPair 41 = .ok (.ifCond .eq 22, 3) := by decide +kernel
theorem dX11_restingPair_44 : decode cX11_restingPair 44 = .ok (.aload_n 0, 1) := by decide +kernel
theorem dX11_restingPair_45 : decode cX11_restingPair 45 = .ok (.getfield 92, 3) := by decide +kernel
theorem dX11_restingPair_48 : decode cX11_restingPair 48 = .ok (.iload_n 3, 1) := by decide +kernel
theorem dX11_restingPair_49 : decode cX11_restingPair 49 = .ok (.iaload, 1) := by decide +kernel
theorem dX11_restingPair_50 : decode cX11_restingPair 50 = .ok (.aload_n 0, 1) := by decide +kernel
theorem dX11_restingPair_51 : decode cX11_restingPair 51 = .ok (.getfield 92, 3) := by decide +kernel
theorem dX11_restingPair_54 : decode cX11_restingPair 54 = .ok (.iload_n 1, 1) := by decide +kernel
theorem dX11_restingPair_55 : decode cX11_restingPair 55 = .ok (.iaload, 1) := by decide +kernel
theorem dX11_restingPair_56 : decode cX11_restingPair 56 = .ok (.if_icmp .lt 7, 3) := by decide +kernel
theorem dX11_restingPair_59 : decode cX11_restingPair 59 = .ok (.iconst 1, 1) := by decide +kernel
theorem dX11_restingPair_60 : decode cX11_restingPair 60 = .ok (.goto 4, 3) := by decide +kernel
theorem dX11_restingPair_63 : decode cX11_restingPair 63 = .ok (.iconst 0, 1) := by decide +kernel
theorem dX11_restingPair_64 : decode cX11_restingPair 64 = .ok (.istore_n 2, 1) := by decide +kernel
theorem dX11_restingPair_65 : decode cX11_restingPair 65 = .ok (.iinc 3 2, 3) := by decide +kernel
theorem dX11_restingPair_68 : decode cX11_restingPair 68 = .ok (.goto (-34), 3) := by decide +kernel
theorem dX11_restingPair_71 : decode cX11_restingPair 71 = .ok (.iload_n 2, 1) := by decide +kernel
theorem dX11_restingPair_72 : decode cX11_restingPair 72 = .ok (.ifCond .eq 5, 3) := by decide +kernel
theorem dX11_restingPair_75 : decode cX11_restingPair 75 = .ok (.iload_n 1, 1) := by decide +kernel
theorem dX11_restingPair_76 : decode cX11_restingPair 76 = .ok (.ireturn, 1) := by decide +kernel
theorem dX11_restingPair_77 : decode cX11_restingPair 77 = .ok (.iinc 1 1, 3) := by decide +kernel
theorem dX11_restingPair_80 : decode cX11_restingPair 80 = .ok (.goto (-78), 3) := by decide +kernel
theorem dX11_restingPair_83 : decode cX11_restingPair 83 = .ok (.bipush (-9), 2) := by decide +kernel
theorem dX11_restingPair_85 : decode cX11_restingPair 85 = .ok (.ireturn, 1) := by decide +kernel
theorem dX11_game_0 : decode cX11_game 0 = .ok (.aload_n 0, 1) := by decide +kernel
theorem dX11_game_1 : decode cX11_game 1 = .ok (.iconst 0, 1) := by decide +kernel
theorem dX11_game_2 : decode cX11_game 2 = .ok (.putfield 104, 3) := by decide +kernel
theorem dX11_game_5 : decode cX11_game 5 = .ok (.iload_n 1, 1) := by decide +kernel
theorem dX11_game_6 : decode cX11_game 6 = .ok (.i2l, 1) := by decide +kernel
theorem dX11_game_7 : decode cX11_game 7 = .ok (.lconst 0, 1) := by decide +kernel
theorem dX11_game_8 : decode cX11_game 8 = .ok (.ldc2_w 265, 3) := by decide +kernel
theorem dX11_game_11 : decode cX11_game 11 = .ok (.invokestatic 107, 3) := by decide +kernel
theorem dX11_game_14 : decode cX11_game 14 = .ok (.ifCond .ne 10, 3) := by decide +kernel
theorem dX11_game_17 : decode cX11_game 17 = .ok (.aload_n 0, 1) := by decide +kernel
theorem dX11_game_18 : decode cX11_game 18 = .ok (.bipush (-2), 2) := by decide +kernel
theorem dX11_game_20 : decode cX11_game 20 = .ok (.invokevirtual 153, 3) := by decide +kernel
theorem dX11_game_23 : decode cX11_game 23 = .ok (.ireturn, 1) := by decide +kernel
theorem dX11_game_24 : decode cX11_game 24 = .ok (.aload_n 0, 1) := by decide +kernel
theorem dX11_game_25 : decode cX11_game 25 = .ok (.invokevirtual 366, 3) := by decide +kernel
theorem dX11_game_28 : decode cX11_game 28 = .ok (.aload_n 0, 1) := by decide +kernel
theorem dX11_game_29 : decode cX11_game 29 = .ok (.invokevirtual 369, 3) := by decide +kernel
theorem dX11_game_32 : decode cX11_game 32 = .ok (.istore_n 2, 1) := by decide +kernel
theorem dX11_game_33 : decode cX11_game 33 = .ok (.iload_n 1, 1) := by decide +kernel
theorem dX11_game_34 : decode cX11_game 34 = .ok (.ifCond .ne 23, 3) := by decide +kernel
theorem dX11_game_37 : decode cX11_game 37 = .ok (.iload_n 2, 1) := by decide +kernel
theorem dX11_game_38 : decode cX11_game 38 = .ok (.ifCond .ge 8, 3) := by decide +kernel
theorem dX11_game_41 : decode cX11_game 41 = .ok (.bipush (-9), 2) := by decide +kernel
theorem dX11_game_43 : decode cX11_game 43 = .ok (.goto 13, 3) := by decide +kernel
theorem dX11_game_46 : decode cX11_game 46 = .ok (.bipush 10, 2) := by decide +kernel
theorem dX11_game_48 : decode cX11_game 48 = .ok (.iload_n 2, 1) := by decide +kernel
theorem dX11_game_49 : decode cX11_game 49 = .ok (.iconst 2, 1) := by decide +kernel
theorem dX11_game_50 : decode cX11_game 50 = .ok (.idiv, 1) := by decide +kernel
theorem dX11_game_51 : decode cX11_game 51 = .ok (.imul, 1) := by decide +kernel
theorem dX11_game_52 : decode cX11_game 52 = .ok (.iload_n 2, 1) := by decide +kernel
theorem dX11_game_53 : decode cX11_game 53 = .ok (.iconst 2, 1) := by decide +kernel
theorem dX11_game_54 : decode cX11_game 54 = .ok (.irem, 1) := by decide +kernel
theorem dX11_game_55 : decode cX11_game 55 = .ok (.iadd, 1) := by decide +kernel
theorem dX11_game_56 : decode cX11_game 56 = .ok (.ireturn, 1) := by decide +kernel
theorem dX11_game_57 : decode cX11_game 57 = .ok (.iload_n 1, 1) := by decide +kernel
theorem dX11_game_58 : decode cX11_game 58 = .ok (.iconst 1, 1) := by decide +kernel
theorem dX11_game_59 : decode cX11_game 59 = .ok (.if_icmp .ne 19, 3) := by decide +kernel
theorem dX11_game_62 : decode cX11_game 62 = .ok (.iload_n 2, 1) := by decide +kernel
theorem dX11_game_63 : decode cX11_game 63 = .ok (.ifCond .ge 8, 3) := by decide +kernel
theorem dX11_game_66 : decode cX11_game 66 = .ok (.bipush (-9), 2) := by decide +kernel
theorem dX11_game_68 : decode cX11_game 68 = .ok (.goto 9, 3) := by decide +kernel
theorem dX11_game_71 : decode cX11_game 71 = .ok (.aload_n 0, 1) := by decide +kernel
theorem dX11_game_72 : decode cX11_game 72 = .ok (.getfield 92, 3) := by decide +kernel
theorem dX11_game_75 : decode cX11_game 75 = .ok (.iload_n 2, 1) := by decide +kernel
theorem dX11_game_76 : decode cX11_game 76 = .ok (.iaload, 1) := by decide +kernel
theorem dX11_game_77 : decode cX11_game 77 = .ok (.ireturn, 1) := by decide +kernel
theorem dX11_game_78 : decode cX11_game 78 = .ok (.aload_n 0, 1) := by decide +kernel
theorem dX11_game_79 : decode cX11_game 79 = .ok (.iconst 0, 1) := by decide +kernel
theorem dX11_game_80 : decode cX11_game 80 = .ok (.invokevirtual 363, 3) := by decide +kernel
theorem dX11_game_83 : decode cX11_game 83 = .ok (.istore_n 3, 1) := by decide +kernel
theorem dX11_game_84 : decode cX11_game 84 = .ok (.iconst 1, 1) := by decide +kernel
theorem dX11_game_85 : decode cX11_game 85 = .ok (.istore 4, 2) := by decide +kernel
theorem dX11_game_87 : decode cX11_game 87 = .ok (.iload 4, 2) := by decide +kernel
theorem dX11_game_89 : decode cX11_game 89 = .ok (.iconst 3, 1) := by decide +kernel
theorem dX11_game_90 : decode cX11_game 90 = .ok (.if_icmp .ge 30, 3) := by decide +kernel
theorem dX11_game_93 : decode cX11_game 93 = .ok (.aload_n 0, 1) := by decide +kernel
theorem dX11_game_94 : decode cX11_game 94 = .ok (.iload 4, 2) := by decide +kernel
theorem dX11_game_96 : decode cX11_game 96 = .ok (.invokevirtual 363, 3) := by decide +kernel
theorem dX11_game_99 : decode cX11_game 99 = .ok (.iload_n 3, 1) := by decide +kernel
theorem dX11_game_100 : decode cX11_game 100 = .ok (.if_icmp .ge 12, 3) := by decide +kernel
theorem dX11_game_103 : decode cX11_game 103 = .ok (.aload_n 0, 1) := by decide +kernel
theorem dX11_game_104 : decode cX11_game 104 = .ok (.iload 4, 2) := by decide +kernel
theorem dX11_game_106 : decode cX11_game 106 = .ok (.invokevirtual 363, 3) := by decide +kernel
theorem dX11_game_109 : decode cX11_game 109 = .ok (.goto 4, 3) := by decide +kernel
theorem dX11_game_112 : decode cX11_game 112 = .ok (.iload_n 3, 1) := by decide +kernel
theorem dX11_game_113 : decode cX11_game 113 = .ok (.istore_n 3, 1) := by decide +kernel
theorem dX11_game_114 : decode cX11_game 114 = .ok (.iinc 4 1, 3) := by decide +kernel
theorem dX11_game_117 : decode cX11_game 117 = .ok (.goto (-30), 3) := by decide +kernel
theorem dX11_game_120 : decode cX11_game 120 = .ok (.iload_n 3, 1) := by decide +kernel
theorem dX11_game_121 : decode cX11_game 121 = .ok (.ireturn, 1) := by decide +kernel
theorem dX11_another_0 : decode cX11_another 0 = .ok (.aload_n 0, 1) := by decide +kernel
theorem dX11_another_1 : decode cX11_another 1 = .ok (.iconst 0, 1) := by decide +kernel
theorem dX11_another_2 : decode cX11_another 2 = .ok (.putfield 104, 3) := by decide +kernel
theorem dX11_another_5 : decode cX11_another 5 = .ok (.iload_n 1, 1) := by decide +kernel
theorem dX11_another_6 : decode cX11_another 6 = .ok (.ifCond .lt 12, 3) := by decide +kernel
theorem dX11_another_9 : decode cX11_another 9 = .ok (.iload_n 2, 1) := by decide +kernel
theorem dX11_another_10 : decode cX11_another 10 = .ok (.ifCond .lt 8, 3) := by decide +kernel
theorem dX11_another_13 : decode cX11_another 13 = .ok (.iload_n 3, 1) := by decide +kernel
theorem dX11_another_14 : decode cX11_another 14 = .ok (.iconst 1, 1) := by decide +kernel
theorem dX11_another_15 : decode cX11_another 15 = .ok (.if_icmp .ge 8, 3) := by decide +kernel
theorem dX11_another_18 : decode cX11_another 18 = .ok (.bipush (-4), 2) := by decide +kernel
theorem dX11_another_20 : decode cX11_another 20 = .ok (.goto 26, 3) := by decide +kernel
theorem dX11_another_23 : decode cX11_another 23 = .ok (.iload_n 1, 1) := by decide +kernel
theorem dX11_another_24 : decode cX11_another 24 = .ok (.bipush 30, 2) := by decide +kernel
theorem dX11_another_26 : decode cX11_another 26 = .ok (.if_icmp .gt 14, 3) := by decide +kernel
theorem dX11_another_29 : decode cX11_another 29 = .ok (.iload_n 2, 1) := by decide +kernel
theorem dX11_another_30 : decode cX11_another 30 = .ok (.iconst 5, 1) := by decide +kernel
theorem dX11_another_31 : decode cX11_another 31 = .ok (.if_icmp .gt 9, 3) := by decide +kernel
theorem dX11_another_34 : decode cX11_another 34 = .ok (.iload_n 3, 1) := by decide +kernel
theorem dX11_another_35 : decode cX11_another 35 = .ok (.bipush 6, 2) := by decide +kernel
theorem dX11_another_37 : decode cX11_another 37 = .ok (.if_icmp .le 8, 3) := by decide +kernel
theorem dX11_another_40 : decode cX11_another 40 = .ok (.bipush (-6), 2) := by decide +kernel
theorem dX11_another_42 : decode cX11_another 42 = .ok (.goto 4, 3) := by decide +kernel
theorem dX11_another_45 : decode cX11_another 45 = .ok (.iconst 0, 1) := by decide +kernel
theorem dX11_another_46 : decode cX11_another 46 = .ok (.istore 4, 2) := by decide +kernel
theorem dX11_another_48 : decode cX11_another 48 = .ok (.iload 4, 2) := by decide +kernel
theorem dX11_another_50 : decode cX11_another 50 = .ok (.ifCond .ge 10, 3) := by decide +kernel
theorem dX11_another_53 : decode cX11_another 53 = .ok (.aload_n 0, 1) := by decide +kernel
theorem dX11_another_54 : decode cX11_another 54 = .ok (.iload 4, 2) := by decide +kernel
theorem dX11_another_56 : decode cX11_another 56 = .ok (.invokevirtual 153, 3) := by decide +kernel
theorem dX11_another_59 : decode cX11_another 59 = .ok (.ireturn, 1) := by decide +kernel
theorem dX11_another_60 : decode cX11_another 60 = .ok (.aload_n 0, 1) := by decide +kernel
theorem dX11_another_61 : decode cX11_another 61 = .ok (.getfield 26, 3) := by decide +kernel
theorem dX11_another_64 : decode cX11_another 64 = .ok (.istore 5, 2) := by decide +kernel
theorem dX11_another_66 : decode cX11_another 66 = .ok (.aload_n 0, 1) := by decide +kernel
theorem dX11_another_67 : decode cX11_another 67 = .ok (.invokevirtual 291, 3) := by decide +kernel
theorem dX11_another_70 : decode cX11_another 70 = .ok (.aload_n 0, 1) := by decide +kernel
theorem dX11_another_71 : decode cX11_another 71 = .ok (.iload_n 1, 1) := by decide +kernel
theorem dX11_another_72 : decode cX11_another 72 = .ok (.iload_n 2, 1) := by decide +kernel
theorem dX11_another_73 : decode cX11_another 73 = .ok (.invokevirtual 294, 3) := by decide +kernel
theorem dX11_another_76 : decode cX11_another 76 = .ok (.aload_n 0, 1) := by decide +kernel
theorem dX11_another_77 : decode cX11_another 77 = .ok (.getfield 279, 3) := by decide +kernel
theorem dX11_another_80 : decode cX11_another 80 = .ok (.istore 6, 2) := by decide +kernel
theorem dX11_another_82 : decode cX11_another 82 = .ok (.aload_n 0, 1) := by decide +kernel
theorem dX11_another_83 : decode cX11_another 83 = .ok (.getfield 16, 3) := by decide +kernel
theorem dX11_another_86 : decode cX11_another 86 = .ok (.istore 7, 2) := by decide +kernel
theorem dX11_another_88 : decode cX11_another 88 = .ok (.aload_n 0, 1) := by decide +kernel
theorem dX11_another_89 : decode cX11_another 89 = .ok (.getfield 133, 3) := by decide +kernel
theorem dX11_another_92 : decode cX11_another 92 = .ok (.istore 8, 2) := by decide +kernel
theorem dX11_another_94 : decode cX11_another 94 = .ok (.aload_n 0, 1) := by decide +kernel
theorem dX11_another_95 : decode cX11_another 95 = .ok (.invokevirtual 270, 3) := by decide +kernel
theorem dX11_another_98 : decode cX11_another 98 = .ok (.aload_n 0, 1) := by decide +kernel
theorem dX11_another_99 : decode cX11_another 99 = .ok (.iload_n 3, 1) := by decide +kernel
theorem dX11_another_100 : decode cX11_another 100 = .ok (.putfield 26, 3) := by decide +kernel
theorem dX11_another_103 : decode cX11_another 103 = .ok (.aload_n 0, 1) := by decide +kernel
theorem dX11_another_104 : decode cX11_another 104 = .ok (.invokevirtual 291, 3) := by decide +kernel
theorem dX11_another_107 : decode cX11_another 107 = .ok (.aload_n 0, 1) := by decide +kernel
theorem dX11_another_108 : decode cX11_another 108 = .ok (.iload_n 1, 1) := by decide +kernel
theorem dX11_another_109 : decode cX11_another 109 = .ok (.iload_n 2, 1) := by decide +kernel
theorem dX11_another_110 : decode cX11_another 110 = .ok (.invokevirtual 294, 3) := by decide +kernel
theorem dX11_another_113 : decode cX11_another 113 = .ok (.iload 6, 2) := by decide +kernel
theorem dX11_another_115 : decode cX11_another 115 = .ok (.ifCond .eq 14, 3) := by decide +kernel
theorem dX11_another_118 : decode cX11_another 118 = .ok (.aload_n 0, 1) := by decide +kernel
theorem dX11_another_119 : decode cX11_another 119 = .ok (.getfield 279, 3) := by decide +kernel
theorem dX11_another_122 : decode cX11_another 122 = .ok (.ifCond .eq 7, 3) := by decide +kernel
theorem dX11_another_125 : decode cX11_another 125 = .ok (.iconst 1, 1) := by decide +kernel
theorem dX11_another_126 : decode cX11_another 126 = .ok (.goto 4, 3) := by decide +kernel
theorem dX11_another_129 : decode cX11_another 129 = .ok (.iconst 0, 1) := by decide +kernel
theorem dX11_another_130 : decode cX11_another 130 = .ok (.istore 6, 2) := by decide +kernel
theorem dX11_another_132 : decode cX11_another 132 = .ok (.aload_n 0, 1) := by decide +kernel
theorem dX11_another_133 : decode cX11_another 133 = .ok (.getfield 16, 3) := by decide +kernel
theorem dX11_another_136 : decode cX11_another 136 = .ok (.iload 7, 2) := by decide +kernel
theorem dX11_another_138 : decode cX11_another 138 = .ok (.isub, 1) := by decide +kernel
theorem dX11_another_139 : decode cX11_another 139 = .ok (.invokestatic 146, 3) := by decide +kernel
theorem dX11_another_142 : decode cX11_another 142 = .ok (.aload_n 0, 1) := by decide +kernel
theorem dX11_another_143 : decode cX11_another 143 = .ok (.getfield 133, 3) := by decide +kernel
theorem dX11_another_146 : decode cX11_another 146 = .ok (.iload 8, 2) := by decide +kernel
theorem dX11_another_148 : decode cX11_another 148 = .ok (.isub, 1) := by decide +kernel
theorem dX11_another_149 : decode cX11_another 149 = .ok (.invokestatic 146, 3) := by decide +kernel
theorem dX11_another_152 : decode cX11_another 152 = .ok (.iadd, 1) := by decide +kernel
theorem dX11_another_153 : decode cX11_another 153 = .ok (.istore 9, 2) := by decide +kernel
theorem dX11_another_155 : decode cX11_another 155 = .ok (.aload_n 0, 1) := by decide +kernel
theorem dX11_another_156 : decode cX11_another 156 = .ok (.invokevirtual 270, 3) := by decide +kernel
theorem dX11_another_159 : decode cX11_another 159 = .ok (.aload_n 0, 1) := by decide +kernel
theorem dX11_another_160 : decode cX11_another 160 = .ok (.iload 5, 2) := by decide +kernel
theorem dX11_another_162 : decode cX11_another 162 = .ok (.putfield 26, 3) := by decide +kernel
theorem dX11_another_165 : decode cX11_another 165 = .ok (.iload 6, 2) := by decide +kernel
theorem dX11_another_167 : decode cX11_another 167 = .ok (.ifCond .eq 8, 3) := by decide +kernel
theorem dX11_another_170 : decode cX11_another 170 = .ok (.iload 9, 2) := by decide +kernel
theorem dX11_another_172 : decode cX11_another 172 = .ok (.goto 5, 3) := by decide +kernel
theorem dX11_another_175 : decode cX11_another 175 = .ok (.bipush (-9), 2) := by decide +kernel
theorem dX11_another_177 : decode cX11_another 177 = .ok (.ireturn, 1) := by decide +kernel
theorem dX11_placeNear_0 : decode cX11_placeNear 0 = .ok (.iconst 0, 1) := by decide +kernel
theorem dX11_placeNear_1 : decode cX11_placeNear 1 = .ok (.istore_n 2, 1) := by decide +kernel
theorem dX11_placeNear_2 : decode cX11_placeNear 2 = .ok (.iconst 1, 1) := by decide +kernel
theorem dX11_placeNear_3 : decode cX11_placeNear 3 = .ok (.istore_n 3, 1) := by decide +kernel
theorem dX11_placeNear_4 : decode cX11_placeNear 4 = .ok (.iload_n 3, 1) := by decide +kernel
theorem dX11_placeNear_5 : decode cX11_placeNear 5 = .ok (.bipush 8, 2) := by decide +kernel
theorem dX11_placeNear_7 : decode cX11_placeNear 7 = .ok (.if_icmp .ge 36, 3) := by decide +kernel
theorem dX11_placeNear_10 : decode cX11_placeNear 10 = .ok (.bipush 100, 2) := by decide +kernel
theorem dX11_placeNear_12 : decode cX11_placeNear 12 = .ok (.iload_n 3, 1) := by decide +kernel
theorem dX11_placeNear_13 : decode cX11_placeNear 13 = .ok (.imul, 1) := by decide +kernel
theorem dX11_placeNear_14 : decode cX11_placeNear 14 = .ok (.iload_n 1, 1) := by decide +kernel
theorem dX11_placeNear_15 : decode cX11_placeNear 15 = .ok (.isub, 1) := by decide +kernel
theorem dX11_placeNear_16 : decode cX11_placeNear 16 = .ok (.invokestatic 146, 3) := by decide +kernel
theorem dX11_placeNear_19 : decode cX11_placeNear 19 = .ok (.bipush 100, 2) := by decide +kernel
theorem dX11_placeNear_21 : decode cX11_placeNear 21 = .ok (.iload_n 2, 1) := by decide +kernel
theorem dX11_placeNear_22 : decode cX11_placeNear 22 = .ok (.imul, 1) := by decide +kernel
theorem dX11_placeNear_23 : decode cX11_placeNear 23 = .ok (.iload_n 1, 1) := by decide +kernel
theorem dX11_placeNear_24 : decode cX11_placeNear 24 = .ok (.isub, 1) := by decide +kernel
theorem dX11_placeNear_25 : decode cX11_placeNear 25 = .ok (.invokestatic 146, 3) := by decide +kernel
theorem dX11_placeNear_28 : decode cX11_placeNear 28 = .ok (.if_icmp .ge 7, 3) := by decide +kernel
theorem dX11_placeNear_31 : decode cX11_placeNear 31 = .ok (.iload_n 3, 1) := by decide +kernel
theorem dX11_placeNear_32 : decode cX11_placeNear 32 = .ok (.goto 4, 3) := by decide +kernel
theorem dX11_placeNear_35 : decode cX11_placeNear 35 = .ok (.iload_n 2, 1) := by decide +kernel
theorem dX11_placeNear_36 : decode cX11_placeNear 36 = .ok (.istore_n 2, 1) := by decide +kernel
theorem dX11_placeNear_37 : decode cX11_placeNear 37 = .ok (.iinc 3 1, 3) := by decide +kernel
theorem dX11_placeNear_40 : decode cX11_placeNear 40 = .ok (.goto (-36), 3) := by decide +kernel
theorem dX11_placeNear_43 : decode cX11_placeNear 43 = .ok (.iload_n 2, 1) := by decide +kernel
theorem dX11_placeNear_44 : decode cX11_placeNear 44 = .ok (.ireturn, 1) := by decide +kernel
theorem dX11_chase_0 : decode cX11_chase 0 = .ok (.aload_n 0, 1) := by decide +kernel
theorem dX11_chase_1 : decode cX11_chase 1 = .ok (.iconst 0, 1) := by decide +kernel
theorem dX11_chase_2 : decode cX11_chase 2 = .ok (.putfield 104, 3) := by decide +kernel
theorem dX11_chase_5 : decode cX11_chase 5 = .ok (.iload_n 1, 1) := by decide +kernel
theorem dX11_chase_6 : decode cX11_chase 6 = .ok (.ifCond .lt 7, 3) := by decide +kernel
theorem dX11_chase_9 : decode cX11_chase 9 = .ok (.iload_n 2, 1) := by decide +kernel
theorem dX11_chase_10 : decode cX11_chase 10 = .ok (.ifCond .ge 8, 3) := by decide +kernel
theorem dX11_chase_13 : decode cX11_chase 13 = .ok (.bipush (-4), 2) := by decide +kernel
theorem dX11_chase_15 : decode cX11_chase 15 = .ok (.goto 25, 3) := by decide +kernel
theorem dX11_chase_18 : decode cX11_chase 18 = .ok (.iload_n 1, 1) := by decide +kernel
theorem dX11_chase_19 : decode cX11_chase 19 = .ok (.bipush 30, 2) := by decide +kernel
theorem dX11_chase_21 : decode cX11_chase 21 = .ok (.if_icmp .gt 8, 3) := by decide +kernel
theorem dX11_chase_24 : decode cX11_chase 24 = .ok (.iload_n 2, 1) := by decide +kernel
theorem dX11_chase_25 : decode cX11_chase 25 = .ok (.iconst 5, 1) := by decide +kernel
theorem dX11_chase_26 : decode cX11_chase 26 = .ok (.if_icmp .le 8, 3) := by decide +kernel
theorem dX11_chase_29 : decode cX11_chase 29 = .ok (.bipush (-6), 2) := by decide +kernel
theorem dX11_chase_31 : decode cX11_chase 31 = .ok (.goto 9, 3) := by decide +kernel
theorem dX11_chase_34 : decode cX11_chase 34 = .ok (.iconst 0, 1) := by decide +kernel
theorem dX11_chase_35 : decode cX11_chase 35 = .ok (.iload_n 3, 1) := by decide +kernel
theorem dX11_chase_36 : decode cX11_chase 36 = .ok (.iconst 1, 1) := by decide +kernel
theorem dX11_chase_37 : decode cX11_chase 37 = .ok (.invokestatic 288, 3) := by decide +kernel
theorem dX11_chase_40 : decode cX11_chase 40 = .ok (.istore 4, 2) := by decide +kernel
theorem dX11_chase_42 : decode cX11_chase 42 = .ok (.iload 4, 2) := by decide +kernel
theorem dX11_chase_44 : decode cX11_chase 44 = .ok (.ifCond .ge 10, 3) := by decide +kernel
theorem dX11_chase_47 : decode cX11_chase 47 = .ok (.aload_n 0, 1) := by decide +kernel
theorem dX11_chase_48 : decode cX11_chase 48 = .ok (.iload 4, 2) := by decide +kernel
theorem dX11_chase_50 : decode cX11_chase 50 = .ok (.invokevirtual 153, 3) := by decide +kernel
theorem dX11_chase_53 : decode cX11_chase 53 = .ok (.ireturn, 1) := by decide +kernel
theorem dX11_chase_54 : decode cX11_chase 54 = .ok (.aload_n 0, 1) := by decide +kernel
theorem dX11_chase_55 : decode cX11_chase 55 = .ok (.invokevirtual 291, 3) := by decide +kernel
theorem dX11_chase_58 : decode cX11_chase 58 = .ok (.aload_n 0, 1) := by decide +kernel
theorem dX11_chase_59 : decode cX11_chase 59 = .ok (.iload_n 1, 1) := by decide +kernel
theorem dX11_chase_60 : decode cX11_chase 60 = .ok (.iload_n 2, 1) := by decide +kernel
theorem dX11_chase_61 : decode cX11_chase 61 = .ok (.invokevirtual 294, 3) := by decide +kernel
theorem dX11_chase_64 : decode cX11_chase 64 = .ok (.aload_n 0, 1) := by decide +kernel
theorem dX11_chase_65 : decode cX11_chase 65 = .ok (.aload_n 0, 1) := by decide +kernel
theorem dX11_chase_66 : decode cX11_chase 66 = .ok (.getfield 16, 3) := by decide +kernel
theorem dX11_chase_69 : decode cX11_chase 69 = .ok (.invokevirtual 372, 3) := by decide +kernel
theorem dX11_chase_72 : decode cX11_chase 72 = .ok (.istore 5, 2) := by decide +kernel
theorem dX11_chase_74 : decode cX11_chase 74 = .ok (.aload_n 0, 1) := by decide +kernel
theorem dX11_chase_75 : decode cX11_chase 75 = .ok (.invokevirtual 270, 3) := by decide +kernel
theorem dX11_chase_78 : decode cX11_chase 78 = .ok (.aload_n 0, 1) := by decide +kernel
theorem dX11_chase_79 : decode cX11_chase 79 = .ok (.aload_n 0, 1) := by decide +kernel
theorem dX11_chase_80 : decode cX11_chase 80 = .ok (.getfield 243, 3) := by decide +kernel
theorem dX11_chase_83 : decode cX11_chase 83 = .ok (.invokevirtual 338, 3) := by decide +kernel
theorem dX11_chase_86 : decode cX11_chase 86 = .ok (.aload_n 0, 1) := by decide +kernel
theorem dX11_chase_87 : decode cX11_chase 87 = .ok (.getfield 279, 3) := by decide +kernel
theorem dX11_chase_90 : decode cX11_chase 90 = .ok (.ifCond .eq 16, 3) := by decide +kernel
theorem dX11_chase_93 : decode cX11_chase 93 = .ok (.aload_n 0, 1) := by decide +kernel
theorem dX11_chase_94 : decode cX11_chase 94 = .ok (.getfield 89, 3) := by decide +kernel
theorem dX11_chase_97 : decode cX11_chase 97 = .ok (.iload 5, 2) := by decide +kernel
theorem dX11_chase_99 : decode cX11_chase 99 = .ok (.iaload, 1) := by decide +kernel
theorem dX11_chase_100 : decode cX11_chase 100 = .ok (.ldc_w 337, 3) := by decide +kernel
theorem dX11_chase_103 : decode cX11_chase 103 = .ok (.if_icmp .ne 6, 3) := by decide +kernel
theorem dX11_chase_106 : decode cX11_chase 106 = .ok (.bipush (-9), 2) := by decide +kernel
theorem dX11_chase_108 : decode cX11_chase 108 = .ok (.ireturn, 1) := by decide +kernel
theorem dX11_chase_109 : decode cX11_chase 109 = .ok (.iload_n 3, 1) := by decide +kernel
theorem dX11_chase_110 : decode cX11_chase 110 = .ok (.ifCond .ne 13, 3) := by decide +kernel
theorem dX11_chase_113 : decode cX11_chase 113 = .ok (.aload_n 0, 1) := by decide +kernel
theorem dX11_chase_114 : decode cX11_chase 114 = .ok (.getfield 89, 3) := by decide +kernel
theorem dX11_chase_117 : decode cX11_chase 117 = .ok (.iload 5, 2) := by decide +kernel
theorem dX11_chase_119 : decode cX11_chase 119 = .ok (.iaload, 1) := by decide +kernel
theorem dX11_chase_120 : decode cX11_chase 120 = .ok (.goto 25, 3) := by decide +kernel
theorem dX11_chase_123 : decode cX11_chase 123 = .ok (.aload_n 0, 1) := by decide +kernel
theorem dX11_chase_124 : decode cX11_chase 124 = .ok (.getfield 89, 3) := by decide +kernel
theorem dX11_chase_127 : decode cX11_chase 127 = .ok (.iload 5, 2) := by decide +kernel
theorem dX11_chase_129 : decode cX11_chase 129 = .ok (.iaload, 1) := by decide +kernel
theorem dX11_chase_130 : decode cX11_chase 130 = .ok (.aload_n 0, 1) := by decide +kernel
theorem dX11_chase_131 : decode cX11_chase 131 = .ok (.getfield 282, 3) := by decide +kernel
theorem dX11_chase_134 : decode cX11_chase 134 = .ok (.bipush 6, 2) := by decide +kernel
theorem dX11_chase_136 : decode cX11_chase 136 = .ok (.idiv, 1) := by decide +kernel
theorem dX11_chase_137 : decode cX11_chase 137 = .ok (.if_icmp .gt 7, 3) := by decide +kernel
theorem dX11_chase_140 : decode cX11_chase 140 = .ok (.iconst 1, 1) := by decide +kernel
theorem dX11_chase_141 : decode cX11_chase 141 = .ok (.goto 4, 3) := by decide +kernel
theorem dX11_chase_144 : decode cX11_chase 144 = .ok (.iconst 0, 1) := by decide +kernel
theorem dX11_chase_145 : decode cX11_chase 145 = .ok (.ireturn, 1) := by decide +kernel
theorem dX11_layBetween_0 : decode cX11_layBetween 0 = .ok (.iconst 0, 1) := by decide +kernel
theorem dX11_layBetween_1 : decode cX11_layBetween 1 = .ok (.istore_n 1, 1) := by decide +kernel
theorem dX11_layBetween_2 : decode cX11_layBetween 2 = .ok (.iload_n 1, 1) := by decide +kernel
theorem dX11_layBetween_3 : decode cX11_layBetween 3 = .ok (.bipush 8, 2) := by decide +kernel
theorem dX11_layBetween_5 : decode cX11_layBetween 5 = .ok (.if_icmp .ge 45, 3) := by decide +kernel
theorem dX11_layBetween_8 : decode cX11_layBetween 8 = .ok (.aload_n 0, 1) := by decide +kernel
theorem dX11_layBetween_9 : decode cX11_layBetween 9 = .ok (.iload_n 1, 1) := by decide +kernel
theorem dX11_layBetween_10 : decode cX11_layBetween 10 = .ok (.invokevirtual 338, 3) := by decide +kernel
theorem dX11_layBetween_13 : decode cX11_layBetween 13 = .ok (.iconst 0, 1) := by decide +kernel
theorem dX11_layBetween_14 : decode cX11_layBetween 14 = .ok (.istore_n 2, 1) := by decide +kernel
theorem dX11_layBetween_15 : decode cX11_layBetween 15 = .ok (.iload_n 2, 1) := by decide +kernel
theorem dX11_layBetween_16 : decode cX11_layBetween 16 = .ok (.bipush 8, 2) := by decide +kernel
theorem dX11_layBetween_18 : decode cX11_layBetween 18 = .ok (.if_icmp .ge 26, 3) := by decide +kernel
theorem dX11_layBetween_21 : decode cX11_layBetween 21 = .ok (.aload_n 0, 1) := by decide +kernel
theorem dX11_layBetween_22 : decode cX11_layBetween 22 = .ok (.getfield 95, 3) := by decide +kernel
theorem dX11_layBetween_25 : decode cX11_layBetween 25 = .ok (.bipush 8, 2) := by decide +kernel
theorem dX11_layBetween_27 : decode cX11_layBetween 27 = .ok (.iload_n 1, 1) := by decide +kernel
theorem dX11_layBetween_28 : decode cX11_layBetween 28 = .ok (.imul, 1) := by decide +kernel
theorem dX11_layBetween_29 : decode cX11_layBetween 29 = .ok (.iload_n 2, 1) := by decide +kernel
theorem dX11_layBetween_30 : decode cX11_layBetween 30 = .ok (.iadd, 1) := by decide +kernel
theorem dX11_layBetween_31 : decode cX11_layBetween 31 = .ok (.aload_n 0, 1) := by decide +kernel
theorem dX11_layBetween_32 : decode cX11_layBetween 32 = .ok (.getfield 89, 3) := by decide +kernel
theorem dX11_layBetween_35 : decode cX11_layBetween 35 = .ok (.iload_n 2, 1) := by decide +kernel
theorem dX11_layBetween_36 : decode cX11_layBetween 36 = .ok (.iaload, 1) := by decide +kernel
theorem dX11_layBetween_37 : decode cX11_layBetween 37 = .ok (.iastore, 1) := by decide +kernel
theorem dX11_layBetween_38 : decode cX11_layBetween 38 = .ok (.iinc 2 1, 3) := by decide +kernel
theorem dX11_layBetween_41 : decode cX11_layBetween 41 = .ok (.goto (-26), 3) := by decide +kernel
theorem dX11_layBetween_44 : decode cX11_layBetween 44 = .ok (.iinc 1 1, 3) := by decide +kernel
theorem dX11_layBetween_47 : decode cX11_layBetween 47 = .ok (.goto (-45), 3) := by decide +kernel
theorem dX11_layBetween_50 : decode cX11_layBetween 50 = .ok (.return_, 1) := by decide +kernel
theorem dX11_layTours_0 : decode cX11_layTours 0 = .ok (.iconst 0, 1) := by decide +kernel
theorem dX11_layTours_1 : decode cX11_layTours 1 = .ok (.istore_n 1, 1) := by decide +kernel
theorem dX11_layTours_2 : decode cX11_layTours 2 = .ok (.iload_n 1, 1) := by decide +kernel
theorem dX11_layTours_3 : decode cX11_layTours 3 = .ok (.sipush 256, 3) := by decide +kernel
theorem dX11_layTours_6 : decode cX11_layTours 6 = .ok (.if_icmp .ge 156, 3) := by decide +kernel
theorem dX11_layTours_9 : decode cX11_layTours 9 = .ok (.iconst 0, 1) := by decide +kernel
theorem dX11_layTours_10 : decode cX11_layTours 10 = .ok (.istore_n 2, 1) := by decide +kernel
theorem dX11_layTours_11 : decode cX11_layTours 11 = .ok (.iload_n 2, 1) := by decide +kernel
theorem dX11_layTours_12 : decode cX11_layTours 12 = .ok (.bipush 8, 2) := by decide +kernel
theorem dX11_layTours_14 : decode cX11_layTours 14 = .ok (.if_icmp .ge 142, 3) := by decide +kernel
theorem dX11_layTours_17 : decode cX11_layTours 17 = .ok (.iload_n 1, 1) := by decide +kernel
theorem dX11_layTours_18 : decode cX11_layTours 18 = .ok (.ifCond .ne 7, 3) := by decide +kernel
theorem dX11_layTours_21 : decode cX11_layTours 21 = .ok (.iconst 0, 1) := by decide +kernel
theorem dX11_layTours_22 : decode cX11_layTours 22 = .ok (.goto 6, 3) := by decide +kernel
theorem dX11_layTours_25 : decode cX11_layTours 25 = .ok (.ldc_w 337, 3) := by decide +kernel
theorem dX11_layTours_28 : decode cX11_layTours 28 = .ok (.istore_n 3, 1) := by decide +kernel
theorem dX11_layTours_29 : decode cX11_layTours 29 = .ok (.iconst 0, 1) := by decide +kernel
theorem dX11_layTours_30 : decode cX11_layTours 30 = .ok (.istore 4, 2) := by decide +kernel
theorem dX11_layTours_32 : decode cX11_layTours 32 = .ok (.iload 4, 2) := by decide +kernel
theorem dX11_layTours_34 : decode cX11_layTours 34 = .ok (.bipush 8, 2) := by decide +kernel
theorem dX11_layTours_36 : decode cX11_layTours 36 = .ok (.if_icmp .ge 102, 3) := by decide +kernel
theorem dX11_layTours_39 : decode cX11_layTours 39 = .ok (.iload_n 1, 1) := by decide +kernel
theorem dX11_layTours_40 : decode cX11_layTours 40 = .ok (.iload 4, 2) := by decide +kernel
theorem dX11_layTours_42 : decode cX11_layTours 42 = .ok (.ishr, 1) := by decide +kernel
theorem dX11_layTours_43 : decode cX11_layTours 43 = .ok (.iconst 1, 1) := by decide +kernel
theorem dX11_layTours_44 : decode cX11_layTours 44 = .ok (.iand, 1) := by decide +kernel
theorem dX11_layTours_45 : decode cX11_layTours 45 = .ok (.iconst 1, 1) := by decide +kernel
theorem dX11_layTours_46 : decode cX11_layTours 46 = .ok (.if_icmp .ne 25, 3) := by decide +kernel
theorem dX11_layTours_49 : decode cX11_layTours 49 = .ok (.aload_n 0, 1) := by decide +kernel
theorem dX11_layTours_50 : decode cX11_layTours 50 = .ok (.getfield 95, 3) := by decide +kernel
theorem dX11_layTours_53 : decode cX11_layTours 53 = .ok (.bipush 8, 2) := by decide +kernel
theorem dX11_layTours_55 : decode cX11_layTours 55 = .ok (.iload_n 2, 1) := by decide +kernel
theorem dX11_layTours_56 : decode cX11_layTours 56 = .ok (.imul, 1) := by decide +kernel
theorem dX11_layTours_57 : decode cX11_layTours 57 = .ok (.iload 4, 2) := by decide +kernel
theorem dX11_layTours_59 : decode cX11_layTours 59 = .ok (.iadd, 1) := by decide +kernel
theorem dX11_layTours_60 : decode cX11_layTours 60 = .ok (.iaload, 1) := by decide +kernel
theorem dX11_layTours_61 : decode cX11_layTours 61 = .ok (.ldc_w 337, 3) := by decide +kernel
theorem dX11_layTours_64 : decode cX11_layTours 64 = .ok (.if_icmp .ge 7, 3) := by decide +kernel
theorem dX11_layTours_67 : decode cX11_layTours 67 = .ok (.iconst 1, 1) := by decide +kernel
theorem dX11_layTours_68 : decode cX11_layTours 68 = .ok (.goto 4, 3) := by decide +kernel
theorem dX11_layTours_71 : decode cX11_layTours 71 = .ok (.iconst 0, 1) := by decide +kernel
theorem dX11_layTours_72 : decode cX11_layTours 72 = .ok (.istore 5, 2) := by decide +kernel
theorem dX11_layTours_74 : decode cX11_layTours 74 = .ok (.iload 5, 2) := by decide +kernel
theorem dX11_layTours_76 : decode cX11_layTours 76 = .ok (.ifCond .eq 38, 3) := by decide +kernel
theorem dX11_layTours_79 : decode cX11_layTours 79 = .ok (.aload_n 0, 1) := by decide +kernel
theorem dX11_layTours_80 : decode cX11_layTours 80 = .ok (.getfield 95, 3) := by decide +kernel
theorem dX11_layTours_83 : decode cX11_layTours 83 = .ok (.bipush 8, 2) := by decide +kernel
theorem dX11_layTours_85 : decode cX11_layTours 85 = .ok (.iload_n 2, 1) := by decide +kernel
theorem dX11_layTours_86 : decode cX11_layTours 86 = .ok (.imul, 1) := by decide +kernel
theorem dX11_layTours_87 : decode cX11_layTours 87 = .ok (.iload 4, 2) := by decide +kernel
theorem dX11_layTours_89 : decode cX11_layTours 89 = .ok (.iadd, 1) := by decide +kernel
theorem dX11_layTours_90 : decode cX11_layTours 90 = .ok (.iaload, 1) := by decide +kernel
theorem dX11_layTours_91 : decode cX11_layTours 91 = .ok (.aload_n 0, 1) := by decide +kernel
theorem dX11_layTours_92 : decode cX11_layTours 92 = .ok (.getfield 98, 3) := by decide +kernel
theorem dX11_layTours_95 : decode cX11_layTours 95 = .ok (.bipush 8, 2) := by decide +kernel
theorem dX11_layTours_97 : decode cX11_layTours 97 = .ok (.iload_n 1, 1) := by decide +kernel
theorem dX11_layTours_98 : decode cX11_layTours 98 = .ok (.iconst 1, 1) := by decide +kernel
theorem dX11_layTours_99 : decode cX11_layTours 99 = .ok (.iload 4, 2) := by decide +kernel
theorem dX11_layTours_101 : decode cX11_layTours 101 = .ok (.ishl, 1) := by decide +kernel
theorem dX11_layTours_102 : decode cX11_layTours 102 = .ok (.iconst (-1), 1) := by decide +kernel
theorem dX11_layTours_103 : decode cX11_layTours 103 = .ok (.ixor, 1) := by decide +kernel
theorem dX11_layTours_104 : decode cX11_layTours 104 = .ok (.iand, 1) := by decide +kernel
theorem dX11_layTours_105 : decode cX11_layTours 105 = .ok (.imul, 1) := by decide +kernel
theorem dX11_layTours_106 : decode cX11_layTours 106 = .ok (.iload 4, 2) := by decide +kernel
theorem dX11_layTours_108 : decode cX11_layTours 108 = .ok (.iadd, 1) := by decide +kernel
theorem dX11_layTours_109 : decode cX11_layTours 109 = .ok (.iaload, 1) := by decide +kernel
theorem dX11_layTours_110 : decode cX11_layTours 110 = .ok (.iadd, 1) := by decide +kernel
theorem dX11_layTours_111 : decode cX11_layTours 111 = .ok (.goto 6, 3) := by decide +kernel
theorem dX11_layTours_114 : decode cX11_layTours 114 = .ok (.ldc_w 337, 3) := by decide +kernel
theorem dX11_layTours_117 : decode cX11_layTours 117 = .ok (.istore 6, 2) := by decide +kernel
theorem dX11_layTours_119 : decode cX11_layTours 119 = .ok (.iload 6, 2) := by decide +kernel
theorem dX11_layTours_121 : decode cX11_layTours 121 = .ok (.iload_n 3, 1) := by decide +kernel
theorem dX11_layTours_122 : decode cX11_layTours 122 = .ok (.if_icmp .ge 8, 3) := by decide +kernel
theorem dX11_layTours_125 : decode cX11_layTours 125 = .ok (.iload 6, 2) := by decide +kernel
theorem dX11_layTours_127 : decode cX11_layTours 127 = .ok (.goto 4, 3) := by decide +kernel
theorem dX11_layTours_130 : decode cX11_layTours 130 = .ok (.iload_n 3, 1) := by decide +kernel
theorem dX11_layTours_131 : decode cX11_layTours 131 = .ok (.istore_n 3, 1) := by decide +kernel
theorem dX11_layTours_132 : decode cX11_layTours 132 = .ok (.iinc 4 1, 3) := by decide +kernel
theorem dX11_layTours_135 : decode cX11_layTours 135 = .ok (.goto (-103), 3) := by decide +kernel
theorem dX11_layTours_138 : decode cX11_layTours 138 = .ok (.aload_n 0, 1) := by decide +kernel
theorem dX11_layTours_139 : decode cX11_layTours 139 = .ok (.getfield 98, 3) := by decide +kernel
theorem dX11_layTours_142 : decode cX11_layTours 142 = .ok (.bipush 8, 2) := by decide +kernel
theorem dX11_layTours_144 : decode cX11_layTours 144 = .ok (.iload_n 1, 1) := by decide +kernel
theorem dX11_layTours_145 : decode cX11_layTours 145 = .ok (.imul, 1) := by decide +kernel
theorem dX11_layTours_146 : decode cX11_layTours 146 = .ok (.iload_n 2, 1) := by decide +kernel
theorem dX11_layTours_147 : decode cX11_layTours 147 = .ok (.iadd, 1) := by decide +kernel
theorem dX11_layTours_148 : decode cX11_layTours 148 = .ok (.iload_n 3, 1) := by decide +kernel
theorem dX11_layTours_149 : decode cX11_layTours 149 = .ok (.iastore, 1) := by decide +kernel
theorem dX11_layTours_150 : decode cX11_layTours 150 = .ok (.iinc 2 1, 3) := by decide +kernel
theorem dX11_layTours_153 : decode cX11_layTours 153 = .ok (.goto (-142), 3) := by decide +kernel
theorem dX11_layTours_156 : decode cX11_layTours 156 = .ok (.iinc 1 1, 3) := by decide +kernel
theorem dX11_layTours_159 : decode cX11_layTours 159 = .ok (.goto (-157), 3) := by decide +kernel
theorem dX11_layTours_162 : decode cX11_layTours 162 = .ok (.return_, 1) := by decide +kernel
theorem dX11_tour_0 : decode cX11_tour 0 = .ok (.aload_n 0, 1) := by decide +kernel
theorem dX11_tour_1 : decode cX11_tour 1 = .ok (.iconst 0, 1) := by decide +kernel
theorem dX11_tour_2 : decode cX11_tour 2 = .ok (.putfield 104, 3) := by decide +kernel
theorem dX11_tour_5 : decode cX11_tour 5 = .ok (.iload_n 1, 1) := by decide +kernel
theorem dX11_tour_6 : decode cX11_tour 6 = .ok (.iconst 0, 1) := by decide +kernel
theorem dX11_tour_7 : decode cX11_tour 7 = .ok (.sipush 255, 3) := by decide +kernel
theorem dX11_tour_10 : decode cX11_tour 10 = .ok (.invokestatic 255, 3) := by decide +kernel
theorem dX11_tour_13 : decode cX11_tour 13 = .ok (.iload_n 2, 1) := by decide +kernel
theorem dX11_tour_14 : decode cX11_tour 14 = .ok (.iconst 1, 1) := by decide +kernel
theorem dX11_tour_15 : decode cX11_tour 15 = .ok (.invokestatic 288, 3) := by decide +kernel
theorem dX11_tour_18 : decode cX11_tour 18 = .ok (.istore_n 3, 1) := by decide +kernel
theorem dX11_tour_19 : decode cX11_tour 19 = .ok (.iload_n 3, 1) := by decide +kernel
theorem dX11_tour_20 : decode cX11_tour 20 = .ok (.ifCond .ge 9, 3) := by decide +kernel
theorem dX11_tour_23 : decode cX11_tour 23 = .ok (.aload_n 0, 1) := by decide +kernel
theorem dX11_tour_24 : decode cX11_tour 24 = .ok (.iload_n 3, 1) := by decide +kernel
theorem dX11_tour_25 : decode cX11_tour 25 = .ok (.invokevirtual 153, 3) := by decide +kernel
theorem dX11_tour_28 : decode cX11_tour 28 = .ok (.ireturn, 1) := by decide +kernel
theorem dX11_tour_29 : decode cX11_tour 29 = .ok (.aload_n 0, 1) := by decide +kernel
theorem dX11_tour_30 : decode cX11_tour 30 = .ok (.invokevirtual 375, 3) := by decide +kernel
theorem dX11_tour_33 : decode cX11_tour 33 = .ok (.aload_n 0, 1) := by decide +kernel
theorem dX11_tour_34 : decode cX11_tour 34 = .ok (.invokevirtual 378, 3) := by decide +kernel
theorem dX11_tour_37 : decode cX11_tour 37 = .ok (.iload_n 1, 1) := by decide +kernel
theorem dX11_tour_38 : decode cX11_tour 38 = .ok (.iconst 1, 1) := by decide +kernel
theorem dX11_tour_39 : decode cX11_tour 39 = .ok (.aload_n 0, 1) := by decide +kernel
theorem dX11_tour_40 : decode cX11_tour 40 = .ok (.getfield 243, 3) := by decide +kernel
theorem dX11_tour_43 : decode cX11_tour 43 = .ok (.ishl, 1) := by decide +kernel
theorem dX11_tour_44 : decode cX11_tour 44 = .ok (.iconst (-1), 1) := by decide +kernel
theorem dX11_tour_45 : decode cX11_tour 45 = .ok (.ixor, 1) := by decide +kernel
theorem dX11_tour_46 : decode cX11_tour 46 = .ok (.iand, 1) := by decide +kernel
theorem dX11_tour_47 : decode cX11_tour 47 = .ok (.istore 4, 2) := by decide +kernel
theorem dX11_tour_49 : decode cX11_tour 49 = .ok (.aload_n 0, 1) := by decide +kernel
theorem dX11_tour_50 : decode cX11_tour 50 = .ok (.getfield 98, 3) := by decide +kernel
theorem dX11_tour_53 : decode cX11_tour 53 = .ok (.bipush 8, 2) := by decide +kernel
theorem dX11_tour_55 : decode cX11_tour 55 = .ok (.iload 4, 2) := by decide +kernel
theorem dX11_tour_57 : decode cX11_tour 57 = .ok (.imul, 1) := by decide +kernel
theorem dX11_tour_58 : decode cX11_tour 58 = .ok (.aload_n 0, 1) := by decide +kernel
theorem dX11_tour_59 : decode cX11_tour 59 = .ok (.getfield 243, 3) := by decide +kernel
theorem dX11_tour_62 : decode cX11_tour 62 = .ok (.iadd, 1) := by decide +kernel
theorem dX11_tour_63 : decode cX11_tour 63 = .ok (.iaload, 1) := by decide +kernel
theorem dX11_tour_64 : decode cX11_tour 64 = .ok (.istore 5, 2) := by decide +kernel
theorem dX11_tour_66 : decode cX11_tour 66 = .ok (.iload_n 2, 1) := by decide +kernel
theorem dX11_tour_67 : decode cX11_tour 67 = .ok (.ifCond .ne 19, 3) := by decide +kernel
theorem dX11_tour_70 : decode cX11_tour 70 = .ok (.iload 5, 2) := by decide +kernel
theorem dX11_tour_72 : decode cX11_tour 72 = .ok (.ldc_w 337, 3) := by decide +kernel
theorem dX11_tour_75 : decode cX11_tour 75 = .ok (.if_icmp .ge 8, 3) := by decide +kernel
theorem dX11_tour_78 : decode cX11_tour 78 = .ok (.iload 5, 2) := by decide +kernel
theorem dX11_tour_80 : decode cX11_tour 80 = .ok (.goto 5, 3) := by decide +kernel
theorem dX11_tour_83 : decode cX11_tour 83 = .ok (.bipush (-9), 2) := by decide +kernel
theorem dX11_tour_85 : decode cX11_tour 85 = .ok (.ireturn, 1) := by decide +kernel
theorem dX11_tour_86 : decode cX11_tour 86 = .ok (.iconst 0, 1) := by decide +kernel
theorem dX11_tour_87 : decode cX11_tour 87 = .ok (.istore 6, 2) := by decide +kernel
theorem dX11_tour_89 : decode cX11_tour 89 = .ok (.iload 6, 2) := by decide +kernel
theorem dX11_tour_91 : decode cX11_tour 91 = .ok (.bipush 8, 2) := by decide +kernel
theorem dX11_tour_93 : decode cX11_tour 93 = .ok (.if_icmp .ge 105, 3) := by decide +kernel
theorem dX11_tour_96 : decode cX11_tour 96 = .ok (.iload 5, 2) := by decide +kernel
theorem dX11_tour_98 : decode cX11_tour 98 = .ok (.ldc_w 337, 3) := by decide +kernel
theorem dX11_tour_101 : decode cX11_tour 101 = .ok (.if_icmp .ge 97, 3) := by decide +kernel
theorem dX11_tour_104 : decode cX11_tour 104 = .ok (.iload 4, 2) := by decide +kernel
theorem dX11_tour_106 : decode cX11_tour 106 = .ok (.iload 6, 2) := by decide +kernel
theorem dX11_tour_108 : decode cX11_tour 108 = .ok (.ishr, 1) := by decide +kernel
theorem dX11_tour_109 : decode cX11_tour 109 = .ok (.iconst 1, 1) := by decide +kernel
theorem dX11_tour_110 : decode cX11_tour 110 = .ok (.iand, 1) := by decide +kernel
theorem dX11_tour_111 : decode cX11_tour 111 = .ok (.iconst 1, 1) := by decide +kernel
theorem dX11_tour_112 : decode cX11_tour 112 = .ok (.if_icmp .ne 28, 3) := by decide +kernel
theorem dX11_tour_115 : decode cX11_tour 115 = .ok (.aload_n 0, 1) := by decide +kernel
theorem dX11_tour_116 : decode cX11_tour 116 = .ok (.getfield 95, 3) := by decide +kernel
theorem dX11_tour_119 : decode cX11_tour 119 = .ok (.bipush 8, 2) := by decide +kernel
theorem dX11_tour_121 : decode cX11_tour 121 = .ok (.aload_n 0, 1) := by decide +kernel
theorem dX11_tour_122 : decode cX11_tour 122 = .ok (.getfield 243, 3) := by decide +kernel
theorem dX11_tour_125 : decode cX11_tour 125 = .ok (.imul, 1) := by decide +kernel
theorem dX11_tour_126 : decode cX11_tour 126 = .ok (.iload 6, 2) := by decide +kernel
theorem dX11_tour_128 : decode cX11_tour 128 = .ok (.iadd, 1) := by decide +kernel
theorem dX11_tour_129 : decode cX11_tour 129 = .ok (.iaload, 1) := by decide +kernel
theorem dX11_tour_130 : decode cX11_tour 130 = .ok (.ldc_w 337, 3) := by decide +kernel
theorem dX11_tour_133 : decode cX11_tour 133 = .ok (.if_icmp .ge 7, 3) := by decide +kernel
theorem dX11_tour_136 : decode cX11_tour 136 = .ok (.iconst 1, 1) := by decide +kernel
theorem dX11_tour_137 : decode cX11_tour 137 = .ok (.goto 4, 3) := by decide +kernel
theorem dX11_tour_140 : decode cX11_tour 140 = .ok (.iconst 0, 1) := by decide +kernel
theorem dX11_tour_141 : decode cX11_tour 141 = .ok (.istore 7, 2) := by decide +kernel
theorem dX11_tour_143 : decode cX11_tour 143 = .ok (.iload 7, 2) := by decide +kernel
theorem dX11_tour_145 : decode cX11_tour 145 = .ok (.ifCond .eq 47, 3) := by decide +kernel
theorem dX11_tour_148 : decode cX11_tour 148 = .ok (.aload_n 0, 1) := by decide +kernel
theorem dX11_tour_149 : decode cX11_tour 149 = .ok (.getfield 95, 3) := by decide +kernel
theorem dX11_tour_152 : decode cX11_tour 152 = .ok (.bipush 8, 2) := by decide +kernel
theorem dX11_tour_154 : decode cX11_tour 154 = .ok (.aload_n 0, 1) := by decide +kernel
theorem dX11_tour_155 : decode cX11_tour 155 = .ok (.getfield 243, 3) := by decide +kernel
theorem dX11_tour_158 : decode cX11_tour 158 = .ok (.imul, 1) := by decide +kernel
theorem dX11_tour_159 : decode cX11_tour 159 = .ok (.iload 6, 2) := by decide +kernel
theorem dX11_tour_161 : decode cX11_tour 161 = .ok (.iadd, 1) := by decide +kernel
theorem dX11_tour_162 : decode cX11_tour 162 = .ok (.iaload, 1) := by decide +kernel
theorem dX11_tour_163 : decode cX11_tour 163 = .ok (.aload_n 0, 1) := by decide +kernel
theorem dX11_tour_164 : decode cX11_tour 164 = .ok (.getfield 98, 3) := by decide +kernel
theorem dX11_tour_167 : decode cX11_tour 167 = .ok (.bipush 8, 2) := by decide +kernel
theorem dX11_tour_169 : decode cX11_tour 169 = .ok (.iload 4, 2) := by decide +kernel
theorem dX11_tour_171 : decode cX11_tour 171 = .ok (.iconst 1, 1) := by decide +kernel
theorem dX11_tour_172 : decode cX11_tour 172 = .ok (.iload 6, 2) := by decide +kernel
theorem dX11_tour_174 : decode cX11_tour 174 = .ok (.ishl, 1) := by decide +kernel
theorem dX11_tour_175 : decode cX11_tour 175 = .ok (.iconst (-1), 1) := by decide +kernel
theorem dX11_tour_176 : decode cX11_tour 176 = .ok (.ixor, 1) := by decide +kernel
theorem dX11_tour_177 : decode cX11_tour 177 = .ok (.iand, 1) := by decide +kernel
theorem dX11_tour_178 : decode cX11_tour 178 = .ok (.imul, 1) := by decide +kernel
theorem dX11_tour_179 : decode cX11_tour 179 = .ok (.iload 6, 2) := by decide +kernel
theorem dX11_tour_181 : decode cX11_tour 181 = .ok (.iadd, 1) := by decide +kernel
theorem dX11_tour_182 : decode cX11_tour 182 = .ok (.iaload, 1) := by decide +kernel
theorem dX11_tour_183 : decode cX11_tour 183 = .ok (.iadd, 1) := by decide +kernel
theorem dX11_tour_184 : decode cX11_tour 184 = .ok (.iload 5, 2) := by decide +kernel
theorem dX11_tour_186 : decode cX11_tour 186 = .ok (.if_icmp .ne 6, 3) := by decide +kernel
theorem dX11_tour_189 : decode cX11_tour 189 = .ok (.iload 6, 2) := by decide +kernel
theorem dX11_tour_191 : decode cX11_tour 191 = .ok (.ireturn, 1) := by decide +kernel
theorem dX11_tour_192 : decode cX11_tour 192 = .ok (.iinc 6 1, 3) := by decide +kernel
theorem dX11_tour_195 : decode cX11_tour 195 = .ok (.goto (-106), 3) := by decide +kernel
theorem dX11_tour_198 : decode cX11_tour 198 = .ok (.bipush (-9), 2) := by decide +kernel
theorem dX11_tour_200 : decode cX11_tour 200 = .ok (.ireturn, 1) := by decide +kernel
theorem dX11_twoCars_0 : decode cX11_twoCars 0 = .ok (.aload_n 0, 1) := by decide +kernel
theorem dX11_twoCars_1 : decode cX11_twoCars 1 = .ok (.iconst 0, 1) := by decide +kernel
theorem dX11_twoCars_2 : decode cX11_twoCars 2 = .ok (.putfield 104, 3) := by decide +kernel
theorem dX11_twoCars_5 : decode cX11_twoCars 5 = .ok (.iload_n 1, 1) := by decide +kernel
theorem dX11_twoCars_6 : decode cX11_twoCars 6 = .ok (.invokestatic 202, 3) := by decide +kernel
theorem dX11_twoCars_9 : decode cX11_twoCars 9 = .ok (.ifCond .ne 9, 3) := by decide +kernel
theorem dX11_twoCars_12 : decode cX11_twoCars 12 = .ok (.aload_n 0, 1) := by decide +kernel
theorem dX11_twoCars_13 : decode cX11_twoCars 13 = .ok (.iconst (-1), 1) := by decide +kernel
theorem dX11_twoCars_14 : decode cX11_twoCars 14 = .ok (.invokevirtual 153, 3) := by decide +kernel
theorem dX11_twoCars_17 : decode cX11_twoCars 17 = .ok (.ireturn, 1) := by decide +kernel
theorem dX11_twoCars_18 : decode cX11_twoCars 18 = .ok (.aload_n 0, 1) := by decide +kernel
theorem dX11_twoCars_19 : decode cX11_twoCars 19 = .ok (.invokevirtual 375, 3) := by decide +kernel
theorem dX11_twoCars_22 : decode cX11_twoCars 22 = .ok (.iconst 0, 1) := by decide +kernel
theorem dX11_twoCars_23 : decode cX11_twoCars 23 = .ok (.istore_n 2, 1) := by decide +kernel
theorem dX11_twoCars_24 : decode cX11_twoCars 24 = .ok (.iconst 0, 1) := by decide +kernel
theorem dX11_twoCars_25 : decode cX11_twoCars 25 = .ok (.istore_n 3, 1) := by decide +kernel
theorem dX11_twoCars_26 : decode cX11_twoCars 26 = .ok (.iload_n 3, 1) := by decide +kernel
theorem dX11_twoCars_27 : decode cX11_twoCars 27 = .ok (.bipush 8, 2) := by decide +kernel
theorem dX11_twoCars_29 : decode cX11_twoCars 29 = .ok (.if_icmp .ge 47, 3) := by decide +kernel
theorem dX11_twoCars_32 : decode cX11_twoCars 32 = .ok (.iload_n 2, 1) := by decide +kernel
theorem dX11_twoCars_33 : decode cX11_twoCars 33 = .ok (.aload_n 0, 1) := by decide +kernel
theorem dX11_twoCars_34 : decode cX11_twoCars 34 = .ok (.getfield 95, 3) := by decide +kernel
theorem dX11_twoCars_37 : decode cX11_twoCars 37 = .ok (.bipush 8, 2) := by decide +kernel
theorem dX11_twoCars_39 : decode cX11_twoCars 39 = .ok (.iload_n 1, 1) := by decide +kernel
theorem dX11_twoCars_40 : decode cX11_twoCars 40 = .ok (.imul, 1) := by decide +kernel
theorem dX11_twoCars_41 : decode cX11_twoCars 41 = .ok (.iload_n 3, 1) := by decide +kernel
theorem dX11_twoCars_42 : decode cX11_twoCars 42 = .ok (.iadd, 1) := by decide +kernel
theorem dX11_twoCars_43 : decode cX11_twoCars 43 = .ok (.iaload, 1) := by decide +kernel
theorem dX11_twoCars_44 : decode cX11_twoCars 44 = .ok (.aload_n 0, 1) := by decide +kernel
theorem dX11_twoCars_45 : decode cX11_twoCars 45 = .ok (.getfield 95, 3) := by decide +kernel
theorem dX11_twoCars_48 : decode cX11_twoCars 48 = .ok (.bipush 8, 2) := by decide +kernel
theorem dX11_twoCars_50 : decode cX11_twoCars 50 = .ok (.aload_n 0, 1) := by decide +kernel
theorem dX11_twoCars_51 : decode cX11_twoCars 51 = .ok (.getfield 243, 3) := by decide +kernel
theorem dX11_twoCars_54 : decode cX11_twoCars 54 = .ok (.imul, 1) := by decide +kernel
theorem dX11_twoCars_55 : decode cX11_twoCars 55 = .ok (.iload_n 3, 1) := by decide +kernel
theorem dX11_twoCars_56 : decode cX11_twoCars 56 = .ok (.iadd, 1) := by decide +kernel
theorem dX11_twoCars_57 : decode cX11_twoCars 57 = .ok (.iaload, 1) := by decide +kernel
theorem dX11_twoCars_58 : decode cX11_twoCars 58 = .ok (.if_icmp .ge 9, 3) := by decide +kernel
theorem dX11_twoCars_61 : decode cX11_twoCars 61 = .ok (.iconst 1, 1) := by decide +kernel
theorem dX11_twoCars_62 : decode cX11_twoCars 62 = .ok (.iload_n 3, 1) := by decide +kernel
theorem dX11_twoCars_63 : decode cX11_twoCars 63 = .ok (.ishl, 1) := by decide +kernel
theorem dX11_twoCars_64 : decode cX11_twoCars 64 = .ok (.goto 4, 3) := by decide +kernel
theorem dX11_twoCars_67 : decode cX11_twoCars 67 = .ok (.iconst 0, 1) := by decide +kernel
theorem dX11_twoCars_68 : decode cX11_twoCars 68 = .ok (.ior, 1) := by decide +kernel
theorem dX11_twoCars_69 : decode cX11_twoCars 69 = .ok (.istore_n 2, 1) := by decide +kernel
theorem dX11_twoCars_70 : decode cX11_twoCars 70 = .ok (.iinc 3 1, 3) := by decide +kernel
theorem dX11_twoCars_73 : decode cX11_twoCars 73 = .ok (.goto (-47), 3) := by decide +kernel
theorem dX11_twoCars_76 : decode cX11_twoCars 76 = .ok (.iload_n 2, 1) := by decide +kernel
theorem dX11_twoCars_77 : decode cX11_twoCars 77 = .ok (.ireturn, 1) := by decide +kernel
theorem dX11_fitsLayer_0 : decode cX11_fitsLayer 0 = .ok (.aload_n 0, 1) := by decide +kernel
theorem dX11_fitsLayer_1 : decode cX11_fitsLayer 1 = .ok (.getfield 7, 3) := by decide +kernel
theorem dX11_fitsLayer_4 : decode cX11_fitsLayer 4 = .ok (.iload_n 2, 1) := by decide +kernel
theorem dX11_fitsLayer_5 : decode cX11_fitsLayer 5 = .ok (.iaload, 1) := by decide +kernel
theorem dX11_fitsLayer_6 : decode cX11_fitsLayer 6 = .ok (.aload_n 0, 1) := by decide +kernel
theorem dX11_fitsLayer_7 : decode cX11_fitsLayer 7 = .ok (.getfield 101, 3) := by decide +kernel
theorem dX11_fitsLayer_10 : decode cX11_fitsLayer 10 = .ok (.iload_n 1, 1) := by decide +kernel
theorem dX11_fitsLayer_11 : decode cX11_fitsLayer 11 = .ok (.iaload, 1) := by decide +kernel
theorem dX11_fitsLayer_12 : decode cX11_fitsLayer 12 = .ok (.bipush 50, 2) := by decide +kernel
theorem dX11_fitsLayer_14 : decode cX11_fitsLayer 14 = .ok (.isub, 1) := by decide +kernel
theorem dX11_fitsLayer_15 : decode cX11_fitsLayer 15 = .ok (.if_icmp .ne 24, 3) := by decide +kernel
theorem dX11_fitsLayer_18 : decode cX11_fitsLayer 18 = .ok (.aload_n 0, 1) := by decide +kernel
theorem dX11_fitsLayer_19 : decode cX11_fitsLayer 19 = .ok (.getfield 13, 3) := by decide +kernel
theorem dX11_fitsLayer_22 : decode cX11_fitsLayer 22 = .ok (.iload_n 2, 1) := by decide +kernel
theorem dX11_fitsLayer_23 : decode cX11_fitsLayer 23 = .ok (.iaload, 1) := by decide +kernel
theorem dX11_fitsLayer_24 : decode cX11_fitsLayer 24 = .ok (.aload_n 0, 1) := by decide +kernel
theorem dX11_fitsLayer_25 : decode cX11_fitsLayer 25 = .ok (.getfield 101, 3) := by decide +kernel
theorem dX11_fitsLayer_28 : decode cX11_fitsLayer 28 = .ok (.iload_n 1, 1) := by decide +kernel
theorem dX11_fitsLayer_29 : decode cX11_fitsLayer 29 = .ok (.iconst 1, 1) := by decide +kernel
theorem dX11_fitsLayer_30 : decode cX11_fitsLayer 30 = .ok (.iadd, 1) := by decide +kernel
theorem dX11_fitsLayer_31 : decode cX11_fitsLayer 31 = .ok (.iaload, 1) := by decide +kernel
theorem dX11_fitsLayer_32 : decode cX11_fitsLayer 32 = .ok (.if_icmp .ne 7, 3) := by decide +kernel
theorem dX11_fitsLayer_35 : decode cX11_fitsLayer 35 = .ok (.iconst 1, 1) := by decide +kernel
theorem dX11_fitsLayer_36 : decode cX11_fitsLayer 36 = .ok (.goto 4, 3) := by decide +kernel
theorem dX11_fitsLayer_39 : decode cX11_fitsLayer 39 = .ok (.iconst 0, 1) := by decide +kernel
theorem dX11_fitsLayer_40 : decode cX11_fitsLayer 40 = .ok (.ireturn, 1) := by decide +kernel
theorem dX11_track_0 : decode cX11_track 0 = .ok (.aload_n 0, 1) := by decide +kernel
theorem dX11_track_1 : decode cX11_track 1 = .ok (.iconst 0, 1) := by decide +kernel
theorem dX11_track_2 : decode cX11_track 2 = .ok (.putfield 104, 3) := by decide +kernel
theorem dX11_track_5 : decode cX11_track 5 = .ok (.iload_n 1, 1) := by decide +kernel
theorem dX11_track_6 : decode cX11_track 6 = .ok (.i2l, 1) := by decide +kernel
theorem dX11_track_7 : decode cX11_track 7 = .ok (.lconst 0, 1) := by decide +kernel
theorem dX11_track_8 : decode cX11_track 8 = .ok (.lconst 1, 1) := by decide +kernel
theorem dX11_track_9 : decode cX11_track 9 = .ok (.invokestatic 107, 3) := by decide +kernel
theorem dX11_track_12 : decode cX11_track 12 = .ok (.ifCond .ne 8, 3) := by decide +kernel
theorem dX11_track_15 : decode cX11_track 15 = .ok (.bipush (-2), 2) := by decide +kernel
theorem dX11_track_17 : decode cX11_track 17 = .ok (.goto 19, 3) := by decide +kernel
theorem dX11_track_20 : decode cX11_track 20 = .ok (.aload_n 0, 1) := by decide +kernel
theorem dX11_track_21 : decode cX11_track 21 = .ok (.getfield 344, 3) := by decide +kernel
theorem dX11_track_24 : decode cX11_track 24 = .ok (.iconst 2, 1) := by decide +kernel
theorem dX11_track_25 : decode cX11_track 25 = .ok (.irem, 1) := by decide +kernel
theorem dX11_track_26 : decode cX11_track 26 = .ok (.iconst 1, 1) := by decide +kernel
theorem dX11_track_27 : decode cX11_track 27 = .ok (.if_icmp .ne 8, 3) := by decide +kernel
theorem dX11_track_30 : decode cX11_track 30 = .ok (.bipush (-3), 2) := by decide +kernel
theorem dX11_track_32 : decode cX11_track 32 = .ok (.goto 4, 3) := by decide +kernel
theorem dX11_track_35 : decode cX11_track 35 = .ok (.iconst 0, 1) := by decide +kernel
theorem dX11_track_36 : decode cX11_track 36 = .ok (.istore_n 2, 1) := by decide +kernel
theorem dX11_track_37 : decode cX11_track 37 = .ok (.iload_n 2, 1) := by decide +kernel
theorem dX11_track_38 : decode cX11_track 38 = .ok (.ifCond .ge 9, 3) := by decide +kernel
theorem dX11_track_41 : decode cX11_track 41 = .ok (.aload_n 0, 1) := by decide +kernel
theorem dX11_track_42 : decode cX11_track 42 = .ok (.iload_n 2, 1) := by decide +kernel
theorem dX11_track_43 : decode cX11_track 43 = .ok (.invokevirtual 153, 3) := by decide +kernel
theorem dX11_track_46 : decode cX11_track 46 = .ok (.ireturn, 1) := by decide +kernel
theorem dX11_track_47 : decode cX11_track 47 = .ok (.iconst 0, 1) := by decide +kernel
theorem dX11_track_48 : decode cX11_track 48 = .ok (.istore_n 3, 1) := by decide +kernel
theorem dX11_track_49 : decode cX11_track 49 = .ok (.bipush (-9), 2) := by decide +kernel
theorem dX11_track_51 : decode cX11_track 51 = .ok (.istore 4, 2) := by decide +kernel
theorem dX11_track_53 : decode cX11_track 53 = .ok (.iconst 0, 1) := by decide +kernel
theorem dX11_track_54 : decode cX11_track 54 = .ok (.istore 5, 2) := by decide +kernel
theorem dX11_track_56 : decode cX11_track 56 = .ok (.iload 5, 2) := by decide +kernel
theorem dX11_track_58 : decode cX11_track 58 = .ok (.aload_n 0, 1) := by decide +kernel
theorem dX11_track_59 : decode cX11_track 59 = .ok (.getfield 344, 3) := by decide +kernel
theorem dX11_track_62 : decode cX11_track 62 = .ok (.if_icmp .ge 78, 3) := by decide +kernel
theorem dX11_track_65 : decode cX11_track 65 = .ok (.iconst 0, 1) := by decide +kernel
theorem dX11_track_66 : decode cX11_track 66 = .ok (.istore 6, 2) := by decide +kernel
theorem dX11_track_68 : decode cX11_track 68 = .ok (.iconst 0, 1) := by decide +kernel
theorem dX11_track_69 : decode cX11_track 69 = .ok (.istore 7, 2) := by decide +kernel
theorem dX11_track_71 : decode cX11_track 71 = .ok (.iload 7, 2) := by decide +kernel
theorem dX11_track_73 : decode cX11_track 73 = .ok (.bipush 8, 2) := by decide +kernel
theorem dX11_track_75 : decode cX11_track 75 = .ok (.if_icmp .ge 33, 3) := by decide +kernel
theorem dX11_track_78 : decode cX11_track 78 = .ok (.iload 6, 2) := by decide +kernel
theorem dX11_track_80 : decode cX11_track 80 = .ok (.aload_n 0, 1) := by decide +kernel
theorem dX11_track_81 : decode cX11_track 81 = .ok (.iload 5, 2) := by decide +kernel
theorem dX11_track_83 : decode cX11_track 83 = .ok (.iload 7, 2) := by decide +kernel
theorem dX11_track_85 : decode cX11_track 85 = .ok (.invokevirtual 381, 3) := by decide +kernel
theorem dX11_track_88 : decode cX11_track 88 = .ok (.ifCond .eq 10, 3) := by decide +kernel
theorem dX11_track_91 : decode cX11_track 91 = .ok (.iconst 1, 1) := by decide +kernel
theorem dX11_track_92 : decode cX11_track 92 = .ok (.iload 7, 2) := by decide +kernel
theorem dX11_track_94 : decode cX11_track 94 = .ok (.ishl, 1) := by decide +kernel
theorem dX11_track_95 : decode cX11_track 95 = .ok (.goto 4, 3) := by decide +kernel
theorem dX11_track_98 : decode cX11_track 98 = .ok (.iconst 0, 1) := by decide +kernel
theorem dX11_track_99 : decode cX11_track 99 = .ok (.ior, 1) := by decide +kernel
theorem dX11_track_100 : decode cX11_track 100 = .ok (.istore 6, 2) := by decide +kernel
theorem dX11_track_102 : decode cX11_track 102 = .ok (.iinc 7 1, 3) := by decide +kernel
theorem dX11_track_105 : decode cX11_track 105 = .ok (.goto (-34), 3) := by decide +kernel
theorem dX11_track_108 : decode cX11_track 108 = .ok (.iload_n 3, 1) := by decide +kernel
theorem dX11_track_109 : decode cX11_track 109 = .ok (.iload 6, 2) := by decide +kernel
theorem dX11_track_111 : decode cX11_track 111 = .ok (.ior, 1) := by decide +kernel
theorem dX11_track_112 : decode cX11_track 112 = .ok (.istore_n 3, 1) := by decide +kernel
theorem dX11_track_113 : decode cX11_track 113 = .ok (.iload 4, 2) := by decide +kernel
theorem dX11_track_115 : decode cX11_track 115 = .ok (.ifCond .ge 15, 3) := by decide +kernel
theorem dX11_track_118 : decode cX11_track 118 = .ok (.iload 6, 2) := by decide +kernel
theorem dX11_track_120 : decode cX11_track 120 = .ok (.ifCond .ne 10, 3) := by decide +kernel
theorem dX11_track_123 : decode cX11_track 123 = .ok (.iload 5, 2) := by decide +kernel
theorem dX11_track_125 : decode cX11_track 125 = .ok (.iconst 2, 1) := by decide +kernel
theorem dX11_track_126 : decode cX11_track 126 = .ok (.idiv, 1) := by decide +kernel
theorem dX11_track_127 : decode cX11_track 127 = .ok (.goto 5, 3) := by decide +kernel
theorem dX11_track_130 : decode cX11_track 130 = .ok (.iload 4, 2) := by decide +kernel
theorem dX11_track_132 : decode cX11_track 132 = .ok (.istore 4, 2) := by decide +kernel
theorem dX11_track_134 : decode cX11_track 134 = .ok (.iinc 5 2, 3) := by decide +kernel
theorem dX11_track_137 : decode cX11_track 137 = .ok (.goto (-81), 3) := by decide +kernel
theorem dX11_track_140 : decode cX11_track 140 = .ok (.iload_n 1, 1) := by decide +kernel
theorem dX11_track_141 : decode cX11_track 141 = .ok (.ifCond .ne 7, 3) := by decide +kernel
theorem dX11_track_144 : decode cX11_track 144 = .ok (.iload_n 3, 1) := by decide +kernel
theorem dX11_track_145 : decode cX11_track 145 = .ok (.goto 5, 3) := by decide +kernel
theorem dX11_track_148 : decode cX11_track 148 = .ok (.iload 4, 2) := by decide +kernel
theorem dX11_track_150 : decode cX11_track 150 = .ok (.ireturn, 1) := by decide +kernel
theorem dX11_row_0 : decode cX11_row 0 = .ok (.aload_n 0, 1) := by decide +kernel
theorem dX11_row_1 : decode cX11_row 1 = .ok (.iconst 0, 1) := by decide +kernel
theorem dX11_row_2 : decode cX11_row 2 = .ok (.putfield 104, 3) := by decide +kernel
theorem dX11_row_5 : decode cX11_row 5 = .ok (.iload_n 1, 1) := by decide +kernel
theorem dX11_row_6 : decode cX11_row 6 = .ok (.ifCond .ge 10, 3) := by decide +kernel
theorem dX11_row_9 : decode cX11_row 9 = .ok (.aload_n 0, 1) := by decide +kernel
theorem dX11_row_10 : decode cX11_row 10 = .ok (.bipush (-4), 2) := by decide +kernel
theorem dX11_row_12 : decode cX11_row 12 = .ok (.invokevirtual 153, 3) := by decide +kernel
theorem dX11_row_15 : decode cX11_row 15 = .ok (.ireturn, 1) := by decide +kernel
theorem dX11_row_16 : decode cX11_row 16 = .ok (.iload_n 1, 1) := by decide +kernel
theorem dX11_row_17 : decode cX11_row 17 = .ok (.bipush 99, 2) := by decide +kernel
theorem dX11_row_19 : decode cX11_row 19 = .ok (.if_icmp .gt 12, 3) := by decide +kernel
theorem dX11_row_22 : decode cX11_row 22 = .ok (.aload_n 0, 1) := by decide +kernel
theorem dX11_row_23 : decode cX11_row 23 = .ok (.getfield 344, 3) := by decide +kernel
theorem dX11_row_26 : decode cX11_row 26 = .ok (.bipush 12, 2) := by decide +kernel
theorem dX11_row_28 : decode cX11_row 28 = .ok (.if_icmp .ne 10, 3) := by decide +kernel
theorem dX11_row_31 : decode cX11_row 31 = .ok (.aload_n 0, 1) := by decide +kernel
theorem dX11_row_32 : decode cX11_row 32 = .ok (.bipush (-6), 2) := by decide +kernel
theorem dX11_row_34 : decode cX11_row 34 = .ok (.invokevirtual 153, 3) := by decide +kernel
theorem dX11_row_37 : decode cX11_row 37 = .ok (.ireturn, 1) := by decide +kernel
theorem dX11_row_38 : decode cX11_row 38 = .ok (.aload_n 0, 1) := by decide +kernel
theorem dX11_row_39 : decode cX11_row 39 = .ok (.getfield 101, 3) := by decide +kernel
theorem dX11_row_42 : decode cX11_row 42 = .ok (.aload_n 0, 1) := by decide +kernel
theorem dX11_row_43 : decode cX11_row 43 = .ok (.getfield 344, 3) := by decide +kernel
theorem dX11_row_46 : decode cX11_row 46 = .ok (.iload_n 1, 1) := by decide +kernel
theorem dX11_row_47 : decode cX11_row 47 = .ok (.iastore, 1) := by decide +kernel
theorem dX11_row_48 : decode cX11_row 48 = .ok (.aload_n 0, 1) := by decide +kernel
theorem dX11_row_49 : decode cX11_row 49 = .ok (.dup, 1) := by decide +kernel
theorem dX11_row_50 : decode cX11_row 50 = .ok (.getfield 344, 3) := by decide +kernel
theorem dX11_row_53 : decode cX11_row 53 = .ok (.iconst 1, 1) := by decide +kernel
theorem dX11_row_54 : decode cX11_row 54 = .ok (.iadd, 1) := by decide +kernel
theorem dX11_row_55 : decode cX11_row 55 = .ok (.putfield 344, 3) := by decide +kernel
theorem dX11_row_58 : decode cX11_row 58 = .ok (.aload_n 0, 1) := by decide +kernel
theorem dX11_row_59 : decode cX11_row 59 = .ok (.getfield 344, 3) := by decide +kernel
theorem dX11_row_62 : decode cX11_row 62 = .ok (.ireturn, 1) := by decide +kernel
theorem dX11_judge_0 : decode cX11_judge 0 = .ok (.aload_n 0, 1) := by decide +kernel
theorem dX11_judge_1 : decode cX11_judge 1 = .ok (.iconst 0, 1) := by decide +kernel
theorem dX11_judge_2 : decode cX11_judge 2 = .ok (.putfield 104, 3) := by decide +kernel
theorem dX11_judge_5 : decode cX11_judge 5 = .ok (.aload_n 0, 1) := by decide +kernel
theorem dX11_judge_6 : decode cX11_judge 6 = .ok (.getfield 344, 3) := by decide +kernel
theorem dX11_judge_9 : decode cX11_judge 9 = .ok (.istore_n 1, 1) := by decide +kernel
theorem dX11_judge_10 : decode cX11_judge 10 = .ok (.aload_n 0, 1) := by decide +kernel
theorem dX11_judge_11 : decode cX11_judge 11 = .ok (.iconst 0, 1) := by decide +kernel
theorem dX11_judge_12 : decode cX11_judge 12 = .ok (.putfield 344, 3) := by decide +kernel
theorem dX11_judge_15 : decode cX11_judge 15 = .ok (.bipush (-9), 2) := by decide +kernel
theorem dX11_judge_17 : decode cX11_judge 17 = .ok (.istore_n 2, 1) := by decide +kernel
theorem dX11_judge_18 : decode cX11_judge 18 = .ok (.aload_n 0, 1) := by decide +kernel
theorem dX11_judge_19 : decode cX11_judge 19 = .ok (.invokevirtual 291, 3) := by decide +kernel
theorem dX11_judge_22 : decode cX11_judge 22 = .ok (.iconst 0, 1) := by decide +kernel
theorem dX11_judge_23 : decode cX11_judge 23 = .ok (.istore_n 3, 1) := by decide +kernel
theorem dX11_judge_24 : decode cX11_judge 24 = .ok (.iload_n 3, 1) := by decide +kernel
theorem dX11_judge_25 : decode cX11_judge 25 = .ok (.iload_n 1, 1) := by decide +kernel
theorem dX11_judge_26 : decode cX11_judge 26 = .ok (.if_icmp .ge 37, 3) := by decide +kernel
theorem dX11_judge_29 : decode cX11_judge 29 = .ok (.iload_n 2, 1) := by decide +kernel
theorem dX11_judge_30 : decode cX11_judge 30 = .ok (.ifCond .ge 33, 3) := by decide +kernel
theorem dX11_judge_33 : decode cX11_judge 33 = .ok (.aload_n 0, 1) := by decide +kernel
theorem dX11_judge_34 : decode cX11_judge 34 = .ok (.invokevirtual 276, 3) := by decide +kernel
theorem dX11_judge_37 : decode cX11_judge 37 = .ok (.aload_n 0, 1) := by decide +kernel
theorem dX11_judge_38 : decode cX11_judge 38 = .ok (.getfield 127, 3) := by decide +kernel
theorem dX11_judge_41 : decode cX11_judge 41 = .ok (.aload_n 0, 1) := by decide +kernel
theorem dX11_judge_42 : decode cX11_judge 42 = .ok (.getfield 101, 3) := by decide +kernel
theorem dX11_judge_45 : decode cX11_judge 45 = .ok (.iload_n 3, 1) := by decide +kernel
theorem dX11_judge_46 : decode cX11_judge 46 = .ok (.iaload, 1) := by decide +kernel
theorem dX11_judge_47 : decode cX11_judge 47 = .ok (.if_icmp .ne 8, 3) := by decide +kernel
theorem dX11_judge_50 : decode cX11_judge 50 = .ok (.bipush (-9), 2) := by decide +kernel
theorem dX11_judge_52 : decode cX11_judge 52 = .ok (.goto 4, 3) := by decide +kernel
theorem dX11_judge_55 : decode cX11_judge 55 = .ok (.iload_n 3, 1) := by decide +kernel
theorem dX11_judge_56 : decode cX11_judge 56 = .ok (.istore_n 2, 1) := by decide +kernel
theorem dX11_judge_57 : decode cX11_judge 57 = .ok (.iinc 3 1, 3) := by decide +kernel
theorem dX11_judge_60 : decode cX11_judge 60 = .ok (.goto (-36), 3) := by decide +kernel
theorem dX11_judge_63 : decode cX11_judge 63 = .ok (.aload_n 0, 1) := by decide +kernel
theorem dX11_judge_64 : decode cX11_judge 64 = .ok (.invokevirtual 270, 3) := by decide +kernel
theorem dX11_judge_67 : decode cX11_judge 67 = .ok (.iload_n 2, 1) := by decide +kernel
theorem dX11_judge_68 : decode cX11_judge 68 = .ok (.ireturn, 1) := by decide +kernel
theorem dX11_clear_0 : decode cX11_clear 0 = .ok (.aload_n 0, 1) := by decide +kernel
theorem dX11_clear_1 : decode cX11_clear 1 = .ok (.iconst 0, 1) := by decide +kernel
theorem dX11_clear_2 : decode cX11_clear 2 = .ok (.putfield 104, 3) := by decide +kernel
theorem dX11_clear_5 : decode cX11_clear 5 = .ok (.aload_n 0, 1) := by decide +kernel
theorem dX11_clear_6 : decode cX11_clear 6 = .ok (.getfield 344, 3) := by decide +kernel
theorem dX11_clear_9 : decode cX11_clear 9 = .ok (.istore_n 1, 1) := by decide +kernel
theorem dX11_clear_10 : decode cX11_clear 10 = .ok (.aload_n 0, 1) := by decide +kernel
theorem dX11_clear_11 : decode cX11_clear 11 = .ok (.iconst 0, 1) := by decide +kernel
theorem dX11_clear_12 : decode cX11_clear 12 = .ok (.putfield 344, 3) := by decide +kernel
theorem dX11_clear_15 : decode cX11_clear 15 = .ok (.iload_n 1, 1) := by decide +kernel
theorem dX11_clear_16 : decode cX11_clear 16 = .ok (.ireturn, 1) := by decide +kernel
theorem dX11_lots_0 : decode cX11_lots 0 = .ok (.aload_n 0, 1) := by decide +kernel
theorem dX11_lots_1 : decode cX11_lots 1 = .ok (.iconst 0, 1) := by decide +kernel
theorem dX11_lots_2 : decode cX11_lots 2 = .ok (.putfield 104, 3) := by decide +kernel
theorem dX11_lots_5 : decode cX11_lots 5 = .ok (.iload_n 1, 1) := by decide +kernel
theorem dX11_lots_6 : decode cX11_lots 6 = .ok (.iconst 1, 1) := by decide +kernel
theorem dX11_lots_7 : decode cX11_lots 7 = .ok (.bipush 20, 2) := by decide +kernel
theorem dX11_lots_9 : decode cX11_lots 9 = .ok (.invokestatic 255, 3) := by decide +kernel
theorem dX11_lots_12 : decode cX11_lots 12 = .ok (.iload_n 3, 1) := by decide +kernel
theorem dX11_lots_13 : decode cX11_lots 13 = .ok (.iconst 1, 1) := by decide +kernel
theorem dX11_lots_14 : decode cX11_lots 14 = .ok (.invokestatic 288, 3) := by decide +kernel
theorem dX11_lots_17 : decode cX11_lots 17 = .ok (.istore 4, 2) := by decide +kernel
theorem dX11_lots_19 : decode cX11_lots 19 = .ok (.iload 4, 2) := by decide +kernel
theorem dX11_lots_21 : decode cX11_lots 21 = .ok (.ifCond .ge 10, 3) := by decide +kernel
theorem dX11_lots_24 : decode cX11_lots 24 = .ok (.aload_n 0, 1) := by decide +kernel
theorem dX11_lots_25 : decode cX11_lots 25 = .ok (.iload 4, 2) := by decide +kernel
theorem dX11_lots_27 : decode cX11_lots 27 = .ok (.invokevirtual 153, 3) := by decide +kernel
theorem dX11_lots_30 : decode cX11_lots 30 = .ok (.ireturn, 1) := by decide +kernel
theorem dX11_lots_31 : decode cX11_lots 31 = .ok (.iload_n 2, 1) := by decide +kernel
theorem dX11_lots_32 : decode cX11_lots 32 = .ok (.istore 5, 2) := by decide +kernel
theorem dX11_lots_34 : decode cX11_lots 34 = .ok (.iconst 0, 1) := by decide +kernel
theorem dX11_lots_35 : decode cX11_lots 35 = .ok (.istore 6, 2) := by decide +kernel
theorem dX11_lots_37 : decode cX11_lots 37 = .ok (.iconst 0, 1) := by decide +kernel
theorem dX11_lots_38 : decode cX11_lots 38 = .ok (.istore 7, 2) := by decide +kernel
theorem dX11_lots_40 : decode cX11_lots 40 = .ok (.aload_n 0, 1) := by decide +kernel
theorem dX11_lots_41 : decode cX11_lots 41 = .ok (.invokevirtual 291, 3) := by decide +kernel
theorem dX11_lots_44 : decode cX11_lots 44 = .ok (.iconst 0, 1) := by decide +kernel
theorem dX11_lots_45 : decode cX11_lots 45 = .ok (.istore 8, 2) := by decide +kernel
theorem dX11_lots_47 : decode cX11_lots 47 = .ok (.iload 8, 2) := by decide +kernel
theorem dX11_lots_49 : decode cX11_lots 49 = .ok (.iload_n 1, 1) := by decide +kernel
theorem dX11_lots_50 : decode cX11_lots 50 = .ok (.if_icmp .ge 146, 3) := by decide +kernel
theorem dX11_lots_53 : decode cX11_lots 53 = .ok (.aload_n 0, 1) := by decide +kernel
theorem dX11_lots_54 : decode cX11_lots 54 = .ok (.invokevirtual 270, 3) := by decide +kernel
theorem dX11_lots_57 : decode cX11_lots 57 = .ok (.iconst 0, 1) := by decide +kernel
theorem dX11_lots_58 : decode cX11_lots 58 = .ok (.istore 9, 2) := by decide +kernel
theorem dX11_lots_60 : decode cX11_lots 60 = .ok (.iconst 0, 1) := by decide +kernel
theorem dX11_lots_61 : decode cX11_lots 61 = .ok (.istore 10, 2) := by decide +kernel
theorem dX11_lots_63 : decode cX11_lots 63 = .ok (.iload 10, 2) := by decide +kernel
theorem dX11_lots_65 : decode cX11_lots 65 = .ok (.bipush 40, 2) := by decide +kernel
theorem dX11_lots_67 : decode cX11_lots 67 = .ok (.if_icmp .ge 77, 3) := by decide +kernel
theorem dX11_lots_70 : decode cX11_lots 70 = .ok (.iload 9, 2) := by decide +kernel
theorem dX11_lots_72 : decode cX11_lots 72 = .ok (.ifCond .ne 72, 3) := by decide +kernel
theorem dX11_lots_75 : decode cX11_lots 75 = .ok (.iload 5, 2) := by decide +kernel
theorem dX11_lots_77 : decode cX11_lots 77 = .ok (.ldc_w 385, 3) := by decide +kernel
theorem dX11_lots_80 : decode cX11_lots 80 = .ok (.imul, 1) := by decide +kernel
theorem dX11_lots_81 : decode cX11_lots 81 = .ok (.sipush 12345, 3) := by decide +kernel
theorem dX11_lots_84 : decode cX11_lots 84 = .ok (.iadd, 1) := by decide +kernel
theorem dX11_lots_85 : decode cX11_lots 85 = .ok (.istore 5, 2) := by decide +kernel
theorem dX11_lots_87 : decode cX11_lots 87 = .ok (.iload 5, 2) := by decide +kernel
theorem dX11_lots_89 : decode cX11_lots 89 = .ok (.ldc_w 386, 3) := by decide +kernel
theorem dX11_lots_92 : decode cX11_lots 92 = .ok (.iand, 1) := by decide +kernel
theorem dX11_lots_93 : decode cX11_lots 93 = .ok (.ldc_w 387, 3) := by decide +kernel
theorem dX11_lots_96 : decode cX11_lots 96 = .ok (.idiv, 1) := by decide +kernel
theorem dX11_lots_97 : decode cX11_lots 97 = .ok (.iconst 3, 1) := by decide +kernel
theorem dX11_lots_98 : decode cX11_lots 98 = .ok (.irem, 1) := by decide +kernel
theorem dX11_lots_99 : decode cX11_lots 99 = .ok (.istore 11, 2) := by decide +kernel
theorem dX11_lots_101 : decode cX11_lots 101 = .ok (.aload_n 0, 1) := by decide +kernel
theorem dX11_lots_102 : decode cX11_lots 102 = .ok (.iload 11, 2) := by decide +kernel
theorem dX11_lots_104 : decode cX11_lots 104 = .ok (.iconst 1, 1) := by decide +kernel
theorem dX11_lots_105 : decode cX11_lots 105 = .ok (.if_icmp .ne 14, 3) := by decide +kernel
theorem dX11_lots_108 : decode cX11_lots 108 = .ok (.aload_n 0, 1) := by decide +kernel
theorem dX11_lots_109 : decode cX11_lots 109 = .ok (.getfield 23, 3) := by decide +kernel
theorem dX11_lots_112 : decode cX11_lots 112 = .ok (.ifCond .ne 7, 3) := by decide +kernel
theorem dX11_lots_115 : decode cX11_lots 115 = .ok (.iconst 0, 1) := by decide +kernel
theorem dX11_lots_116 : decode cX11_lots 116 = .ok (.goto 5, 3) := by decide +kernel
theorem dX11_lots_119 : decode cX11_lots 119 = .ok (.iload 11, 2) := by decide +kernel
theorem dX11_lots_121 : decode cX11_lots 121 = .ok (.invokevirtual 142, 3) := by decide +kernel
theorem dX11_lots_124 : decode cX11_lots 124 = .ok (.aload_n 0, 1) := by decide +kernel
theorem dX11_lots_125 : decode cX11_lots 125 = .ok (.getfield 127, 3) := by decide +kernel
theorem dX11_lots_128 : decode cX11_lots 128 = .ok (.ifCond .ne 7, 3) := by decide +kernel
theorem dX11_lots_131 : decode cX11_lots 131 = .ok (.iconst 1, 1) := by decide +kernel
theorem dX11_lots_132 : decode cX11_lots 132 = .ok (.goto 4, 3) := by decide +kernel
theorem dX11_lots_135 : decode cX11_lots 135 = .ok (.iconst 0, 1) := by decide +kernel
theorem dX11_lots_136 : decode cX11_lots 136 = .ok (.istore 9, 2) := by decide +kernel
theorem dX11_lots_138 : decode cX11_lots 138 = .ok (.iinc 10 1, 3) := by decide +kernel
theorem dX11_lots_141 : decode cX11_lots 141 = .ok (.goto (-78), 3) := by decide +kernel
theorem dX11_lots_144 : decode cX11_lots 144 = .ok (.iload 9, 2) := by decide +kernel
theorem dX11_lots_146 : decode cX11_lots 146 = .ok (.ifCond .eq 10, 3) := by decide +kernel
theorem dX11_lots_149 : decode cX11_lots 149 = .ok (.aload_n 0, 1) := by decide +kernel
theorem dX11_lots_150 : decode cX11_lots 150 = .ok (.invokevirtual 285, 3) := by decide +kernel
theorem dX11_lots_153 : decode cX11_lots 153 = .ok (.goto 5, 3) := by decide +kernel
theorem dX11_lots_156 : decode cX11_lots 156 = .ok (.bipush (-9), 2) := by decide +kernel
theorem dX11_lots_158 : decode cX11_lots 158 = .ok (.istore 10, 2) := by decide +kernel
theorem dX11_lots_160 : decode cX11_lots 160 = .ok (.iload 6, 2) := by decide +kernel
theorem dX11_lots_162 : decode cX11_lots 162 = .ok (.iload 10, 2) := by decide +kernel
theorem dX11_lots_164 : decode cX11_lots 164 = .ok (.ifCond .lt 7, 3) := by decide +kernel
theorem dX11_lots_167 : decode cX11_lots 167 = .ok (.iconst 1, 1) := by decide +kernel
theorem dX11_lots_168 : decode cX11_lots 168 = .ok (.goto 4, 3) := by decide +kernel
theorem dX11_lots_171 : decode cX11_lots 171 = .ok (.iconst 0, 1) := by decide +kernel
theorem dX11_lots_172 : decode cX11_lots 172 = .ok (.iadd, 1) := by decide +kernel
theorem dX11_lots_173 : decode cX11_lots 173 = .ok (.istore 6, 2) := by decide +kernel
theorem dX11_lots_175 : decode cX11_lots 175 = .ok (.iload 7, 2) := by decide +kernel
theorem dX11_lots_177 : decode cX11_lots 177 = .ok (.aload_n 0, 1) := by decide +kernel
theorem dX11_lots_178 : decode cX11_lots 178 = .ok (.iload 10, 2) := by decide +kernel
theorem dX11_lots_180 : decode cX11_lots 180 = .ok (.aload_n 0, 1) := by decide +kernel
theorem dX11_lots_181 : decode cX11_lots 181 = .ok (.getfield 130, 3) := by decide +kernel
theorem dX11_lots_184 : decode cX11_lots 184 = .ok (.invokevirtual 259, 3) := by decide +kernel
theorem dX11_lots_187 : decode cX11_lots 187 = .ok (.iadd, 1) := by decide +kernel
theorem dX11_lots_188 : decode cX11_lots 188 = .ok (.istore 7, 2) := by decide +kernel
theorem dX11_lots_190 : decode cX11_lots 190 = .ok (.iinc 8 1, 3) := by decide +kernel
theorem dX11_lots_193 : decode cX11_lots 193 = .ok (.goto (-146), 3) := by decide +kernel
theorem dX11_lots_196 : decode cX11_lots 196 = .ok (.aload_n 0, 1) := by decide +kernel
theorem dX11_lots_197 : decode cX11_lots 197 = .ok (.invokevirtual 270, 3) := by decide +kernel
theorem dX11_lots_200 : decode cX11_lots 200 = .ok (.iload_n 3, 1) := by decide +kernel
theorem dX11_lots_201 : decode cX11_lots 201 = .ok (.ifCond .ne 8, 3) := by decide +kernel
theorem dX11_lots_204 : decode cX11_lots 204 = .ok (.iload 6, 2) := by decide +kernel
theorem dX11_lots_206 : decode cX11_lots 206 = .ok (.goto 5, 3) := by decide +kernel
theorem dX11_lots_209 : decode cX11_lots 209 = .ok (.iload 7, 2) := by decide +kernel
theorem dX11_lots_211 : decode cX11_lots 211 = .ok (.ireturn, 1) := by decide +kernel
theorem dX11_count_0 : decode cX11_count 0 = .ok (.aload_n 0, 1) := by decide +kernel
theorem dX11_count_1 : decode cX11_count 1 = .ok (.iconst 0, 1) := by decide +kernel
theorem dX11_count_2 : decode cX11_count 2 = .ok (.putfield 104, 3) := by decide +kernel
theorem dX11_count_5 : decode cX11_count 5 = .ok (.iload_n 1, 1) := by decide +kernel
theorem dX11_count_6 : decode cX11_count 6 = .ok (.tableswitch 155 0 18 #[90, 95, 100, 105, 110, 115, 120, 125, 130, 135, 140, 155, 155, 155, 155, 155, 155, 145, 150], 90) := by decide +kernel
theorem dX11_count_96 : decode cX11_count 96 = .ok (.aload_n 0, 1) := by decide +kernel
theorem dX11_count_97 : decode cX11_count 97 = .ok (.getfield 111, 3) := by decide +kernel
theorem dX11_count_100 : decode cX11_count 100 = .ok (.ireturn, 1) := by decide +kernel
theorem dX11_count_101 : decode cX11_count 101 = .ok (.aload_n 0, 1) := by decide +kernel
theorem dX11_count_102 : decode cX11_count 102 = .ok (.getfield 127, 3) := by decide +kernel
theorem dX11_count_105 : decode cX11_count 105 = .ok (.ireturn, 1) := by decide +kernel
theorem dX11_count_106 : decode cX11_count 106 = .ok (.aload_n 0, 1) := by decide +kernel
theorem dX11_count_107 : decode cX11_count 107 = .ok (.getfield 16, 3) := by decide +kernel
theorem dX11_count_110 : decode cX11_count 110 = .ok (.ireturn, 1) := by decide +kernel
theorem dX11_count_111 : decode cX11_count 111 = .ok (.aload_n 0, 1) := by decide +kernel
theorem dX11_count_112 : decode cX11_count 112 = .ok (.getfield 133, 3) := by decide +kernel
theorem dX11_count_115 : decode cX11_count 115 = .ok (.ireturn, 1) := by decide +kernel
theorem dX11_count_116 : decode cX11_count 116 = .ok (.aload_n 0, 1) := by decide +kernel
theorem dX11_count_117 : decode cX11_count 117 = .ok (.getfield 20, 3) := by decide +kernel
theorem dX11_count_120 : decode cX11_count 120 = .ok (.ireturn, 1) := by decide +kernel
theorem dX11_count_121 : decode cX11_count 121 = .ok (.aload_n 0, 1) := by decide +kernel
theorem dX11_count_122 : decode cX11_count 122 = .ok (.getfield 23, 3) := by decide +kernel
theorem dX11_count_125 : decode cX11_count 125 = .ok (.ireturn, 1) := by decide +kernel
theorem dX11_count_126 : decode cX11_count 126 = .ok (.aload_n 0, 1) := by decide +kernel
theorem dX11_count_127 : decode cX11_count 127 = .ok (.getfield 26, 3) := by decide +kernel
theorem dX11_count_130 : decode cX11_count 130 = .ok (.ireturn, 1) := by decide +kernel
theorem dX11_count_131 : decode cX11_count 131 = .ok (.aload_n 0, 1) := by decide +kernel
theorem dX11_count_132 : decode cX11_count 132 = .ok (.getfield 29, 3) := by decide +kernel
theorem dX11_count_135 : decode cX11_count 135 = .ok (.ireturn, 1) := by decide +kernel
theorem dX11_count_136 : decode cX11_count 136 = .ok (.aload_n 0, 1) := by decide +kernel
theorem dX11_count_137 : decode cX11_count 137 = .ok (.getfield 136, 3) := by decide +kernel
theorem dX11_count_140 : decode cX11_count 140 = .ok (.ireturn, 1) := by decide +kernel
theorem dX11_count_141 : decode cX11_count 141 = .ok (.aload_n 0, 1) := by decide +kernel
theorem dX11_count_142 : decode cX11_count 142 = .ok (.getfield 156, 3) := by decide +kernel
theorem dX11_count_145 : decode cX11_count 145 = .ok (.ireturn, 1) := by decide +kernel
theorem dX11_count_146 : decode cX11_count 146 = .ok (.aload_n 0, 1) := by decide +kernel
theorem dX11_count_147 : decode cX11_count 147 = .ok (.getfield 344, 3) := by decide +kernel
theorem dX11_count_150 : decode cX11_count 150 = .ok (.ireturn, 1) := by decide +kernel
theorem dX11_count_151 : decode cX11_count 151 = .ok (.aload_n 0, 1) := by decide +kernel
theorem dX11_count_152 : decode cX11_count 152 = .ok (.getfield 243, 3) := by decide +kernel
theorem dX11_count_155 : decode cX11_count 155 = .ok (.ireturn, 1) := by decide +kernel
theorem dX11_count_156 : decode cX11_count 156 = .ok (.aload_n 0, 1) := by decide +kernel
theorem dX11_count_157 : decode cX11_count 157 = .ok (.getfield 225, 3) := by decide +kernel
theorem dX11_count_160 : decode cX11_count 160 = .ok (.ireturn, 1) := by decide +kernel
theorem dX11_count_161 : decode cX11_count 161 = .ok (.iload_n 1, 1) := by decide +kernel
theorem dX11_count_162 : decode cX11_count 162 = .ok (.i2l, 1) := by decide +kernel
theorem dX11_count_163 : decode cX11_count 163 = .ok (.ldc2_w 388, 3) := by decide +kernel
theorem dX11_count_166 : decode cX11_count 166 = .ok (.ldc2_w 390, 3) := by decide +kernel
theorem dX11_count_169 : decode cX11_count 169 = .ok (.invokestatic 107, 3) := by decide +kernel
theorem dX11_count_172 : decode cX11_count 172 = .ok (.ifCond .eq 15, 3) := by decide +kernel
theorem dX11_count_175 : decode cX11_count 175 = .ok (.aload_n 0, 1) := by decide +kernel
theorem dX11_count_176 : decode cX11_count 176 = .ok (.getfield 53, 3) := by decide +kernel
theorem dX11_count_179 : decode cX11_count 179 = .ok (.iload_n 1, 1) := by decide +kernel
theorem dX11_count_180 : decode cX11_count 180 = .ok (.bipush 10, 2) := by decide +kernel
theorem dX11_count_182 : decode cX11_count 182 = .ok (.isub, 1) := by decide +kernel
theorem dX11_count_183 : decode cX11_count 183 = .ok (.iaload, 1) := by decide +kernel
theorem dX11_count_184 : decode cX11_count 184 = .ok (.goto 5, 3) := by decide +kernel
theorem dX11_count_187 : decode cX11_count 187 = .ok (.bipush (-9), 2) := by decide +kernel
theorem dX11_count_189 : decode cX11_count 189 = .ok (.ireturn, 1) := by decide +kernel
theorem dJ9_abs_0f7a4_0 : decode cJ9_abs_0f7a4 0 = .ok (.iload_n 0, 1) := by decide +kernel
theorem dJ9_abs_0f7a4_1 : decode cJ9_abs_0f7a4 1 = .ok (.ifCond .ge 8, 3) := by decide +kernel
theorem dJ9_abs_0f7a4_4 : decode cJ9_abs_0f7a4 4 = .ok (.iload_n 0, 1) := by decide +kernel
theorem dJ9_abs_0f7a4_5 : decode cJ9_abs_0f7a4 5 = .ok (.ineg, 1) := by decide +kernel
theorem dJ9_abs_0f7a4_6 : decode cJ9_abs_0f7a4 6 = .ok (.goto 4, 3) := by decide +kernel
theorem dJ9_abs_0f7a4_9 : decode cJ9_abs_0f7a4 9 = .ok (.iload_n 0, 1) := by decide +kernel
theorem dJ9_abs_0f7a4_10 : decode cJ9_abs_0f7a4 10 = .ok (.ireturn, 1) := by decide +kernel
theorem dJ9_max_7cf53_0 : decode cJ9_max_7cf53 0 = .ok (.iload_n 0, 1) := by decide +kernel
theorem dJ9_max_7cf53_1 : decode cJ9_max_7cf53 1 = .ok (.iload_n 1, 1) := by decide +kernel
theorem dJ9_max_7cf53_2 : decode cJ9_max_7cf53 2 = .ok (.if_icmp .lt 7, 3) := by decide +kernel
theorem dJ9_max_7cf53_5 : decode cJ9_max_7cf53 5 = .ok (.iload_n 0, 1) := by decide +kernel
theorem dJ9_max_7cf53_6 : decode cJ9_max_7cf53 6 = .ok (.goto 4, 3) := by decide +kernel
theorem dJ9_max_7cf53_9 : decode cJ9_max_7cf53 9 = .ok (.iload_n 1, 1) := by decide +kernel
theorem dJ9_max_7cf53_10 : decode cJ9_max_7cf53 10 = .ok (.ireturn, 1) := by decide +kernel
theorem dJ9_min_7cf53_0 : decode cJ9_min_7cf53 0 = .ok (.iload_n 0, 1) := by decide +kernel
theorem dJ9_min_7cf53_1 : decode cJ9_min_7cf53 1 = .ok (.iload_n 1, 1) := by decide +kernel
theorem dJ9_min_7cf53_2 : decode cJ9_min_7cf53 2 = .ok (.if_icmp .gt 7, 3) := by decide +kernel
theorem dJ9_min_7cf53_5 : decode cJ9_min_7cf53 5 = .ok (.iload_n 0, 1) := by decide +kernel
theorem dJ9_min_7cf53_6 : decode cJ9_min_7cf53 6 = .ok (.goto 4, 3) := by decide +kernel
theorem dJ9_min_7cf53_9 : decode cJ9_min_7cf53 9 = .ok (.iload_n 1, 1) := by decide +kernel
theorem dJ9_min_7cf53_10 : decode cJ9_min_7cf53 10 = .ok (.ireturn, 1) := by decide +kernel
theorem dL_law_0 : decode cL_law 0 = .ok (.new 7, 3) := by decide +kernel
theorem dL_law_3 : decode cL_law 3 = .ok (.dup, 1) := by decide +kernel
theorem dL_law_4 : decode cL_law 4 = .ok (.invokespecial 9, 3) := by decide +kernel
theorem dL_law_7 : decode cL_law 7 = .ok (.astore_n 1, 1) := by decide +kernel
theorem dL_law_8 : decode cL_law 8 = .ok (.new 10, 3) := by decide +kernel
theorem dL_law_11 : decode cL_law 11 = .ok (.dup, 1) := by decide +kernel
theorem dL_law_12 : decode cL_law 12 = .ok (.invokespecial 12, 3) := by decide +kernel
theorem dL_law_15 : decode cL_law 15 = .ok (.astore_n 2, 1) := by decide +kernel
theorem dL_law_16 : decode cL_law 16 = .ok (.iconst 0, 1) := by decide +kernel
theorem dL_law_17 : decode cL_law 17 = .ok (.istore_n 3, 1) := by decide +kernel
theorem dL_law_18 : decode cL_law 18 = .ok (.iload_n 3, 1) := by decide +kernel
theorem dL_law_19 : decode cL_law 19 = .ok (.aload_n 0, 1) := by decide +kernel
theorem dL_law_20 : decode cL_law 20 = .ok (.arraylength, 1) := by decide +kernel
theorem dL_law_21 : decode cL_law 21 = .ok (.iconst 5, 1) := by decide +kernel
theorem dL_law_22 : decode cL_law 22 = .ok (.isub, 1) := by decide +kernel
theorem dL_law_23 : decode cL_law 23 = .ok (.if_icmp .gt 1441, 3) := by decide +kernel
theorem dL_law_26 : decode cL_law 26 = .ok (.aload_n 0, 1) := by decide +kernel
theorem dL_law_27 : decode cL_law 27 = .ok (.iload_n 3, 1) := by decide +kernel
theorem dL_law_28 : decode cL_law 28 = .ok (.iaload, 1) := by decide +kernel
theorem dL_law_29 : decode cL_law 29 = .ok (.bipush 63, 2) := by decide +kernel
theorem dL_law_31 : decode cL_law 31 = .ok (.iand, 1) := by decide +kernel
theorem dL_law_32 : decode cL_law 32 = .ok (.tableswitch 1426 0 46 #[204, 227, 240, 273, 316, 349, 382, 405, 438, 451, 474, 487, 530, 563, 586, 599, 622, 645, 668, 711, 734, 747, 760, 803, 826, 849, 862, 886, 919, 942, 965, 978, 991, 1034, 1057, 1070, 1123, 1166, 1189, 1212, 1235, 1278, 1321, 1354, 1377, 1390, 1403], 204) := by decide +kernel
theorem dL_law_236 : decode cL_law 236 = .ok (.aload_n 1, 1) := by decide +kernel
theorem dL_law_237 : decode cL_law 237 = .ok (.aload_n 0, 1) := by decide +kernel
theorem dL_law_238 : decode cL_law 238 = .ok (.iload_n 3, 1) := by decide +kernel
theorem dL_law_239 : decode cL_law 239 = .ok (.iconst 1, 1) := by decide +kernel
theorem dL_law_240 : decode cL_law 240 = .ok (.iadd, 1) := by decide +kernel
theorem dL_law_241 : decode cL_law 241 = .ok (.iaload, 1) := by decide +kernel
theorem dL_law_242 : decode cL_law 242 = .ok (.invokevirtual 13, 3) := by decide +kernel
theorem dL_law_245 : decode cL_law 245 = .ok (.aload_n 2, 1) := by decide +kernel
theorem dL_law_246 : decode cL_law 246 = .ok (.aload_n 0, 1) := by decide +kernel
theorem dL_law_247 : decode cL_law 247 = .ok (.iload_n 3, 1) := by decide +kernel
theorem dL_law_248 : decode cL_law 248 = .ok (.iconst 1, 1) := by decide +kernel
theorem dL_law_249 : decode cL_law 249 = .ok (.iadd, 1) := by decide +kernel
theorem dL_law_250 : decode cL_law 250 = .ok (.iaload, 1) := by decide +kernel
theorem dL_law_251 : decode cL_law 251 = .ok (.invokevirtual 17, 3) := by decide +kernel
theorem dL_law_254 : decode cL_law 254 = .ok (.if_icmp .eq 1204, 3) := by decide +kernel
theorem dL_law_257 : decode cL_law 257 = .ok (.iconst 0, 1) := by decide +kernel
theorem dL_law_258 : decode cL_law 258 = .ok (.ireturn, 1) := by decide +kernel
theorem dL_law_259 : decode cL_law 259 = .ok (.aload_n 1, 1) := by decide +kernel
theorem dL_law_260 : decode cL_law 260 = .ok (.invokevirtual 18, 3) := by decide +kernel
theorem dL_law_263 : decode cL_law 263 = .ok (.aload_n 2, 1) := by decide +kernel
theorem dL_law_264 : decode cL_law 264 = .ok (.invokevirtual 22, 3) := by decide +kernel
theorem dL_law_267 : decode cL_law 267 = .ok (.if_icmp .eq 1191, 3) := by decide +kernel
theorem dL_law_270 : decode cL_law 270 = .ok (.iconst 0, 1) := by decide +kernel
theorem dL_law_271 : decode cL_law 271 = .ok (.ireturn, 1) := by decide +kernel
theorem dL_law_272 : decode cL_law 272 = .ok (.aload_n 1, 1) := by decide +kernel
theorem dL_law_273 : decode cL_law 273 = .ok (.aload_n 0, 1) := by decide +kernel
theorem dL_law_274 : decode cL_law 274 = .ok (.iload_n 3, 1) := by decide +kernel
theorem dL_law_275 : decode cL_law 275 = .ok (.iconst 1, 1) := by decide +kernel
theorem dL_law_276 : decode cL_law 276 = .ok (.iadd, 1) := by decide +kernel
theorem dL_law_277 : decode cL_law 277 = .ok (.iaload, 1) := by decide +kernel
theorem dL_law_278 : decode cL_law 278 = .ok (.aload_n 0, 1) := by decide +kernel
theorem dL_law_279 : decode cL_law 279 = .ok (.iload_n 3, 1) := by decide +kernel
theorem dL_law_280 : decode cL_law 280 = .ok (.iconst 2, 1) := by decide +kernel
theorem dL_law_281 : decode cL_law 281 = .ok (.iadd, 1) := by decide +kernel
theorem dL_law_282 : decode cL_law 282 = .ok (.iaload, 1) := by decide +kernel
theorem dL_law_283 : decode cL_law 283 = .ok (.invokevirtual 23, 3) := by decide +kernel
theorem dL_law_286 : decode cL_law 286 = .ok (.aload_n 2, 1) := by decide +kernel
theorem dL_law_287 : decode cL_law 287 = .ok (.aload_n 0, 1) := by decide +kernel
theorem dL_law_288 : decode cL_law 288 = .ok (.iload_n 3, 1) := by decide +kernel
theorem dL_law_289 : decode cL_law 289 = .ok (.iconst 1, 1) := by decide +kernel
theorem dL_law_290 : decode cL_law 290 = .ok (.iadd, 1) := by decide +kernel
theorem dL_law_291 : decode cL_law 291 = .ok (.iaload, 1) := by decide +kernel
theorem dL_law_292 : decode cL_law 292 = .ok (.aload_n 0, 1) := by decide +kernel
theorem dL_law_293 : decode cL_law 293 = .ok (.iload_n 3, 1) := by decide +kernel
theorem dL_law_294 : decode cL_law 294 = .ok (.iconst 2, 1) := by decide +kernel
theorem dL_law_295 : decode cL_law 295 = .ok (.iadd, 1) := by decide +kernel
theorem dL_law_296 : decode cL_law 296 = .ok (.iaload, 1) := by decide +kernel
theorem dL_law_297 : decode cL_law 297 = .ok (.invokevirtual 27, 3) := by decide +kernel
theorem dL_law_300 : decode cL_law 300 = .ok (.if_icmp .eq 1158, 3) := by decide +kernel
theorem dL_law_303 : decode cL_law 303 = .ok (.iconst 0, 1) := by decide +kernel
theorem dL_law_304 : decode cL_law 304 = .ok (.ireturn, 1) := by decide +kernel
theorem dL_law_305 : decode cL_law 305 = .ok (.aload_n 1, 1) := by decide +kernel
theorem dL_law_306 : decode cL_law 306 = .ok (.aload_n 0, 1) := by decide +kernel
theorem dL_law_307 : decode cL_law 307 = .ok (.iload_n 3, 1) := by decide +kernel
theorem dL_law_308 : decode cL_law 308 = .ok (.iconst 1, 1) := by decide +kernel
theorem dL_law_309 : decode cL_law 309 = .ok (.iadd, 1) := by decide +kernel
theorem dL_law_310 : decode cL_law 310 = .ok (.iaload, 1) := by decide +kernel
theorem dL_law_311 : decode cL_law 311 = .ok (.aload_n 0, 1) := by decide +kernel
theorem dL_law_312 : decode cL_law 312 = .ok (.iload_n 3, 1) := by decide +kernel
theorem dL_law_313 : decode cL_law 313 = .ok (.iconst 2, 1) := by decide +kernel
theorem dL_law_314 : decode cL_law 314 = .ok (.iadd, 1) := by decide +kernel
theorem dL_law_315 : decode cL_law 315 = .ok (.iaload, 1) := by decide +kernel
theorem dL_law_316 : decode cL_law 316 = .ok (.aload_n 0, 1) := by decide +kernel
theorem dL_law_317 : decode cL_law 317 = .ok (.iload_n 3, 1) := by decide +kernel
theorem dL_law_318 : decode cL_law 318 = .ok (.iconst 3, 1) := by decide +kernel
theorem dL_law_319 : decode cL_law 319 = .ok (.iadd, 1) := by decide +kernel
theorem dL_law_320 : decode cL_law 320 = .ok (.iaload, 1) := by decide +kernel
theorem dL_law_321 : decode cL_law 321 = .ok (.invokevirtual 28, 3) := by decide +kernel
theorem dL_law_324 : decode cL_law 324 = .ok (.aload_n 2, 1) := by decide +kernel
theorem dL_law_325 : decode cL_law 325 = .ok (.aload_n 0, 1) := by decide +kernel
theorem dL_law_326 : decode cL_law 326 = .ok (.iload_n 3, 1) := by decide +kernel
theorem dL_law_327 : decode cL_law 327 = .ok (.iconst 1, 1) := by decide +kernel
theorem dL_law_328 : decode cL_law 328 = .ok (.iadd, 1) := by decide +kernel
theorem dL_law_329 : decode cL_law 329 = .ok (.iaload, 1) := by decide +kernel
theorem dL_law_330 : decode cL_law 330 = .ok (.aload_n 0, 1) := by decide +kernel
theorem dL_law_331 : decode cL_law 331 = .ok (.iload_n 3, 1) := by decide +kernel
theorem dL_law_332 : decode cL_law 332 = .ok (.iconst 2, 1) := by decide +kernel
theorem dL_law_333 : decode cL_law 333 = .ok (.iadd, 1) := by decide +kernel
theorem dL_law_334 : decode cL_law 334 = .ok (.iaload, 1) := by decide +kernel
theorem dL_law_335 : decode cL_law 335 = .ok (.aload_n 0, 1) := by decide +kernel
theorem dL_law_336 : decode cL_law 336 = .ok (.iload_n 3, 1) := by decide +kernel
theorem dL_law_337 : decode cL_law 337 = .ok (.iconst 3, 1) := by decide +kernel
theorem dL_law_338 : decode cL_law 338 = .ok (.iadd, 1) := by decide +kernel
theorem dL_law_339 : decode cL_law 339 = .ok (.iaload, 1) := by decide +kernel
theorem dL_law_340 : decode cL_law 340 = .ok (.invokevirtual 32, 3) := by decide +kernel
theorem dL_law_343 : decode cL_law 343 = .ok (.if_icmp .eq 1115, 3) := by decide +kernel
theorem dL_law_346 : decode cL_law 346 = .ok (.iconst 0, 1) := by decide +kernel
theorem dL_law_347 : decode cL_law 347 = .ok (.ireturn, 1) := by decide +kernel
theorem dL_law_348 : decode cL_law 348 = .ok (.aload_n 1, 1) := by decide +kernel
theorem dL_law_349 : decode cL_law 349 = .ok (.aload_n 0, 1) := by decide +kernel
theorem dL_law_350 : decode cL_law 350 = .ok (.iload_n 3, 1) := by decide +kernel
theorem dL_law_351 : decode cL_law 351 = .ok (.iconst 1, 1) := by decide +kernel
theorem dL_law_352 : decode cL_law 352 = .ok (.iadd, 1) := by decide +kernel
theorem dL_law_353 : decode cL_law 353 = .ok (.iaload, 1) := by decide +kernel
theorem dL_law_354 : decode cL_law 354 = .ok (.aload_n 0, 1) := by decide +kernel
theorem dL_law_355 : decode cL_law 355 = .ok (.iload_n 3, 1) := by decide +kernel
theorem dL_law_356 : decode cL_law 356 = .ok (.iconst 2, 1) := by decide +kernel
theorem dL_law_357 : decode cL_law 357 = .ok (.iadd, 1) := by decide +kernel
theorem dL_law_358 : decode cL_law 358 = .ok (.iaload, 1) := by decide +kernel
theorem dL_law_359 : decode cL_law 359 = .ok (.invokevirtual 33, 3) := by decide +kernel
theorem dL_law_362 : decode cL_law 362 = .ok (.aload_n 2, 1) := by decide +kernel
theorem dL_law_363 : decode cL_law 363 = .ok (.aload_n 0, 1) := by decide +kernel
theorem dL_law_364 : decode cL_law 364 = .ok (.iload_n 3, 1) := by decide +kernel
theorem dL_law_365 : decode cL_law 365 = .ok (.iconst 1, 1) := by decide +kernel
theorem dL_law_366 : decode cL_law 366 = .ok (.iadd, 1) := by decide +kernel
theorem dL_law_367 : decode cL_law 367 = .ok (.iaload, 1) := by decide +kernel
theorem dL_law_368 : decode cL_law 368 = .ok (.aload_n 0, 1) := by decide +kernel
theorem dL_law_369 : decode cL_law 369 = .ok (.iload_n 3, 1) := by decide +kernel
theorem dL_law_370 : decode cL_law 370 = .ok (.iconst 2, 1) := by decide +kernel
theorem dL_law_371 : decode cL_law 371 = .ok (.iadd, 1) := by decide +kernel
theorem dL_law_372 : decode cL_law 372 = .ok (.iaload, 1) := by decide +kernel
theorem dL_law_373 : decode cL_law 373 = .ok (.invokevirtual 36, 3) := by decide +kernel
theorem dL_law_376 : decode cL_law 376 = .ok (.if_icmp .eq 1082, 3) := by decide +kernel
theorem dL_law_379 : decode cL_law 379 = .ok (.iconst 0, 1) := by decide +kernel
theorem dL_law_380 : decode cL_law 380 = .ok (.ireturn, 1) := by decide +kernel
theorem dL_law_381 : decode cL_law 381 = .ok (.aload_n 1, 1) := by decide +kernel
theorem dL_law_382 : decode cL_law 382 = .ok (.aload_n 0, 1) := by decide +kernel
theorem dL_law_383 : decode cL_law 383 = .ok (.iload_n 3, 1) := by decide +kernel
theorem dL_law_384 : decode cL_law 384 = .ok (.iconst 1, 1) := by decide +kernel
theorem dL_law_385 : decode cL_law 385 = .ok (.iadd, 1) := by decide +kernel
theorem dL_law_386 : decode cL_law 386 = .ok (.iaload, 1) := by decide +kernel
theorem dL_law_387 : decode cL_law 387 = .ok (.aload_n 0, 1) := by decide +kernel
theorem dL_law_388 : decode cL_law 388 = .ok (.iload_n 3, 1) := by decide +kernel
theorem dL_law_389 : decode cL_law 389 = .ok (.iconst 2, 1) := by decide +kernel
theorem dL_law_390 : decode cL_law 390 = .ok (.iadd, 1) := by decide +kernel
theorem dL_law_391 : decode cL_law 391 = .ok (.iaload, 1) := by decide +kernel
theorem dL_law_392 : decode cL_law 392 = .ok (.invokevirtual 37, 3) := by decide +kernel
theorem dL_law_395 : decode cL_law 395 = .ok (.aload_n 2, 1) := by decide +kernel
theorem dL_law_396 : decode cL_law 396 = .ok (.aload_n 0, 1) := by decide +kernel
theorem dL_law_397 : decode cL_law 397 = .ok (.iload_n 3, 1) := by decide +kernel
theorem dL_law_398 : decode cL_law 398 = .ok (.iconst 1, 1) := by decide +kernel
theorem dL_law_399 : decode cL_law 399 = .ok (.iadd, 1) := by decide +kernel
theorem dL_law_400 : decode cL_law 400 = .ok (.iaload, 1) := by decide +kernel
theorem dL_law_401 : decode cL_law 401 = .ok (.aload_n 0, 1) := by decide +kernel
theorem dL_law_402 : decode cL_law 402 = .ok (.iload_n 3, 1) := by decide +kernel
theorem dL_law_403 : decode cL_law 403 = .ok (.iconst 2, 1) := by decide +kernel
theorem dL_law_404 : decode cL_law 404 = .ok (.iadd, 1) := by decide +kernel
theorem dL_law_405 : decode cL_law 405 = .ok (.iaload, 1) := by decide +kernel
theorem dL_law_406 : decode cL_law 406 = .ok (.invokevirtual 40, 3) := by decide +kernel
theorem dL_law_409 : decode cL_law 409 = .ok (.if_icmp .eq 1049, 3) := by decide +kernel
theorem dL_law_412 : decode cL_law 412 = .ok (.iconst 0, 1) := by decide +kernel
theorem dL_law_413 : decode cL_law 413 = .ok (.ireturn, 1) := by decide +kernel
theorem dL_law_414 : decode cL_law 414 = .ok (.aload_n 1, 1) := by decide +kernel
theorem dL_law_415 : decode cL_law 415 = .ok (.aload_n 0, 1) := by decide +kernel
theorem dL_law_416 : decode cL_law 416 = .ok (.iload_n 3, 1) := by decide +kernel
theorem dL_law_417 : decode cL_law 417 = .ok (.iconst 1, 1) := by decide +kernel
theorem dL_law_418 : decode cL_law 418 = .ok (.iadd, 1) := by decide +kernel
theorem dL_law_419 : decode cL_law 419 = .ok (.iaload, 1) := by decide +kernel
theorem dL_law_420 : decode cL_law 420 = .ok (.invokevirtual 41, 3) := by decide +kernel
theorem dL_law_423 : decode cL_law 423 = .ok (.aload_n 2, 1) := by decide +kernel
theorem dL_law_424 : decode cL_law 424 = .ok (.aload_n 0, 1) := by decide +kernel
theorem dL_law_425 : decode cL_law 425 = .ok (.iload_n 3, 1) := by decide +kernel
theorem dL_law_426 : decode cL_law 426 = .ok (.iconst 1, 1) := by decide +kernel
theorem dL_law_427 : decode cL_law 427 = .ok (.iadd, 1) := by decide +kernel
theorem dL_law_428 : decode cL_law 428 = .ok (.iaload, 1) := by decide +kernel
theorem dL_law_429 : decode cL_law 429 = .ok (.invokevirtual 44, 3) := by decide +kernel
theorem dL_law_432 : decode cL_law 432 = .ok (.if_icmp .eq 1026, 3) := by decide +kernel
theorem dL_law_435 : decode cL_law 435 = .ok (.iconst 0, 1) := by decide +kernel
theorem dL_law_436 : decode cL_law 436 = .ok (.ireturn, 1) := by decide +kernel
theorem dL_law_437 : decode cL_law 437 = .ok (.aload_n 1, 1) := by decide +kernel
theorem dL_law_438 : decode cL_law 438 = .ok (.aload_n 0, 1) := by decide +kernel
theorem dL_law_439 : decode cL_law 439 = .ok (.iload_n 3, 1) := by decide +kernel
theorem dL_law_440 : decode cL_law 440 = .ok (.iconst 1, 1) := by decide +kernel
theorem dL_law_441 : decode cL_law 441 = .ok (.iadd, 1) := by decide +kernel
theorem dL_law_442 : decode cL_law 442 = .ok (.iaload, 1) := by decide +kernel
theorem dL_law_443 : decode cL_law 443 = .ok (.aload_n 0, 1) := by decide +kernel
theorem dL_law_444 : decode cL_law 444 = .ok (.iload_n 3, 1) := by decide +kernel
theorem dL_law_445 : decode cL_law 445 = .ok (.iconst 2, 1) := by decide +kernel
theorem dL_law_446 : decode cL_law 446 = .ok (.iadd, 1) := by decide +kernel
theorem dL_law_447 : decode cL_law 447 = .ok (.iaload, 1) := by decide +kernel
theorem dL_law_448 : decode cL_law 448 = .ok (.invokevirtual 45, 3) := by decide +kernel
theorem dL_law_451 : decode cL_law 451 = .ok (.aload_n 2, 1) := by decide +kernel
theorem dL_law_452 : decode cL_law 452 = .ok (.aload_n 0, 1) := by decide +kernel
theorem dL_law_453 : decode cL_law 453 = .ok (.iload_n 3, 1) := by decide +kernel
theorem dL_law_454 : decode cL_law 454 = .ok (.iconst 1, 1) := by decide +kernel
theorem dL_law_455 : decode cL_law 455 = .ok (.iadd, 1) := by decide +kernel
theorem dL_law_456 : decode cL_law 456 = .ok (.iaload, 1) := by decide +kernel
theorem dL_law_457 : decode cL_law 457 = .ok (.aload_n 0, 1) := by decide +kernel
theorem dL_law_458 : decode cL_law 458 = .ok (.iload_n 3, 1) := by decide +kernel
theorem dL_law_459 : decode cL_law 459 = .ok (.iconst 2, 1) := by decide +kernel
theorem dL_law_460 : decode cL_law 460 = .ok (.iadd, 1) := by decide +kernel
theorem dL_law_461 : decode cL_law 461 = .ok (.iaload, 1) := by decide +kernel
theorem dL_law_462 : decode cL_law 462 = .ok (.invokevirtual 48, 3) := by decide +kernel
theorem dL_law_465 : decode cL_law 465 = .ok (.if_icmp .eq 993, 3) := by decide +kernel
theorem dL_law_468 : decode cL_law 468 = .ok (.iconst 0, 1) := by decide +kernel
theorem dL_law_469 : decode cL_law 469 = .ok (.ireturn, 1) := by decide +kernel
theorem dL_law_470 : decode cL_law 470 = .ok (.aload_n 1, 1) := by decide +kernel
theorem dL_law_471 : decode cL_law 471 = .ok (.invokevirtual 49, 3) := by decide +kernel
theorem dL_law_474 : decode cL_law 474 = .ok (.aload_n 2, 1) := by decide +kernel
theorem dL_law_475 : decode cL_law 475 = .ok (.invokevirtual 52, 3) := by decide +kernel
theorem dL_law_478 : decode cL_law 478 = .ok (.if_icmp .eq 980, 3) := by decide +kernel
theorem dL_law_481 : decode cL_law 481 = .ok (.iconst 0, 1) := by decide +kernel
theorem dL_law_482 : decode cL_law 482 = .ok (.ireturn, 1) := by decide +kernel
theorem dL_law_483 : decode cL_law 483 = .ok (.aload_n 1, 1) := by decide +kernel
theorem dL_law_484 : decode cL_law 484 = .ok (.aload_n 0, 1) := by decide +kernel
theorem dL_law_485 : decode cL_law 485 = .ok (.iload_n 3, 1) := by decide +kernel
theorem dL_law_486 : decode cL_law 486 = .ok (.iconst 1, 1) := by decide +kernel
theorem dL_law_487 : decode cL_law 487 = .ok (.iadd, 1) := by decide +kernel
theorem dL_law_488 : decode cL_law 488 = .ok (.iaload, 1) := by decide +kernel
theorem dL_law_489 : decode cL_law 489 = .ok (.invokevirtual 53, 3) := by decide +kernel
theorem dL_law_492 : decode cL_law 492 = .ok (.aload_n 2, 1) := by decide +kernel
theorem dL_law_493 : decode cL_law 493 = .ok (.aload_n 0, 1) := by decide +kernel
theorem dL_law_494 : decode cL_law 494 = .ok (.iload_n 3, 1) := by decide +kernel
theorem dL_law_495 : decode cL_law 495 = .ok (.iconst 1, 1) := by decide +kernel
theorem dL_law_496 : decode cL_law 496 = .ok (.iadd, 1) := by decide +kernel
theorem dL_law_497 : decode cL_law 497 = .ok (.iaload, 1) := by decide +kernel
theorem dL_law_498 : decode cL_law 498 = .ok (.invokevirtual 56, 3) := by decide +kernel
theorem dL_law_501 : decode cL_law 501 = .ok (.if_icmp .eq 957, 3) := by decide +kernel
theorem dL_law_504 : decode cL_law 504 = .ok (.iconst 0, 1) := by decide +kernel
theorem dL_law_505 : decode cL_law 505 = .ok (.ireturn, 1) := by decide +kernel
theorem dL_law_506 : decode cL_law 506 = .ok (.aload_n 1, 1) := by decide +kernel
theorem dL_law_507 : decode cL_law 507 = .ok (.invokevirtual 57, 3) := by decide +kernel
theorem dL_law_510 : decode cL_law 510 = .ok (.aload_n 2, 1) := by decide +kernel
theorem dL_law_511 : decode cL_law 511 = .ok (.invokevirtual 60, 3) := by decide +kernel
theorem dL_law_514 : decode cL_law 514 = .ok (.if_icmp .eq 944, 3) := by decide +kernel
theorem dL_law_517 : decode cL_law 517 = .ok (.iconst 0, 1) := by decide +kernel
theorem dL_law_518 : decode cL_law 518 = .ok (.ireturn, 1) := by decide +kernel
theorem dL_law_519 : decode cL_law 519 = .ok (.aload_n 1, 1) := by decide +kernel
theorem dL_law_520 : decode cL_law 520 = .ok (.aload_n 0, 1) := by decide +kernel
theorem dL_law_521 : decode cL_law 521 = .ok (.iload_n 3, 1) := by decide +kernel
theorem dL_law_522 : decode cL_law 522 = .ok (.iconst 1, 1) := by decide +kernel
theorem dL_law_523 : decode cL_law 523 = .ok (.iadd, 1) := by decide +kernel
theorem dL_law_524 : decode cL_law 524 = .ok (.iaload, 1) := by decide +kernel
theorem dL_law_525 : decode cL_law 525 = .ok (.aload_n 0, 1) := by decide +kernel
theorem dL_law_526 : decode cL_law 526 = .ok (.iload_n 3, 1) := by decide +kernel
theorem dL_law_527 : decode cL_law 527 = .ok (.iconst 2, 1) := by decide +kernel
theorem dL_law_528 : decode cL_law 528 = .ok (.iadd, 1) := by decide +kernel
theorem dL_law_529 : decode cL_law 529 = .ok (.iaload, 1) := by decide +kernel
theorem dL_law_530 : decode cL_law 530 = .ok (.aload_n 0, 1) := by decide +kernel
theorem dL_law_531 : decode cL_law 531 = .ok (.iload_n 3, 1) := by decide +kernel
theorem dL_law_532 : decode cL_law 532 = .ok (.iconst 3, 1) := by decide +kernel
theorem dL_law_533 : decode cL_law 533 = .ok (.iadd, 1) := by decide +kernel
theorem dL_law_534 : decode cL_law 534 = .ok (.iaload, 1) := by decide +kernel
theorem dL_law_535 : decode cL_law 535 = .ok (.invokevirtual 61, 3) := by decide +kernel
theorem dL_law_538 : decode cL_law 538 = .ok (.aload_n 2, 1) := by decide +kernel
theorem dL_law_539 : decode cL_law 539 = .ok (.aload_n 0, 1) := by decide +kernel
theorem dL_law_540 : decode cL_law 540 = .ok (.iload_n 3, 1) := by decide +kernel
theorem dL_law_541 : decode cL_law 541 = .ok (.iconst 1, 1) := by decide +kernel
theorem dL_law_542 : decode cL_law 542 = .ok (.iadd, 1) := by decide +kernel
theorem dL_law_543 : decode cL_law 543 = .ok (.iaload, 1) := by decide +kernel
theorem dL_law_544 : decode cL_law 544 = .ok (.aload_n 0, 1) := by decide +kernel
theorem dL_law_545 : decode cL_law 545 = .ok (.iload_n 3, 1) := by decide +kernel
theorem dL_law_546 : decode cL_law 546 = .ok (.iconst 2, 1) := by decide +kernel
theorem dL_law_547 : decode cL_law 547 = .ok (.iadd, 1) := by decide +kernel
theorem dL_law_548 : decode cL_law 548 = .ok (.iaload, 1) := by decide +kernel
theorem dL_law_549 : decode cL_law 549 = .ok (.aload_n 0, 1) := by decide +kernel
theorem dL_law_550 : decode cL_law 550 = .ok (.iload_n 3, 1) := by decide +kernel
theorem dL_law_551 : decode cL_law 551 = .ok (.iconst 3, 1) := by decide +kernel
theorem dL_law_552 : decode cL_law 552 = .ok (.iadd, 1) := by decide +kernel
theorem dL_law_553 : decode cL_law 553 = .ok (.iaload, 1) := by decide +kernel
theorem dL_law_554 : decode cL_law 554 = .ok (.invokevirtual 64, 3) := by decide +kernel
theorem dL_law_557 : decode cL_law 557 = .ok (.if_icmp .eq 901, 3) := by decide +kernel
theorem dL_law_560 : decode cL_law 560 = .ok (.iconst 0, 1) := by decide +kernel
theorem dL_law_561 : decode cL_law 561 = .ok (.ireturn, 1) := by decide +kernel
theorem dL_law_562 : decode cL_law 562 = .ok (.aload_n 1, 1) := by decide +kernel
theorem dL_law_563 : decode cL_law 563 = .ok (.aload_n 0, 1) := by decide +kernel
theorem dL_law_564 : decode cL_law 564 = .ok (.iload_n 3, 1) := by decide +kernel
theorem dL_law_565 : decode cL_law 565 = .ok (.iconst 1, 1) := by decide +kernel
theorem dL_law_566 : decode cL_law 566 = .ok (.iadd, 1) := by decide +kernel
theorem dL_law_567 : decode cL_law 567 = .ok (.iaload, 1) := by decide +kernel
theorem dL_law_568 : decode cL_law 568 = .ok (.aload_n 0, 1) := by decide +kernel
theorem dL_law_569 : decode cL_law 569 = .ok (.iload_n 3, 1) := by decide +kernel
theorem dL_law_570 : decode cL_law 570 = .ok (.iconst 2, 1) := by decide +kernel
theorem dL_law_571 : decode cL_law 571 = .ok (.iadd, 1) := by decide +kernel
theorem dL_law_572 : decode cL_law 572 = .ok (.iaload, 1) := by decide +kernel
theorem dL_law_573 : decode cL_law 573 = .ok (.invokevirtual 65, 3) := by decide +kernel
theorem dL_law_576 : decode cL_law 576 = .ok (.aload_n 2, 1) := by decide +kernel
theorem dL_law_577 : decode cL_law 577 = .ok (.aload_n 0, 1) := by decide +kernel
theorem dL_law_578 : decode cL_law 578 = .ok (.iload_n 3, 1) := by decide +kernel
theorem dL_law_579 : decode cL_law 579 = .ok (.iconst 1, 1) := by decide +kernel
theorem dL_law_580 : decode cL_law 580 = .ok (.iadd, 1) := by decide +kernel
theorem dL_law_581 : decode cL_law 581 = .ok (.iaload, 1) := by decide +kernel
theorem dL_law_582 : decode cL_law 582 = .ok (.aload_n 0, 1) := by decide +kernel
theorem dL_law_583 : decode cL_law 583 = .ok (.iload_n 3, 1) := by decide +kernel
theorem dL_law_584 : decode cL_law 584 = .ok (.iconst 2, 1) := by decide +kernel
theorem dL_law_585 : decode cL_law 585 = .ok (.iadd, 1) := by decide +kernel
theorem dL_law_586 : decode cL_law 586 = .ok (.iaload, 1) := by decide +kernel
theorem dL_law_587 : decode cL_law 587 = .ok (.invokevirtual 68, 3) := by decide +kernel
theorem dL_law_590 : decode cL_law 590 = .ok (.if_icmp .eq 868, 3) := by decide +kernel
theorem dL_law_593 : decode cL_law 593 = .ok (.iconst 0, 1) := by decide +kernel
theorem dL_law_594 : decode cL_law 594 = .ok (.ireturn, 1) := by decide +kernel
theorem dL_law_595 : decode cL_law 595 = .ok (.aload_n 1, 1) := by decide +kernel
theorem dL_law_596 : decode cL_law 596 = .ok (.aload_n 0, 1) := by decide +kernel
theorem dL_law_597 : decode cL_law 597 = .ok (.iload_n 3, 1) := by decide +kernel
theorem dL_law_598 : decode cL_law 598 = .ok (.iconst 1, 1) := by decide +kernel
theorem dL_law_599 : decode cL_law 599 = .ok (.iadd, 1) := by decide +kernel
theorem dL_law_600 : decode cL_law 600 = .ok (.iaload, 1) := by decide +kernel
theorem dL_law_601 : decode cL_law 601 = .ok (.invokevirtual 69, 3) := by decide +kernel
theorem dL_law_604 : decode cL_law 604 = .ok (.aload_n 2, 1) := by decide +kernel
theorem dL_law_605 : decode cL_law 605 = .ok (.aload_n 0, 1) := by decide +kernel
theorem dL_law_606 : decode cL_law 606 = .ok (.iload_n 3, 1) := by decide +kernel
theorem dL_law_607 : decode cL_law 607 = .ok (.iconst 1, 1) := by decide +kernel
theorem dL_law_608 : decode cL_law 608 = .ok (.iadd, 1) := by decide +kernel
theorem dL_law_609 : decode cL_law 609 = .ok (.iaload, 1) := by decide +kernel
theorem dL_law_610 : decode cL_law 610 = .ok (.invokevirtual 72, 3) := by decide +kernel
theorem dL_law_613 : decode cL_law 613 = .ok (.if_icmp .eq 845, 3) := by decide +kernel
theorem dL_law_616 : decode cL_law 616 = .ok (.iconst 0, 1) := by decide +kernel
theorem dL_law_617 : decode cL_law 617 = .ok (.ireturn, 1) := by decide +kernel
theorem dL_law_618 : decode cL_law 618 = .ok (.aload_n 1, 1) := by decide +kernel
theorem dL_law_619 : decode cL_law 619 = .ok (.invokevirtual 73, 3) := by decide +kernel
theorem dL_law_622 : decode cL_law 622 = .ok (.aload_n 2, 1) := by decide +kernel
theorem dL_law_623 : decode cL_law 623 = .ok (.invokevirtual 76, 3) := by decide +kernel
theorem dL_law_626 : decode cL_law 626 = .ok (.if_icmp .eq 832, 3) := by decide +kernel
theorem dL_law_629 : decode cL_law 629 = .ok (.iconst 0, 1) := by decide +kernel
theorem dL_law_630 : decode cL_law 630 = .ok (.ireturn, 1) := by decide +kernel
theorem dL_law_631 : decode cL_law 631 = .ok (.aload_n 1, 1) := by decide +kernel
theorem dL_law_632 : decode cL_law 632 = .ok (.aload_n 0, 1) := by decide +kernel
theorem dL_law_633 : decode cL_law 633 = .ok (.iload_n 3, 1) := by decide +kernel
theorem dL_law_634 : decode cL_law 634 = .ok (.iconst 1, 1) := by decide +kernel
theorem dL_law_635 : decode cL_law 635 = .ok (.iadd, 1) := by decide +kernel
theorem dL_law_636 : decode cL_law 636 = .ok (.iaload, 1) := by decide +kernel
theorem dL_law_637 : decode cL_law 637 = .ok (.invokevirtual 77, 3) := by decide +kernel
theorem dL_law_640 : decode cL_law 640 = .ok (.aload_n 2, 1) := by decide +kernel
theorem dL_law_641 : decode cL_law 641 = .ok (.aload_n 0, 1) := by decide +kernel
theorem dL_law_642 : decode cL_law 642 = .ok (.iload_n 3, 1) := by decide +kernel
theorem dL_law_643 : decode cL_law 643 = .ok (.iconst 1, 1) := by decide +kernel
theorem dL_law_644 : decode cL_law 644 = .ok (.iadd, 1) := by decide +kernel
theorem dL_law_645 : decode cL_law 645 = .ok (.iaload, 1) := by decide +kernel
theorem dL_law_646 : decode cL_law 646 = .ok (.invokevirtual 80, 3) := by decide +kernel
theorem dL_law_649 : decode cL_law 649 = .ok (.if_icmp .eq 809, 3) := by decide +kernel
theorem dL_law_652 : decode cL_law 652 = .ok (.iconst 0, 1) := by decide +kernel
theorem dL_law_653 : decode cL_law 653 = .ok (.ireturn, 1) := by decide +kernel
theorem dL_law_654 : decode cL_law 654 = .ok (.aload_n 1, 1) := by decide +kernel
theorem dL_law_655 : decode cL_law 655 = .ok (.aload_n 0, 1) := by decide +kernel
theorem dL_law_656 : decode cL_law 656 = .ok (.iload_n 3, 1) := by decide +kernel
theorem dL_law_657 : decode cL_law 657 = .ok (.iconst 1, 1) := by decide +kernel
theorem dL_law_658 : decode cL_law 658 = .ok (.iadd, 1) := by decide +kernel
theorem dL_law_659 : decode cL_law 659 = .ok (.iaload, 1) := by decide +kernel
theorem dL_law_660 : decode cL_law 660 = .ok (.invokevirtual 81, 3) := by decide +kernel
theorem dL_law_663 : decode cL_law 663 = .ok (.aload_n 2, 1) := by decide +kernel
theorem dL_law_664 : decode cL_law 664 = .ok (.aload_n 0, 1) := by decide +kernel
theorem dL_law_665 : decode cL_law 665 = .ok (.iload_n 3, 1) := by decide +kernel
theorem dL_law_666 : decode cL_law 666 = .ok (.iconst 1, 1) := by decide +kernel
theorem dL_law_667 : decode cL_law 667 = .ok (.iadd, 1) := by decide +kernel
theorem dL_law_668 : decode cL_law 668 = .ok (.iaload, 1) := by decide +kernel
theorem dL_law_669 : decode cL_law 669 = .ok (.invokevirtual 84, 3) := by decide +kernel
theorem dL_law_672 : decode cL_law 672 = .ok (.if_icmp .eq 786, 3) := by decide +kernel
theorem dL_law_675 : decode cL_law 675 = .ok (.iconst 0, 1) := by decide +kernel
theorem dL_law_676 : decode cL_law 676 = .ok (.ireturn, 1) := by decide +kernel
theorem dL_law_677 : decode cL_law 677 = .ok (.aload_n 1, 1) := by decide +kernel
theorem dL_law_678 : decode cL_law 678 = .ok (.aload_n 0, 1) := by decide +kernel
theorem dL_law_679 : decode cL_law 679 = .ok (.iload_n 3, 1) := by decide +kernel
theorem dL_law_680 : decode cL_law 680 = .ok (.iconst 1, 1) := by decide +kernel
theorem dL_law_681 : decode cL_law 681 = .ok (.iadd, 1) := by decide +kernel
theorem dL_law_682 : decode cL_law 682 = .ok (.iaload, 1) := by decide +kernel
theorem dL_law_683 : decode cL_law 683 = .ok (.invokevirtual 85, 3) := by decide +kernel
theorem dL_law_686 : decode cL_law 686 = .ok (.aload_n 2, 1) := by decide +kernel
theorem dL_law_687 : decode cL_law 687 = .ok (.aload_n 0, 1) := by decide +kernel
theorem dL_law_688 : decode cL_law 688 = .ok (.iload_n 3, 1) := by decide +kernel
theorem dL_law_689 : decode cL_law 689 = .ok (.iconst 1, 1) := by decide +kernel
theorem dL_law_690 : decode cL_law 690 = .ok (.iadd, 1) := by decide +kernel
theorem dL_law_691 : decode cL_law 691 = .ok (.iaload, 1) := by decide +kernel
theorem dL_law_692 : decode cL_law 692 = .ok (.invokevirtual 88, 3) := by decide +kernel
theorem dL_law_695 : decode cL_law 695 = .ok (.if_icmp .eq 763, 3) := by decide +kernel
theorem dL_law_698 : decode cL_law 698 = .ok (.iconst 0, 1) := by decide +kernel
theorem dL_law_699 : decode cL_law 699 = .ok (.ireturn, 1) := by decide +kernel
theorem dL_law_700 : decode cL_law 700 = .ok (.aload_n 1, 1) := by decide +kernel
theorem dL_law_701 : decode cL_law 701 = .ok (.aload_n 0, 1) := by decide +kernel
theorem dL_law_702 : decode cL_law 702 = .ok (.iload_n 3, 1) := by decide +kernel
theorem dL_law_703 : decode cL_law 703 = .ok (.iconst 1, 1) := by decide +kernel
theorem dL_law_704 : decode cL_law 704 = .ok (.iadd, 1) := by decide +kernel
theorem dL_law_705 : decode cL_law 705 = .ok (.iaload, 1) := by decide +kernel
theorem dL_law_706 : decode cL_law 706 = .ok (.aload_n 0, 1) := by decide +kernel
theorem dL_law_707 : decode cL_law 707 = .ok (.iload_n 3, 1) := by decide +kernel
theorem dL_law_708 : decode cL_law 708 = .ok (.iconst 2, 1) := by decide +kernel
theorem dL_law_709 : decode cL_law 709 = .ok (.iadd, 1) := by decide +kernel
theorem dL_law_710 : decode cL_law 710 = .ok (.iaload, 1) := by decide +kernel
theorem dL_law_711 : decode cL_law 711 = .ok (.aload_n 0, 1) := by decide +kernel
theorem dL_law_712 : decode cL_law 712 = .ok (.iload_n 3, 1) := by decide +kernel
theorem dL_law_713 : decode cL_law 713 = .ok (.iconst 3, 1) := by decide +kernel
theorem dL_law_714 : decode cL_law 714 = .ok (.iadd, 1) := by decide +kernel
theorem dL_law_715 : decode cL_law 715 = .ok (.iaload, 1) := by decide +kernel
theorem dL_law_716 : decode cL_law 716 = .ok (.invokevirtual 89, 3) := by decide +kernel
theorem dL_law_719 : decode cL_law 719 = .ok (.aload_n 2, 1) := by decide +kernel
theorem dL_law_720 : decode cL_law 720 = .ok (.aload_n 0, 1) := by decide +kernel
theorem dL_law_721 : decode cL_law 721 = .ok (.iload_n 3, 1) := by decide +kernel
theorem dL_law_722 : decode cL_law 722 = .ok (.iconst 1, 1) := by decide +kernel
theorem dL_law_723 : decode cL_law 723 = .ok (.iadd, 1) := by decide +kernel
theorem dL_law_724 : decode cL_law 724 = .ok (.iaload, 1) := by decide +kernel
theorem dL_law_725 : decode cL_law 725 = .ok (.aload_n 0, 1) := by decide +kernel
theorem dL_law_726 : decode cL_law 726 = .ok (.iload_n 3, 1) := by decide +kernel
theorem dL_law_727 : decode cL_law 727 = .ok (.iconst 2, 1) := by decide +kernel
theorem dL_law_728 : decode cL_law 728 = .ok (.iadd, 1) := by decide +kernel
theorem dL_law_729 : decode cL_law 729 = .ok (.iaload, 1) := by decide +kernel
theorem dL_law_730 : decode cL_law 730 = .ok (.aload_n 0, 1) := by decide +kernel
theorem dL_law_731 : decode cL_law 731 = .ok (.iload_n 3, 1) := by decide +kernel
theorem dL_law_732 : decode cL_law 732 = .ok (.iconst 3, 1) := by decide +kernel
theorem dL_law_733 : decode cL_law 733 = .ok (.iadd, 1) := by decide +kernel
theorem dL_law_734 : decode cL_law 734 = .ok (.iaload, 1) := by decide +kernel
theorem dL_law_735 : decode cL_law 735 = .ok (.invokevirtual 92, 3) := by decide +kernel
theorem dL_law_738 : decode cL_law 738 = .ok (.if_icmp .eq 720, 3) := by decide +kernel
theorem dL_law_741 : decode cL_law 741 = .ok (.iconst 0, 1) := by decide +kernel
theorem dL_law_742 : decode cL_law 742 = .ok (.ireturn, 1) := by decide +kernel
theorem dL_law_743 : decode cL_law 743 = .ok (.aload_n 1, 1) := by decide +kernel
theorem dL_law_744 : decode cL_law 744 = .ok (.aload_n 0, 1) := by decide +kernel
theorem dL_law_745 : decode cL_law 745 = .ok (.iload_n 3, 1) := by decide +kernel
theorem dL_law_746 : decode cL_law 746 = .ok (.iconst 1, 1) := by decide +kernel
theorem dL_law_747 : decode cL_law 747 = .ok (.iadd, 1) := by decide +kernel
theorem dL_law_748 : decode cL_law 748 = .ok (.iaload, 1) := by decide +kernel
theorem dL_law_749 : decode cL_law 749 = .ok (.invokevirtual 93, 3) := by decide +kernel
theorem dL_law_752 : decode cL_law 752 = .ok (.aload_n 2, 1) := by decide +kernel
theorem dL_law_753 : decode cL_law 753 = .ok (.aload_n 0, 1) := by decide +kernel
theorem dL_law_754 : decode cL_law 754 = .ok (.iload_n 3, 1) := by decide +kernel
theorem dL_law_755 : decode cL_law 755 = .ok (.iconst 1, 1) := by decide +kernel
theorem dL_law_756 : decode cL_law 756 = .ok (.iadd, 1) := by decide +kernel
theorem dL_law_757 : decode cL_law 757 = .ok (.iaload, 1) := by decide +kernel
theorem dL_law_758 : decode cL_law 758 = .ok (.invokevirtual 96, 3) := by decide +kernel
theorem dL_law_761 : decode cL_law 761 = .ok (.if_icmp .eq 697, 3) := by decide +kernel
theorem dL_law_764 : decode cL_law 764 = .ok (.iconst 0, 1) := by decide +kernel
theorem dL_law_765 : decode cL_law 765 = .ok (.ireturn, 1) := by decide +kernel
theorem dL_law_766 : decode cL_law 766 = .ok (.aload_n 1, 1) := by decide +kernel
theorem dL_law_767 : decode cL_law 767 = .ok (.invokevirtual 97, 3) := by decide +kernel
theorem dL_law_770 : decode cL_law 770 = .ok (.aload_n 2, 1) := by decide +kernel
theorem dL_law_771 : decode cL_law 771 = .ok (.invokevirtual 100, 3) := by decide +kernel
theorem dL_law_774 : decode cL_law 774 = .ok (.if_icmp .eq 684, 3) := by decide +kernel
theorem dL_law_777 : decode cL_law 777 = .ok (.iconst 0, 1) := by decide +kernel
theorem dL_law_778 : decode cL_law 778 = .ok (.ireturn, 1) := by decide +kernel
theorem dL_law_779 : decode cL_law 779 = .ok (.aload_n 1, 1) := by decide +kernel
theorem dL_law_780 : decode cL_law 780 = .ok (.invokevirtual 101, 3) := by decide +kernel
theorem dL_law_783 : decode cL_law 783 = .ok (.aload_n 2, 1) := by decide +kernel
theorem dL_law_784 : decode cL_law 784 = .ok (.invokevirtual 104, 3) := by decide +kernel
theorem dL_law_787 : decode cL_law 787 = .ok (.if_icmp .eq 671, 3) := by decide +kernel
theorem dL_law_790 : decode cL_law 790 = .ok (.iconst 0, 1) := by decide +kernel
theorem dL_law_791 : decode cL_law 791 = .ok (.ireturn, 1) := by decide +kernel
theorem dL_law_792 : decode cL_law 792 = .ok (.aload_n 1, 1) := by decide +kernel
theorem dL_law_793 : decode cL_law 793 = .ok (.aload_n 0, 1) := by decide +kernel
theorem dL_law_794 : decode cL_law 794 = .ok (.iload_n 3, 1) := by decide +kernel
theorem dL_law_795 : decode cL_law 795 = .ok (.iconst 1, 1) := by decide +kernel
theorem dL_law_796 : decode cL_law 796 = .ok (.iadd, 1) := by decide +kernel
theorem dL_law_797 : decode cL_law 797 = .ok (.iaload, 1) := by decide +kernel
theorem dL_law_798 : decode cL_law 798 = .ok (.aload_n 0, 1) := by decide +kernel
theorem dL_law_799 : decode cL_law 799 = .ok (.iload_n 3, 1) := by decide +kernel
theorem dL_law_800 : decode cL_law 800 = .ok (.iconst 2, 1) := by decide +kernel
theorem dL_law_801 : decode cL_law 801 = .ok (.iadd, 1) := by decide +kernel
theorem dL_law_802 : decode cL_law 802 = .ok (.iaload, 1) := by decide +kernel
theorem dL_law_803 : decode cL_law 803 = .ok (.aload_n 0, 1) := by decide +kernel
theorem dL_law_804 : decode cL_law 804 = .ok (.iload_n 3, 1) := by decide +kernel
theorem dL_law_805 : decode cL_law 805 = .ok (.iconst 3, 1) := by decide +kernel
theorem dL_law_806 : decode cL_law 806 = .ok (.iadd, 1) := by decide +kernel
theorem dL_law_807 : decode cL_law 807 = .ok (.iaload, 1) := by decide +kernel
theorem dL_law_808 : decode cL_law 808 = .ok (.invokevirtual 105, 3) := by decide +kernel
theorem dL_law_811 : decode cL_law 811 = .ok (.aload_n 2, 1) := by decide +kernel
theorem dL_law_812 : decode cL_law 812 = .ok (.aload_n 0, 1) := by decide +kernel
theorem dL_law_813 : decode cL_law 813 = .ok (.iload_n 3, 1) := by decide +kernel
theorem dL_law_814 : decode cL_law 814 = .ok (.iconst 1, 1) := by decide +kernel
theorem dL_law_815 : decode cL_law 815 = .ok (.iadd, 1) := by decide +kernel
theorem dL_law_816 : decode cL_law 816 = .ok (.iaload, 1) := by decide +kernel
theorem dL_law_817 : decode cL_law 817 = .ok (.aload_n 0, 1) := by decide +kernel
theorem dL_law_818 : decode cL_law 818 = .ok (.iload_n 3, 1) := by decide +kernel
theorem dL_law_819 : decode cL_law 819 = .ok (.iconst 2, 1) := by decide +kernel
theorem dL_law_820 : decode cL_law 820 = .ok (.iadd, 1) := by decide +kernel
theorem dL_law_821 : decode cL_law 821 = .ok (.iaload, 1) := by decide +kernel
theorem dL_law_822 : decode cL_law 822 = .ok (.aload_n 0, 1) := by decide +kernel
theorem dL_law_823 : decode cL_law 823 = .ok (.iload_n 3, 1) := by decide +kernel
theorem dL_law_824 : decode cL_law 824 = .ok (.iconst 3, 1) := by decide +kernel
theorem dL_law_825 : decode cL_law 825 = .ok (.iadd, 1) := by decide +kernel
theorem dL_law_826 : decode cL_law 826 = .ok (.iaload, 1) := by decide +kernel
theorem dL_law_827 : decode cL_law 827 = .ok (.invokevirtual 108, 3) := by decide +kernel
theorem dL_law_830 : decode cL_law 830 = .ok (.if_icmp .eq 628, 3) := by decide +kernel
theorem dL_law_833 : decode cL_law 833 = .ok (.iconst 0, 1) := by decide +kernel
theorem dL_law_834 : decode cL_law 834 = .ok (.ireturn, 1) := by decide +kernel
theorem dL_law_835 : decode cL_law 835 = .ok (.aload_n 1, 1) := by decide +kernel
theorem dL_law_836 : decode cL_law 836 = .ok (.aload_n 0, 1) := by decide +kernel
theorem dL_law_837 : decode cL_law 837 = .ok (.iload_n 3, 1) := by decide +kernel
theorem dL_law_838 : decode cL_law 838 = .ok (.iconst 1, 1) := by decide +kernel
theorem dL_law_839 : decode cL_law 839 = .ok (.iadd, 1) := by decide +kernel
theorem dL_law_840 : decode cL_law 840 = .ok (.iaload, 1) := by decide +kernel
theorem dL_law_841 : decode cL_law 841 = .ok (.invokevirtual 109, 3) := by decide +kernel
theorem dL_law_844 : decode cL_law 844 = .ok (.aload_n 2, 1) := by decide +kernel
theorem dL_law_845 : decode cL_law 845 = .ok (.aload_n 0, 1) := by decide +kernel
theorem dL_law_846 : decode cL_law 846 = .ok (.iload_n 3, 1) := by decide +kernel
theorem dL_law_847 : decode cL_law 847 = .ok (.iconst 1, 1) := by decide +kernel
theorem dL_law_848 : decode cL_law 848 = .ok (.iadd, 1) := by decide +kernel
theorem dL_law_849 : decode cL_law 849 = .ok (.iaload, 1) := by decide +kernel
theorem dL_law_850 : decode cL_law 850 = .ok (.invokevirtual 112, 3) := by decide +kernel
theorem dL_law_853 : decode cL_law 853 = .ok (.if_icmp .eq 605, 3) := by decide +kernel
theorem dL_law_856 : decode cL_law 856 = .ok (.iconst 0, 1) := by decide +kernel
theorem dL_law_857 : decode cL_law 857 = .ok (.ireturn, 1) := by decide +kernel
theorem dL_law_858 : decode cL_law 858 = .ok (.aload_n 1, 1) := by decide +kernel
theorem dL_law_859 : decode cL_law 859 = .ok (.aload_n 0, 1) := by decide +kernel
theorem dL_law_860 : decode cL_law 860 = .ok (.iload_n 3, 1) := by decide +kernel
theorem dL_law_861 : decode cL_law 861 = .ok (.iconst 1, 1) := by decide +kernel
theorem dL_law_862 : decode cL_law 862 = .ok (.iadd, 1) := by decide +kernel
theorem dL_law_863 : decode cL_law 863 = .ok (.iaload, 1) := by decide +kernel
theorem dL_law_864 : decode cL_law 864 = .ok (.invokevirtual 113, 3) := by decide +kernel
theorem dL_law_867 : decode cL_law 867 = .ok (.aload_n 2, 1) := by decide +kernel
theorem dL_law_868 : decode cL_law 868 = .ok (.aload_n 0, 1) := by decide +kernel
theorem dL_law_869 : decode cL_law 869 = .ok (.iload_n 3, 1) := by decide +kernel
theorem dL_law_870 : decode cL_law 870 = .ok (.iconst 1, 1) := by decide +kernel
theorem dL_law_871 : decode cL_law 871 = .ok (.iadd, 1) := by decide +kernel
theorem dL_law_872 : decode cL_law 872 = .ok (.iaload, 1) := by decide +kernel
theorem dL_law_873 : decode cL_law 873 = .ok (.invokevirtual 116, 3) := by decide +kernel
theorem dL_law_876 : decode cL_law 876 = .ok (.if_icmp .eq 582, 3) := by decide +kernel
theorem dL_law_879 : decode cL_law 879 = .ok (.iconst 0, 1) := by decide +kernel
theorem dL_law_880 : decode cL_law 880 = .ok (.ireturn, 1) := by decide +kernel
theorem dL_law_881 : decode cL_law 881 = .ok (.aload_n 1, 1) := by decide +kernel
theorem dL_law_882 : decode cL_law 882 = .ok (.invokevirtual 117, 3) := by decide +kernel
theorem dL_law_885 : decode cL_law 885 = .ok (.aload_n 2, 1) := by decide +kernel
theorem dL_law_886 : decode cL_law 886 = .ok (.invokevirtual 120, 3) := by decide +kernel
theorem dL_law_889 : decode cL_law 889 = .ok (.if_icmp .eq 569, 3) := by decide +kernel
theorem dL_law_892 : decode cL_law 892 = .ok (.iconst 0, 1) := by decide +kernel
theorem dL_law_893 : decode cL_law 893 = .ok (.ireturn, 1) := by decide +kernel
theorem dL_law_894 : decode cL_law 894 = .ok (.aload_n 1, 1) := by decide +kernel
theorem dL_law_895 : decode cL_law 895 = .ok (.aload_n 0, 1) := by decide +kernel
theorem dL_law_896 : decode cL_law 896 = .ok (.iload_n 3, 1) := by decide +kernel
theorem dL_law_897 : decode cL_law 897 = .ok (.iconst 1, 1) := by decide +kernel
theorem dL_law_898 : decode cL_law 898 = .ok (.iadd, 1) := by decide +kernel
theorem dL_law_899 : decode cL_law 899 = .ok (.iaload, 1) := by decide +kernel
theorem dL_law_900 : decode cL_law 900 = .ok (.invokevirtual 121, 3) := by decide +kernel
theorem dL_law_903 : decode cL_law 903 = .ok (.aload_n 2, 1) := by decide +kernel
theorem dL_law_904 : decode cL_law 904 = .ok (.aload_n 0, 1) := by decide +kernel
theorem dL_law_905 : decode cL_law 905 = .ok (.iload_n 3, 1) := by decide +kernel
theorem dL_law_906 : decode cL_law 906 = .ok (.iconst 1, 1) := by decide +kernel
theorem dL_law_907 : decode cL_law 907 = .ok (.iadd, 1) := by decide +kernel
theorem dL_law_908 : decode cL_law 908 = .ok (.iaload, 1) := by decide +kernel
theorem dL_law_909 : decode cL_law 909 = .ok (.invokevirtual 125, 3) := by decide +kernel
theorem dL_law_912 : decode cL_law 912 = .ok (.lcmp, 1) := by decide +kernel
theorem dL_law_913 : decode cL_law 913 = .ok (.ifCond .eq 545, 3) := by decide +kernel
theorem dL_law_916 : decode cL_law 916 = .ok (.iconst 0, 1) := by decide +kernel
theorem dL_law_917 : decode cL_law 917 = .ok (.ireturn, 1) := by decide +kernel
theorem dL_law_918 : decode cL_law 918 = .ok (.aload_n 1, 1) := by decide +kernel
theorem dL_law_919 : decode cL_law 919 = .ok (.aload_n 0, 1) := by decide +kernel
theorem dL_law_920 : decode cL_law 920 = .ok (.iload_n 3, 1) := by decide +kernel
theorem dL_law_921 : decode cL_law 921 = .ok (.iconst 1, 1) := by decide +kernel
theorem dL_law_922 : decode cL_law 922 = .ok (.iadd, 1) := by decide +kernel
theorem dL_law_923 : decode cL_law 923 = .ok (.iaload, 1) := by decide +kernel
theorem dL_law_924 : decode cL_law 924 = .ok (.aload_n 0, 1) := by decide +kernel
theorem dL_law_925 : decode cL_law 925 = .ok (.iload_n 3, 1) := by decide +kernel
theorem dL_law_926 : decode cL_law 926 = .ok (.iconst 2, 1) := by decide +kernel
theorem dL_law_927 : decode cL_law 927 = .ok (.iadd, 1) := by decide +kernel
theorem dL_law_928 : decode cL_law 928 = .ok (.iaload, 1) := by decide +kernel
theorem dL_law_929 : decode cL_law 929 = .ok (.invokevirtual 126, 3) := by decide +kernel
theorem dL_law_932 : decode cL_law 932 = .ok (.aload_n 2, 1) := by decide +kernel
theorem dL_law_933 : decode cL_law 933 = .ok (.aload_n 0, 1) := by decide +kernel
theorem dL_law_934 : decode cL_law 934 = .ok (.iload_n 3, 1) := by decide +kernel
theorem dL_law_935 : decode cL_law 935 = .ok (.iconst 1, 1) := by decide +kernel
theorem dL_law_936 : decode cL_law 936 = .ok (.iadd, 1) := by decide +kernel
theorem dL_law_937 : decode cL_law 937 = .ok (.iaload, 1) := by decide +kernel
theorem dL_law_938 : decode cL_law 938 = .ok (.aload_n 0, 1) := by decide +kernel
theorem dL_law_939 : decode cL_law 939 = .ok (.iload_n 3, 1) := by decide +kernel
theorem dL_law_940 : decode cL_law 940 = .ok (.iconst 2, 1) := by decide +kernel
theorem dL_law_941 : decode cL_law 941 = .ok (.iadd, 1) := by decide +kernel
theorem dL_law_942 : decode cL_law 942 = .ok (.iaload, 1) := by decide +kernel
theorem dL_law_943 : decode cL_law 943 = .ok (.invokevirtual 129, 3) := by decide +kernel
theorem dL_law_946 : decode cL_law 946 = .ok (.if_icmp .eq 512, 3) := by decide +kernel
theorem dL_law_949 : decode cL_law 949 = .ok (.iconst 0, 1) := by decide +kernel
theorem dL_law_950 : decode cL_law 950 = .ok (.ireturn, 1) := by decide +kernel
theorem dL_law_951 : decode cL_law 951 = .ok (.aload_n 1, 1) := by decide +kernel
theorem dL_law_952 : decode cL_law 952 = .ok (.aload_n 0, 1) := by decide +kernel
theorem dL_law_953 : decode cL_law 953 = .ok (.iload_n 3, 1) := by decide +kernel
theorem dL_law_954 : decode cL_law 954 = .ok (.iconst 1, 1) := by decide +kernel
theorem dL_law_955 : decode cL_law 955 = .ok (.iadd, 1) := by decide +kernel
theorem dL_law_956 : decode cL_law 956 = .ok (.iaload, 1) := by decide +kernel
theorem dL_law_957 : decode cL_law 957 = .ok (.invokevirtual 130, 3) := by decide +kernel
theorem dL_law_960 : decode cL_law 960 = .ok (.aload_n 2, 1) := by decide +kernel
theorem dL_law_961 : decode cL_law 961 = .ok (.aload_n 0, 1) := by decide +kernel
theorem dL_law_962 : decode cL_law 962 = .ok (.iload_n 3, 1) := by decide +kernel
theorem dL_law_963 : decode cL_law 963 = .ok (.iconst 1, 1) := by decide +kernel
theorem dL_law_964 : decode cL_law 964 = .ok (.iadd, 1) := by decide +kernel
theorem dL_law_965 : decode cL_law 965 = .ok (.iaload, 1) := by decide +kernel
theorem dL_law_966 : decode cL_law 966 = .ok (.invokevirtual 133, 3) := by decide +kernel
theorem dL_law_969 : decode cL_law 969 = .ok (.if_icmp .eq 489, 3) := by decide +kernel
theorem dL_law_972 : decode cL_law 972 = .ok (.iconst 0, 1) := by decide +kernel
theorem dL_law_973 : decode cL_law 973 = .ok (.ireturn, 1) := by decide +kernel
theorem dL_law_974 : decode cL_law 974 = .ok (.aload_n 1, 1) := by decide +kernel
theorem dL_law_975 : decode cL_law 975 = .ok (.aload_n 0, 1) := by decide +kernel
theorem dL_law_976 : decode cL_law 976 = .ok (.iload_n 3, 1) := by decide +kernel
theorem dL_law_977 : decode cL_law 977 = .ok (.iconst 1, 1) := by decide +kernel
theorem dL_law_978 : decode cL_law 978 = .ok (.iadd, 1) := by decide +kernel
theorem dL_law_979 : decode cL_law 979 = .ok (.iaload, 1) := by decide +kernel
theorem dL_law_980 : decode cL_law 980 = .ok (.invokevirtual 134, 3) := by decide +kernel
theorem dL_law_983 : decode cL_law 983 = .ok (.aload_n 2, 1) := by decide +kernel
theorem dL_law_984 : decode cL_law 984 = .ok (.aload_n 0, 1) := by decide +kernel
theorem dL_law_985 : decode cL_law 985 = .ok (.iload_n 3, 1) := by decide +kernel
theorem dL_law_986 : decode cL_law 986 = .ok (.iconst 1, 1) := by decide +kernel
theorem dL_law_987 : decode cL_law 987 = .ok (.iadd, 1) := by decide +kernel
theorem dL_law_988 : decode cL_law 988 = .ok (.iaload, 1) := by decide +kernel
theorem dL_law_989 : decode cL_law 989 = .ok (.invokevirtual 137, 3) := by decide +kernel
theorem dL_law_992 : decode cL_law 992 = .ok (.if_icmp .eq 466, 3) := by decide +kernel
theorem dL_law_995 : decode cL_law 995 = .ok (.iconst 0, 1) := by decide +kernel
theorem dL_law_996 : decode cL_law 996 = .ok (.ireturn, 1) := by decide +kernel
theorem dL_law_997 : decode cL_law 997 = .ok (.aload_n 1, 1) := by decide +kernel
theorem dL_law_998 : decode cL_law 998 = .ok (.invokevirtual 138, 3) := by decide +kernel
theorem dL_law_1001 : decode cL_law 1001 = .ok (.aload_n 2, 1) := by decide +kernel
theorem dL_law_1002 : decode cL_law 1002 = .ok (.invokevirtual 141, 3) := by decide +kernel
theorem dL_law_1005 : decode cL_law 1005 = .ok (.if_icmp .eq 453, 3) := by decide +kernel
theorem dL_law_1008 : decode cL_law 1008 = .ok (.iconst 0, 1) := by decide +kernel
theorem dL_law_1009 : decode cL_law 1009 = .ok (.ireturn, 1) := by decide +kernel
theorem dL_law_1010 : decode cL_law 1010 = .ok (.aload_n 1, 1) := by decide +kernel
theorem dL_law_1011 : decode cL_law 1011 = .ok (.invokevirtual 142, 3) := by decide +kernel
theorem dL_law_1014 : decode cL_law 1014 = .ok (.aload_n 2, 1) := by decide +kernel
theorem dL_law_1015 : decode cL_law 1015 = .ok (.invokevirtual 145, 3) := by decide +kernel
theorem dL_law_1018 : decode cL_law 1018 = .ok (.if_icmp .eq 440, 3) := by decide +kernel
theorem dL_law_1021 : decode cL_law 1021 = .ok (.iconst 0, 1) := by decide +kernel
theorem dL_law_1022 : decode cL_law 1022 = .ok (.ireturn, 1) := by decide +kernel
theorem dL_law_1023 : decode cL_law 1023 = .ok (.aload_n 1, 1) := by decide +kernel
theorem dL_law_1024 : decode cL_law 1024 = .ok (.aload_n 0, 1) := by decide +kernel
theorem dL_law_1025 : decode cL_law 1025 = .ok (.iload_n 3, 1) := by decide +kernel
theorem dL_law_1026 : decode cL_law 1026 = .ok (.iconst 1, 1) := by decide +kernel
theorem dL_law_1027 : decode cL_law 1027 = .ok (.iadd, 1) := by decide +kernel
theorem dL_law_1028 : decode cL_law 1028 = .ok (.iaload, 1) := by decide +kernel
theorem dL_law_1029 : decode cL_law 1029 = .ok (.aload_n 0, 1) := by decide +kernel
theorem dL_law_1030 : decode cL_law 1030 = .ok (.iload_n 3, 1) := by decide +kernel
theorem dL_law_1031 : decode cL_law 1031 = .ok (.iconst 2, 1) := by decide +kernel
theorem dL_law_1032 : decode cL_law 1032 = .ok (.iadd, 1) := by decide +kernel
theorem dL_law_1033 : decode cL_law 1033 = .ok (.iaload, 1) := by decide +kernel
theorem dL_law_1034 : decode cL_law 1034 = .ok (.aload_n 0, 1) := by decide +kernel
theorem dL_law_1035 : decode cL_law 1035 = .ok (.iload_n 3, 1) := by decide +kernel
theorem dL_law_1036 : decode cL_law 1036 = .ok (.iconst 3, 1) := by decide +kernel
theorem dL_law_1037 : decode cL_law 1037 = .ok (.iadd, 1) := by decide +kernel
theorem dL_law_1038 : decode cL_law 1038 = .ok (.iaload, 1) := by decide +kernel
theorem dL_law_1039 : decode cL_law 1039 = .ok (.invokevirtual 146, 3) := by decide +kernel
theorem dL_law_1042 : decode cL_law 1042 = .ok (.aload_n 2, 1) := by decide +kernel
theorem dL_law_1043 : decode cL_law 1043 = .ok (.aload_n 0, 1) := by decide +kernel
theorem dL_law_1044 : decode cL_law 1044 = .ok (.iload_n 3, 1) := by decide +kernel
theorem dL_law_1045 : decode cL_law 1045 = .ok (.iconst 1, 1) := by decide +kernel
theorem dL_law_1046 : decode cL_law 1046 = .ok (.iadd, 1) := by decide +kernel
theorem dL_law_1047 : decode cL_law 1047 = .ok (.iaload, 1) := by decide +kernel
theorem dL_law_1048 : decode cL_law 1048 = .ok (.aload_n 0, 1) := by decide +kernel
theorem dL_law_1049 : decode cL_law 1049 = .ok (.iload_n 3, 1) := by decide +kernel
theorem dL_law_1050 : decode cL_law 1050 = .ok (.iconst 2, 1) := by decide +kernel
theorem dL_law_1051 : decode cL_law 1051 = .ok (.iadd, 1) := by decide +kernel
theorem dL_law_1052 : decode cL_law 1052 = .ok (.iaload, 1) := by decide +kernel
theorem dL_law_1053 : decode cL_law 1053 = .ok (.aload_n 0, 1) := by decide +kernel
theorem dL_law_1054 : decode cL_law 1054 = .ok (.iload_n 3, 1) := by decide +kernel
theorem dL_law_1055 : decode cL_law 1055 = .ok (.iconst 3, 1) := by decide +kernel
theorem dL_law_1056 : decode cL_law 1056 = .ok (.iadd, 1) := by decide +kernel
theorem dL_law_1057 : decode cL_law 1057 = .ok (.iaload, 1) := by decide +kernel
theorem dL_law_1058 : decode cL_law 1058 = .ok (.invokevirtual 149, 3) := by decide +kernel
theorem dL_law_1061 : decode cL_law 1061 = .ok (.if_icmp .eq 397, 3) := by decide +kernel
theorem dL_law_1064 : decode cL_law 1064 = .ok (.iconst 0, 1) := by decide +kernel
theorem dL_law_1065 : decode cL_law 1065 = .ok (.ireturn, 1) := by decide +kernel
theorem dL_law_1066 : decode cL_law 1066 = .ok (.aload_n 1, 1) := by decide +kernel
theorem dL_law_1067 : decode cL_law 1067 = .ok (.aload_n 0, 1) := by decide +kernel
theorem dL_law_1068 : decode cL_law 1068 = .ok (.iload_n 3, 1) := by decide +kernel
theorem dL_law_1069 : decode cL_law 1069 = .ok (.iconst 1, 1) := by decide +kernel
theorem dL_law_1070 : decode cL_law 1070 = .ok (.iadd, 1) := by decide +kernel
theorem dL_law_1071 : decode cL_law 1071 = .ok (.iaload, 1) := by decide +kernel
theorem dL_law_1072 : decode cL_law 1072 = .ok (.invokevirtual 150, 3) := by decide +kernel
theorem dL_law_1075 : decode cL_law 1075 = .ok (.aload_n 2, 1) := by decide +kernel
theorem dL_law_1076 : decode cL_law 1076 = .ok (.aload_n 0, 1) := by decide +kernel
theorem dL_law_1077 : decode cL_law 1077 = .ok (.iload_n 3, 1) := by decide +kernel
theorem dL_law_1078 : decode cL_law 1078 = .ok (.iconst 1, 1) := by decide +kernel
theorem dL_law_1079 : decode cL_law 1079 = .ok (.iadd, 1) := by decide +kernel
theorem dL_law_1080 : decode cL_law 1080 = .ok (.iaload, 1) := by decide +kernel
theorem dL_law_1081 : decode cL_law 1081 = .ok (.invokevirtual 153, 3) := by decide +kernel
theorem dL_law_1084 : decode cL_law 1084 = .ok (.if_icmp .eq 374, 3) := by decide +kernel
theorem dL_law_1087 : decode cL_law 1087 = .ok (.iconst 0, 1) := by decide +kernel
theorem dL_law_1088 : decode cL_law 1088 = .ok (.ireturn, 1) := by decide +kernel
theorem dL_law_1089 : decode cL_law 1089 = .ok (.aload_n 1, 1) := by decide +kernel
theorem dL_law_1090 : decode cL_law 1090 = .ok (.invokevirtual 154, 3) := by decide +kernel
theorem dL_law_1093 : decode cL_law 1093 = .ok (.aload_n 2, 1) := by decide +kernel
theorem dL_law_1094 : decode cL_law 1094 = .ok (.invokevirtual 157, 3) := by decide +kernel
theorem dL_law_1097 : decode cL_law 1097 = .ok (.if_icmp .eq 361, 3) := by decide +kernel
theorem dL_law_1100 : decode cL_law 1100 = .ok (.iconst 0, 1) := by decide +kernel
theorem dL_law_1101 : decode cL_law 1101 = .ok (.ireturn, 1) := by decide +kernel
theorem dL_law_1102 : decode cL_law 1102 = .ok (.aload_n 1, 1) := by decide +kernel
theorem dL_law_1103 : decode cL_law 1103 = .ok (.aload_n 0, 1) := by decide +kernel
theorem dL_law_1104 : decode cL_law 1104 = .ok (.iload_n 3, 1) := by decide +kernel
theorem dL_law_1105 : decode cL_law 1105 = .ok (.iconst 1, 1) := by decide +kernel
theorem dL_law_1106 : decode cL_law 1106 = .ok (.iadd, 1) := by decide +kernel
theorem dL_law_1107 : decode cL_law 1107 = .ok (.iaload, 1) := by decide +kernel
theorem dL_law_1108 : decode cL_law 1108 = .ok (.aload_n 0, 1) := by decide +kernel
theorem dL_law_1109 : decode cL_law 1109 = .ok (.iload_n 3, 1) := by decide +kernel
theorem dL_law_1110 : decode cL_law 1110 = .ok (.iconst 2, 1) := by decide +kernel
theorem dL_law_1111 : decode cL_law 1111 = .ok (.iadd, 1) := by decide +kernel
theorem dL_law_1112 : decode cL_law 1112 = .ok (.iaload, 1) := by decide +kernel
theorem dL_law_1113 : decode cL_law 1113 = .ok (.aload_n 0, 1) := by decide +kernel
theorem dL_law_1114 : decode cL_law 1114 = .ok (.iload_n 3, 1) := by decide +kernel
theorem dL_law_1115 : decode cL_law 1115 = .ok (.iconst 3, 1) := by decide +kernel
theorem dL_law_1116 : decode cL_law 1116 = .ok (.iadd, 1) := by decide +kernel
theorem dL_law_1117 : decode cL_law 1117 = .ok (.iaload, 1) := by decide +kernel
theorem dL_law_1118 : decode cL_law 1118 = .ok (.aload_n 0, 1) := by decide +kernel
theorem dL_law_1119 : decode cL_law 1119 = .ok (.iload_n 3, 1) := by decide +kernel
theorem dL_law_1120 : decode cL_law 1120 = .ok (.iconst 4, 1) := by decide +kernel
theorem dL_law_1121 : decode cL_law 1121 = .ok (.iadd, 1) := by decide +kernel
theorem dL_law_1122 : decode cL_law 1122 = .ok (.iaload, 1) := by decide +kernel
theorem dL_law_1123 : decode cL_law 1123 = .ok (.invokevirtual 158, 3) := by decide +kernel
theorem dL_law_1126 : decode cL_law 1126 = .ok (.aload_n 2, 1) := by decide +kernel
theorem dL_law_1127 : decode cL_law 1127 = .ok (.aload_n 0, 1) := by decide +kernel
theorem dL_law_1128 : decode cL_law 1128 = .ok (.iload_n 3, 1) := by decide +kernel
theorem dL_law_1129 : decode cL_law 1129 = .ok (.iconst 1, 1) := by decide +kernel
theorem dL_law_1130 : decode cL_law 1130 = .ok (.iadd, 1) := by decide +kernel
theorem dL_law_1131 : decode cL_law 1131 = .ok (.iaload, 1) := by decide +kernel
theorem dL_law_1132 : decode cL_law 1132 = .ok (.aload_n 0, 1) := by decide +kernel
theorem dL_law_1133 : decode cL_law 1133 = .ok (.iload_n 3, 1) := by decide +kernel
theorem dL_law_1134 : decode cL_law 1134 = .ok (.iconst 2, 1) := by decide +kernel
theorem dL_law_1135 : decode cL_law 1135 = .ok (.iadd, 1) := by decide +kernel
theorem dL_law_1136 : decode cL_law 1136 = .ok (.iaload, 1) := by decide +kernel
theorem dL_law_1137 : decode cL_law 1137 = .ok (.aload_n 0, 1) := by decide +kernel
theorem dL_law_1138 : decode cL_law 1138 = .ok (.iload_n 3, 1) := by decide +kernel
theorem dL_law_1139 : decode cL_law 1139 = .ok (.iconst 3, 1) := by decide +kernel
theorem dL_law_1140 : decode cL_law 1140 = .ok (.iadd, 1) := by decide +kernel
theorem dL_law_1141 : decode cL_law 1141 = .ok (.iaload, 1) := by decide +kernel
theorem dL_law_1142 : decode cL_law 1142 = .ok (.aload_n 0, 1) := by decide +kernel
theorem dL_law_1143 : decode cL_law 1143 = .ok (.iload_n 3, 1) := by decide +kernel
theorem dL_law_1144 : decode cL_law 1144 = .ok (.iconst 4, 1) := by decide +kernel
theorem dL_law_1145 : decode cL_law 1145 = .ok (.iadd, 1) := by decide +kernel
theorem dL_law_1146 : decode cL_law 1146 = .ok (.iaload, 1) := by decide +kernel
theorem dL_law_1147 : decode cL_law 1147 = .ok (.invokevirtual 162, 3) := by decide +kernel
theorem dL_law_1150 : decode cL_law 1150 = .ok (.if_icmp .eq 308, 3) := by decide +kernel
theorem dL_law_1153 : decode cL_law 1153 = .ok (.iconst 0, 1) := by decide +kernel
theorem dL_law_1154 : decode cL_law 1154 = .ok (.ireturn, 1) := by decide +kernel
theorem dL_law_1155 : decode cL_law 1155 = .ok (.aload_n 1, 1) := by decide +kernel
theorem dL_law_1156 : decode cL_law 1156 = .ok (.aload_n 0, 1) := by decide +kernel
theorem dL_law_1157 : decode cL_law 1157 = .ok (.iload_n 3, 1) := by decide +kernel
theorem dL_law_1158 : decode cL_law 1158 = .ok (.iconst 1, 1) := by decide +kernel
theorem dL_law_1159 : decode cL_law 1159 = .ok (.iadd, 1) := by decide +kernel
theorem dL_law_1160 : decode cL_law 1160 = .ok (.iaload, 1) := by decide +kernel
theorem dL_law_1161 : decode cL_law 1161 = .ok (.aload_n 0, 1) := by decide +kernel
theorem dL_law_1162 : decode cL_law 1162 = .ok (.iload_n 3, 1) := by decide +kernel
theorem dL_law_1163 : decode cL_law 1163 = .ok (.iconst 2, 1) := by decide +kernel
theorem dL_law_1164 : decode cL_law 1164 = .ok (.iadd, 1) := by decide +kernel
theorem dL_law_1165 : decode cL_law 1165 = .ok (.iaload, 1) := by decide +kernel
theorem dL_law_1166 : decode cL_law 1166 = .ok (.aload_n 0, 1) := by decide +kernel
theorem dL_law_1167 : decode cL_law 1167 = .ok (.iload_n 3, 1) := by decide +kernel
theorem dL_law_1168 : decode cL_law 1168 = .ok (.iconst 3, 1) := by decide +kernel
theorem dL_law_1169 : decode cL_law 1169 = .ok (.iadd, 1) := by decide +kernel
theorem dL_law_1170 : decode cL_law 1170 = .ok (.iaload, 1) := by decide +kernel
theorem dL_law_1171 : decode cL_law 1171 = .ok (.invokevirtual 163, 3) := by decide +kernel
theorem dL_law_1174 : decode cL_law 1174 = .ok (.aload_n 2, 1) := by decide +kernel
theorem dL_law_1175 : decode cL_law 1175 = .ok (.aload_n 0, 1) := by decide +kernel
theorem dL_law_1176 : decode cL_law 1176 = .ok (.iload_n 3, 1) := by decide +kernel
theorem dL_law_1177 : decode cL_law 1177 = .ok (.iconst 1, 1) := by decide +kernel
theorem dL_law_1178 : decode cL_law 1178 = .ok (.iadd, 1) := by decide +kernel
theorem dL_law_1179 : decode cL_law 1179 = .ok (.iaload, 1) := by decide +kernel
theorem dL_law_1180 : decode cL_law 1180 = .ok (.aload_n 0, 1) := by decide +kernel
theorem dL_law_1181 : decode cL_law 1181 = .ok (.iload_n 3, 1) := by decide +kernel
theorem dL_law_1182 : decode cL_law 1182 = .ok (.iconst 2, 1) := by decide +kernel
theorem dL_law_1183 : decode cL_law 1183 = .ok (.iadd, 1) := by decide +kernel
theorem dL_law_1184 : decode cL_law 1184 = .ok (.iaload, 1) := by decide +kernel
theorem dL_law_1185 : decode cL_law 1185 = .ok (.aload_n 0, 1) := by decide +kernel
theorem dL_law_1186 : decode cL_law 1186 = .ok (.iload_n 3, 1) := by decide +kernel
theorem dL_law_1187 : decode cL_law 1187 = .ok (.iconst 3, 1) := by decide +kernel
theorem dL_law_1188 : decode cL_law 1188 = .ok (.iadd, 1) := by decide +kernel
theorem dL_law_1189 : decode cL_law 1189 = .ok (.iaload, 1) := by decide +kernel
theorem dL_law_1190 : decode cL_law 1190 = .ok (.invokevirtual 166, 3) := by decide +kernel
theorem dL_law_1193 : decode cL_law 1193 = .ok (.if_icmp .eq 265, 3) := by decide +kernel
theorem dL_law_1196 : decode cL_law 1196 = .ok (.iconst 0, 1) := by decide +kernel
theorem dL_law_1197 : decode cL_law 1197 = .ok (.ireturn, 1) := by decide +kernel
theorem dL_law_1198 : decode cL_law 1198 = .ok (.aload_n 1, 1) := by decide +kernel
theorem dL_law_1199 : decode cL_law 1199 = .ok (.aload_n 0, 1) := by decide +kernel
theorem dL_law_1200 : decode cL_law 1200 = .ok (.iload_n 3, 1) := by decide +kernel
theorem dL_law_1201 : decode cL_law 1201 = .ok (.iconst 1, 1) := by decide +kernel
theorem dL_law_1202 : decode cL_law 1202 = .ok (.iadd, 1) := by decide +kernel
theorem dL_law_1203 : decode cL_law 1203 = .ok (.iaload, 1) := by decide +kernel
theorem dL_law_1204 : decode cL_law 1204 = .ok (.invokevirtual 167, 3) := by decide +kernel
theorem dL_law_1207 : decode cL_law 1207 = .ok (.aload_n 2, 1) := by decide +kernel
theorem dL_law_1208 : decode cL_law 1208 = .ok (.aload_n 0, 1) := by decide +kernel
theorem dL_law_1209 : decode cL_law 1209 = .ok (.iload_n 3, 1) := by decide +kernel
theorem dL_law_1210 : decode cL_law 1210 = .ok (.iconst 1, 1) := by decide +kernel
theorem dL_law_1211 : decode cL_law 1211 = .ok (.iadd, 1) := by decide +kernel
theorem dL_law_1212 : decode cL_law 1212 = .ok (.iaload, 1) := by decide +kernel
theorem dL_law_1213 : decode cL_law 1213 = .ok (.invokevirtual 170, 3) := by decide +kernel
theorem dL_law_1216 : decode cL_law 1216 = .ok (.if_icmp .eq 242, 3) := by decide +kernel
theorem dL_law_1219 : decode cL_law 1219 = .ok (.iconst 0, 1) := by decide +kernel
theorem dL_law_1220 : decode cL_law 1220 = .ok (.ireturn, 1) := by decide +kernel
theorem dL_law_1221 : decode cL_law 1221 = .ok (.aload_n 1, 1) := by decide +kernel
theorem dL_law_1222 : decode cL_law 1222 = .ok (.aload_n 0, 1) := by decide +kernel
theorem dL_law_1223 : decode cL_law 1223 = .ok (.iload_n 3, 1) := by decide +kernel
theorem dL_law_1224 : decode cL_law 1224 = .ok (.iconst 1, 1) := by decide +kernel
theorem dL_law_1225 : decode cL_law 1225 = .ok (.iadd, 1) := by decide +kernel
theorem dL_law_1226 : decode cL_law 1226 = .ok (.iaload, 1) := by decide +kernel
theorem dL_law_1227 : decode cL_law 1227 = .ok (.invokevirtual 171, 3) := by decide +kernel
theorem dL_law_1230 : decode cL_law 1230 = .ok (.aload_n 2, 1) := by decide +kernel
theorem dL_law_1231 : decode cL_law 1231 = .ok (.aload_n 0, 1) := by decide +kernel
theorem dL_law_1232 : decode cL_law 1232 = .ok (.iload_n 3, 1) := by decide +kernel
theorem dL_law_1233 : decode cL_law 1233 = .ok (.iconst 1, 1) := by decide +kernel
theorem dL_law_1234 : decode cL_law 1234 = .ok (.iadd, 1) := by decide +kernel
theorem dL_law_1235 : decode cL_law 1235 = .ok (.iaload, 1) := by decide +kernel
theorem dL_law_1236 : decode cL_law 1236 = .ok (.invokevirtual 174, 3) := by decide +kernel
theorem dL_law_1239 : decode cL_law 1239 = .ok (.if_icmp .eq 219, 3) := by decide +kernel
theorem dL_law_1242 : decode cL_law 1242 = .ok (.iconst 0, 1) := by decide +kernel
theorem dL_law_1243 : decode cL_law 1243 = .ok (.ireturn, 1) := by decide +kernel
theorem dL_law_1244 : decode cL_law 1244 = .ok (.aload_n 1, 1) := by decide +kernel
theorem dL_law_1245 : decode cL_law 1245 = .ok (.aload_n 0, 1) := by decide +kernel
theorem dL_law_1246 : decode cL_law 1246 = .ok (.iload_n 3, 1) := by decide +kernel
theorem dL_law_1247 : decode cL_law 1247 = .ok (.iconst 1, 1) := by decide +kernel
theorem dL_law_1248 : decode cL_law 1248 = .ok (.iadd, 1) := by decide +kernel
theorem dL_law_1249 : decode cL_law 1249 = .ok (.iaload, 1) := by decide +kernel
theorem dL_law_1250 : decode cL_law 1250 = .ok (.invokevirtual 175, 3) := by decide +kernel
theorem dL_law_1253 : decode cL_law 1253 = .ok (.aload_n 2, 1) := by decide +kernel
theorem dL_law_1254 : decode cL_law 1254 = .ok (.aload_n 0, 1) := by decide +kernel
theorem dL_law_1255 : decode cL_law 1255 = .ok (.iload_n 3, 1) := by decide +kernel
theorem dL_law_1256 : decode cL_law 1256 = .ok (.iconst 1, 1) := by decide +kernel
theorem dL_law_1257 : decode cL_law 1257 = .ok (.iadd, 1) := by decide +kernel
theorem dL_law_1258 : decode cL_law 1258 = .ok (.iaload, 1) := by decide +kernel
theorem dL_law_1259 : decode cL_law 1259 = .ok (.invokevirtual 178, 3) := by decide +kernel
theorem dL_law_1262 : decode cL_law 1262 = .ok (.if_icmp .eq 196, 3) := by decide +kernel
theorem dL_law_1265 : decode cL_law 1265 = .ok (.iconst 0, 1) := by decide +kernel
theorem dL_law_1266 : decode cL_law 1266 = .ok (.ireturn, 1) := by decide +kernel
theorem dL_law_1267 : decode cL_law 1267 = .ok (.aload_n 1, 1) := by decide +kernel
theorem dL_law_1268 : decode cL_law 1268 = .ok (.aload_n 0, 1) := by decide +kernel
theorem dL_law_1269 : decode cL_law 1269 = .ok (.iload_n 3, 1) := by decide +kernel
theorem dL_law_1270 : decode cL_law 1270 = .ok (.iconst 1, 1) := by decide +kernel
theorem dL_law_1271 : decode cL_law 1271 = .ok (.iadd, 1) := by decide +kernel
theorem dL_law_1272 : decode cL_law 1272 = .ok (.iaload, 1) := by decide +kernel
theorem dL_law_1273 : decode cL_law 1273 = .ok (.aload_n 0, 1) := by decide +kernel
theorem dL_law_1274 : decode cL_law 1274 = .ok (.iload_n 3, 1) := by decide +kernel
theorem dL_law_1275 : decode cL_law 1275 = .ok (.iconst 2, 1) := by decide +kernel
theorem dL_law_1276 : decode cL_law 1276 = .ok (.iadd, 1) := by decide +kernel
theorem dL_law_1277 : decode cL_law 1277 = .ok (.iaload, 1) := by decide +kernel
theorem dL_law_1278 : decode cL_law 1278 = .ok (.aload_n 0, 1) := by decide +kernel
theorem dL_law_1279 : decode cL_law 1279 = .ok (.iload_n 3, 1) := by decide +kernel
theorem dL_law_1280 : decode cL_law 1280 = .ok (.iconst 3, 1) := by decide +kernel
theorem dL_law_1281 : decode cL_law 1281 = .ok (.iadd, 1) := by decide +kernel
theorem dL_law_1282 : decode cL_law 1282 = .ok (.iaload, 1) := by decide +kernel
theorem dL_law_1283 : decode cL_law 1283 = .ok (.invokevirtual 179, 3) := by decide +kernel
theorem dL_law_1286 : decode cL_law 1286 = .ok (.aload_n 2, 1) := by decide +kernel
theorem dL_law_1287 : decode cL_law 1287 = .ok (.aload_n 0, 1) := by decide +kernel
theorem dL_law_1288 : decode cL_law 1288 = .ok (.iload_n 3, 1) := by decide +kernel
theorem dL_law_1289 : decode cL_law 1289 = .ok (.iconst 1, 1) := by decide +kernel
theorem dL_law_1290 : decode cL_law 1290 = .ok (.iadd, 1) := by decide +kernel
theorem dL_law_1291 : decode cL_law 1291 = .ok (.iaload, 1) := by decide +kernel
theorem dL_law_1292 : decode cL_law 1292 = .ok (.aload_n 0, 1) := by decide +kernel
theorem dL_law_1293 : decode cL_law 1293 = .ok (.iload_n 3, 1) := by decide +kernel
theorem dL_law_1294 : decode cL_law 1294 = .ok (.iconst 2, 1) := by decide +kernel
theorem dL_law_1295 : decode cL_law 1295 = .ok (.iadd, 1) := by decide +kernel
theorem dL_law_1296 : decode cL_law 1296 = .ok (.iaload, 1) := by decide +kernel
theorem dL_law_1297 : decode cL_law 1297 = .ok (.aload_n 0, 1) := by decide +kernel
theorem dL_law_1298 : decode cL_law 1298 = .ok (.iload_n 3, 1) := by decide +kernel
theorem dL_law_1299 : decode cL_law 1299 = .ok (.iconst 3, 1) := by decide +kernel
theorem dL_law_1300 : decode cL_law 1300 = .ok (.iadd, 1) := by decide +kernel
theorem dL_law_1301 : decode cL_law 1301 = .ok (.iaload, 1) := by decide +kernel
theorem dL_law_1302 : decode cL_law 1302 = .ok (.invokevirtual 182, 3) := by decide +kernel
theorem dL_law_1305 : decode cL_law 1305 = .ok (.if_icmp .eq 153, 3) := by decide +kernel
theorem dL_law_1308 : decode cL_law 1308 = .ok (.iconst 0, 1) := by decide +kernel
theorem dL_law_1309 : decode cL_law 1309 = .ok (.ireturn, 1) := by decide +kernel
theorem dL_law_1310 : decode cL_law 1310 = .ok (.aload_n 1, 1) := by decide +kernel
theorem dL_law_1311 : decode cL_law 1311 = .ok (.aload_n 0, 1) := by decide +kernel
theorem dL_law_1312 : decode cL_law 1312 = .ok (.iload_n 3, 1) := by decide +kernel
theorem dL_law_1313 : decode cL_law 1313 = .ok (.iconst 1, 1) := by decide +kernel
theorem dL_law_1314 : decode cL_law 1314 = .ok (.iadd, 1) := by decide +kernel
theorem dL_law_1315 : decode cL_law 1315 = .ok (.iaload, 1) := by decide +kernel
theorem dL_law_1316 : decode cL_law 1316 = .ok (.aload_n 0, 1) := by decide +kernel
theorem dL_law_1317 : decode cL_law 1317 = .ok (.iload_n 3, 1) := by decide +kernel
theorem dL_law_1318 : decode cL_law 1318 = .ok (.iconst 2, 1) := by decide +kernel
theorem dL_law_1319 : decode cL_law 1319 = .ok (.iadd, 1) := by decide +kernel
theorem dL_law_1320 : decode cL_law 1320 = .ok (.iaload, 1) := by decide +kernel
theorem dL_law_1321 : decode cL_law 1321 = .ok (.aload_n 0, 1) := by decide +kernel
theorem dL_law_1322 : decode cL_law 1322 = .ok (.iload_n 3, 1) := by decide +kernel
theorem dL_law_1323 : decode cL_law 1323 = .ok (.iconst 3, 1) := by decide +kernel
theorem dL_law_1324 : decode cL_law 1324 = .ok (.iadd, 1) := by decide +kernel
theorem dL_law_1325 : decode cL_law 1325 = .ok (.iaload, 1) := by decide +kernel
theorem dL_law_1326 : decode cL_law 1326 = .ok (.invokevirtual 183, 3) := by decide +kernel
theorem dL_law_1329 : decode cL_law 1329 = .ok (.aload_n 2, 1) := by decide +kernel
theorem dL_law_1330 : decode cL_law 1330 = .ok (.aload_n 0, 1) := by decide +kernel
theorem dL_law_1331 : decode cL_law 1331 = .ok (.iload_n 3, 1) := by decide +kernel
theorem dL_law_1332 : decode cL_law 1332 = .ok (.iconst 1, 1) := by decide +kernel
theorem dL_law_1333 : decode cL_law 1333 = .ok (.iadd, 1) := by decide +kernel
theorem dL_law_1334 : decode cL_law 1334 = .ok (.iaload, 1) := by decide +kernel
theorem dL_law_1335 : decode cL_law 1335 = .ok (.aload_n 0, 1) := by decide +kernel
theorem dL_law_1336 : decode cL_law 1336 = .ok (.iload_n 3, 1) := by decide +kernel
theorem dL_law_1337 : decode cL_law 1337 = .ok (.iconst 2, 1) := by decide +kernel
theorem dL_law_1338 : decode cL_law 1338 = .ok (.iadd, 1) := by decide +kernel
theorem dL_law_1339 : decode cL_law 1339 = .ok (.iaload, 1) := by decide +kernel
theorem dL_law_1340 : decode cL_law 1340 = .ok (.aload_n 0, 1) := by decide +kernel
theorem dL_law_1341 : decode cL_law 1341 = .ok (.iload_n 3, 1) := by decide +kernel
theorem dL_law_1342 : decode cL_law 1342 = .ok (.iconst 3, 1) := by decide +kernel
theorem dL_law_1343 : decode cL_law 1343 = .ok (.iadd, 1) := by decide +kernel
theorem dL_law_1344 : decode cL_law 1344 = .ok (.iaload, 1) := by decide +kernel
theorem dL_law_1345 : decode cL_law 1345 = .ok (.invokevirtual 186, 3) := by decide +kernel
theorem dL_law_1348 : decode cL_law 1348 = .ok (.if_icmp .eq 110, 3) := by decide +kernel
theorem dL_law_1351 : decode cL_law 1351 = .ok (.iconst 0, 1) := by decide +kernel
theorem dL_law_1352 : decode cL_law 1352 = .ok (.ireturn, 1) := by decide +kernel
theorem dL_law_1353 : decode cL_law 1353 = .ok (.aload_n 1, 1) := by decide +kernel
theorem dL_law_1354 : decode cL_law 1354 = .ok (.aload_n 0, 1) := by decide +kernel
theorem dL_law_1355 : decode cL_law 1355 = .ok (.iload_n 3, 1) := by decide +kernel
theorem dL_law_1356 : decode cL_law 1356 = .ok (.iconst 1, 1) := by decide +kernel
theorem dL_law_1357 : decode cL_law 1357 = .ok (.iadd, 1) := by decide +kernel
theorem dL_law_1358 : decode cL_law 1358 = .ok (.iaload, 1) := by decide +kernel
theorem dL_law_1359 : decode cL_law 1359 = .ok (.aload_n 0, 1) := by decide +kernel
theorem dL_law_1360 : decode cL_law 1360 = .ok (.iload_n 3, 1) := by decide +kernel
theorem dL_law_1361 : decode cL_law 1361 = .ok (.iconst 2, 1) := by decide +kernel
theorem dL_law_1362 : decode cL_law 1362 = .ok (.iadd, 1) := by decide +kernel
theorem dL_law_1363 : decode cL_law 1363 = .ok (.iaload, 1) := by decide +kernel
theorem dL_law_1364 : decode cL_law 1364 = .ok (.invokevirtual 187, 3) := by decide +kernel
theorem dL_law_1367 : decode cL_law 1367 = .ok (.aload_n 2, 1) := by decide +kernel
theorem dL_law_1368 : decode cL_law 1368 = .ok (.aload_n 0, 1) := by decide +kernel
theorem dL_law_1369 : decode cL_law 1369 = .ok (.iload_n 3, 1) := by decide +kernel
theorem dL_law_1370 : decode cL_law 1370 = .ok (.iconst 1, 1) := by decide +kernel
theorem dL_law_1371 : decode cL_law 1371 = .ok (.iadd, 1) := by decide +kernel
theorem dL_law_1372 : decode cL_law 1372 = .ok (.iaload, 1) := by decide +kernel
theorem dL_law_1373 : decode cL_law 1373 = .ok (.aload_n 0, 1) := by decide +kernel
theorem dL_law_1374 : decode cL_law 1374 = .ok (.iload_n 3, 1) := by decide +kernel
theorem dL_law_1375 : decode cL_law 1375 = .ok (.iconst 2, 1) := by decide +kernel
theorem dL_law_1376 : decode cL_law 1376 = .ok (.iadd, 1) := by decide +kernel
theorem dL_law_1377 : decode cL_law 1377 = .ok (.iaload, 1) := by decide +kernel
theorem dL_law_1378 : decode cL_law 1378 = .ok (.invokevirtual 190, 3) := by decide +kernel
theorem dL_law_1381 : decode cL_law 1381 = .ok (.if_icmp .eq 77, 3) := by decide +kernel
theorem dL_law_1384 : decode cL_law 1384 = .ok (.iconst 0, 1) := by decide +kernel
theorem dL_law_1385 : decode cL_law 1385 = .ok (.ireturn, 1) := by decide +kernel
theorem dL_law_1386 : decode cL_law 1386 = .ok (.aload_n 1, 1) := by decide +kernel
theorem dL_law_1387 : decode cL_law 1387 = .ok (.aload_n 0, 1) := by decide +kernel
theorem dL_law_1388 : decode cL_law 1388 = .ok (.iload_n 3, 1) := by decide +kernel
theorem dL_law_1389 : decode cL_law 1389 = .ok (.iconst 1, 1) := by decide +kernel
theorem dL_law_1390 : decode cL_law 1390 = .ok (.iadd, 1) := by decide +kernel
theorem dL_law_1391 : decode cL_law 1391 = .ok (.iaload, 1) := by decide +kernel
theorem dL_law_1392 : decode cL_law 1392 = .ok (.invokevirtual 191, 3) := by decide +kernel
theorem dL_law_1395 : decode cL_law 1395 = .ok (.aload_n 2, 1) := by decide +kernel
theorem dL_law_1396 : decode cL_law 1396 = .ok (.aload_n 0, 1) := by decide +kernel
theorem dL_law_1397 : decode cL_law 1397 = .ok (.iload_n 3, 1) := by decide +kernel
theorem dL_law_1398 : decode cL_law 1398 = .ok (.iconst 1, 1) := by decide +kernel
theorem dL_law_1399 : decode cL_law 1399 = .ok (.iadd, 1) := by decide +kernel
theorem dL_law_1400 : decode cL_law 1400 = .ok (.iaload, 1) := by decide +kernel
theorem dL_law_1401 : decode cL_law 1401 = .ok (.invokevirtual 194, 3) := by decide +kernel
theorem dL_law_1404 : decode cL_law 1404 = .ok (.if_icmp .eq 54, 3) := by decide +kernel
theorem dL_law_1407 : decode cL_law 1407 = .ok (.iconst 0, 1) := by decide +kernel
theorem dL_law_1408 : decode cL_law 1408 = .ok (.ireturn, 1) := by decide +kernel
theorem dL_law_1409 : decode cL_law 1409 = .ok (.aload_n 1, 1) := by decide +kernel
theorem dL_law_1410 : decode cL_law 1410 = .ok (.invokevirtual 195, 3) := by decide +kernel
theorem dL_law_1413 : decode cL_law 1413 = .ok (.aload_n 2, 1) := by decide +kernel
theorem dL_law_1414 : decode cL_law 1414 = .ok (.invokevirtual 198, 3) := by decide +kernel
theorem dL_law_1417 : decode cL_law 1417 = .ok (.if_icmp .eq 41, 3) := by decide +kernel
theorem dL_law_1420 : decode cL_law 1420 = .ok (.iconst 0, 1) := by decide +kernel
theorem dL_law_1421 : decode cL_law 1421 = .ok (.ireturn, 1) := by decide +kernel
theorem dL_law_1422 : decode cL_law 1422 = .ok (.aload_n 1, 1) := by decide +kernel
theorem dL_law_1423 : decode cL_law 1423 = .ok (.invokevirtual 199, 3) := by decide +kernel
theorem dL_law_1426 : decode cL_law 1426 = .ok (.aload_n 2, 1) := by decide +kernel
theorem dL_law_1427 : decode cL_law 1427 = .ok (.invokevirtual 202, 3) := by decide +kernel
theorem dL_law_1430 : decode cL_law 1430 = .ok (.if_icmp .eq 28, 3) := by decide +kernel
theorem dL_law_1433 : decode cL_law 1433 = .ok (.iconst 0, 1) := by decide +kernel
theorem dL_law_1434 : decode cL_law 1434 = .ok (.ireturn, 1) := by decide +kernel
theorem dL_law_1435 : decode cL_law 1435 = .ok (.aload_n 1, 1) := by decide +kernel
theorem dL_law_1436 : decode cL_law 1436 = .ok (.aload_n 0, 1) := by decide +kernel
theorem dL_law_1437 : decode cL_law 1437 = .ok (.iload_n 3, 1) := by decide +kernel
theorem dL_law_1438 : decode cL_law 1438 = .ok (.iconst 1, 1) := by decide +kernel
theorem dL_law_1439 : decode cL_law 1439 = .ok (.iadd, 1) := by decide +kernel
theorem dL_law_1440 : decode cL_law 1440 = .ok (.iaload, 1) := by decide +kernel
theorem dL_law_1441 : decode cL_law 1441 = .ok (.invokevirtual 203, 3) := by decide +kernel
theorem dL_law_1444 : decode cL_law 1444 = .ok (.aload_n 2, 1) := by decide +kernel
theorem dL_law_1445 : decode cL_law 1445 = .ok (.aload_n 0, 1) := by decide +kernel
theorem dL_law_1446 : decode cL_law 1446 = .ok (.iload_n 3, 1) := by decide +kernel
theorem dL_law_1447 : decode cL_law 1447 = .ok (.iconst 1, 1) := by decide +kernel
theorem dL_law_1448 : decode cL_law 1448 = .ok (.iadd, 1) := by decide +kernel
theorem dL_law_1449 : decode cL_law 1449 = .ok (.iaload, 1) := by decide +kernel
theorem dL_law_1450 : decode cL_law 1450 = .ok (.invokevirtual 206, 3) := by decide +kernel
theorem dL_law_1453 : decode cL_law 1453 = .ok (.if_icmp .eq 5, 3) := by decide +kernel
theorem dL_law_1456 : decode cL_law 1456 = .ok (.iconst 0, 1) := by decide +kernel
theorem dL_law_1457 : decode cL_law 1457 = .ok (.ireturn, 1) := by decide +kernel
theorem dL_law_1458 : decode cL_law 1458 = .ok (.iinc 3 5, 3) := by decide +kernel
theorem dL_law_1461 : decode cL_law 1461 = .ok (.goto (-1443), 3) := by decide +kernel
theorem dL_law_1464 : decode cL_law 1464 = .ok (.iconst 1, 1) := by decide +kernel
theorem dL_law_1465 : decode cL_law 1465 = .ok (.ireturn, 1) := by decide +kernel
