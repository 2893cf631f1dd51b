theorem dX2_init_0 : decode cX2_init 0 = .ok (.aload_n 0, 1) := by decide +kernel
theorem dX2_init_1 : decode cX2_init 1 = .ok (.invokespecial 3, 3) := by decide +kernel
theorem dX2_init_4 : decode cX2_init 4 = .ok (.aload_n 0, 1) := by decide +kernel
theorem dX2_init_5 : decode cX2_init 5 = .ok (.bipush 6, 2) := by decide +kernel
theorem dX2_init_7 : decode cX2_init 7 = .ok (.newarray .int, 2) := by decide +kernel
theorem dX2_init_9 : decode cX2_init 9 = .ok (.putfield 9, 3) := by decide +kernel
theorem dX2_init_12 : decode cX2_init 12 = .ok (.aload_n 0, 1) := by decide +kernel
theorem dX2_init_13 : decode cX2_init 13 = .ok (.bipush 36, 2) := by decide +kernel
theorem dX2_init_15 : decode cX2_init 15 = .ok (.newarray .int, 2) := by decide +kernel
theorem dX2_init_17 : decode cX2_init 17 = .ok (.putfield 15, 3) := by decide +kernel
theorem dX2_init_20 : decode cX2_init 20 = .ok (.aload_n 0, 1) := by decide +kernel
theorem dX2_init_21 : decode cX2_init 21 = .ok (.bipush 6, 2) := by decide +kernel
theorem dX2_init_23 : decode cX2_init 23 = .ok (.newarray .int, 2) := by decide +kernel
theorem dX2_init_25 : decode cX2_init 25 = .ok (.putfield 18, 3) := by decide +kernel
theorem dX2_init_28 : decode cX2_init 28 = .ok (.aload_n 0, 1) := by decide +kernel
theorem dX2_init_29 : decode cX2_init 29 = .ok (.bipush 7, 2) := by decide +kernel
theorem dX2_init_31 : decode cX2_init 31 = .ok (.newarray .int, 2) := by decide +kernel
theorem dX2_init_33 : decode cX2_init 33 = .ok (.putfield 21, 3) := by decide +kernel
theorem dX2_init_36 : decode cX2_init 36 = .ok (.aload_n 0, 1) := by decide +kernel
theorem dX2_init_37 : decode cX2_init 37 = .ok (.bipush 7, 2) := by decide +kernel
theorem dX2_init_39 : decode cX2_init 39 = .ok (.newarray .int, 2) := by decide +kernel
theorem dX2_init_41 : decode cX2_init 41 = .ok (.putfield 24, 3) := by decide +kernel
theorem dX2_init_44 : decode cX2_init 44 = .ok (.aload_n 0, 1) := by decide +kernel
theorem dX2_init_45 : decode cX2_init 45 = .ok (.bipush 6, 2) := by decide +kernel
theorem dX2_init_47 : decode cX2_init 47 = .ok (.newarray .int, 2) := by decide +kernel
theorem dX2_init_49 : decode cX2_init 49 = .ok (.putfield 27, 3) := by decide +kernel
theorem dX2_init_52 : decode cX2_init 52 = .ok (.aload_n 0, 1) := by decide +kernel
theorem dX2_init_53 : decode cX2_init 53 = .ok (.bipush 6, 2) := by decide +kernel
theorem dX2_init_55 : decode cX2_init 55 = .ok (.newarray .int, 2) := by decide +kernel
theorem dX2_init_57 : decode cX2_init 57 = .ok (.putfield 30, 3) := by decide +kernel
theorem dX2_init_60 : decode cX2_init 60 = .ok (.return_, 1) := by decide +kernel
theorem dX2_clear_0 : decode cX2_clear 0 = .ok (.aload_n 0, 1) := by decide +kernel
theorem dX2_clear_1 : decode cX2_clear 1 = .ok (.iconst 0, 1) := by decide +kernel
theorem dX2_clear_2 : decode cX2_clear 2 = .ok (.iload_n 1, 1) := by decide +kernel
theorem dX2_clear_3 : decode cX2_clear 3 = .ok (.bipush 6, 2) := by decide +kernel
theorem dX2_clear_5 : decode cX2_clear 5 = .ok (.invokestatic 33, 3) := by decide +kernel
theorem dX2_clear_8 : decode cX2_clear 8 = .ok (.invokestatic 39, 3) := by decide +kernel
theorem dX2_clear_11 : decode cX2_clear 11 = .ok (.putfield 42, 3) := by decide +kernel
theorem dX2_clear_14 : decode cX2_clear 14 = .ok (.aload_n 0, 1) := by decide +kernel
theorem dX2_clear_15 : decode cX2_clear 15 = .ok (.iload_n 2, 1) := by decide +kernel
theorem dX2_clear_16 : decode cX2_clear 16 = .ok (.putfield 46, 3) := by decide +kernel
theorem dX2_clear_19 : decode cX2_clear 19 = .ok (.aload_n 0, 1) := by decide +kernel
theorem dX2_clear_20 : decode cX2_clear 20 = .ok (.iconst 0, 1) := by decide +kernel
theorem dX2_clear_21 : decode cX2_clear 21 = .ok (.putfield 49, 3) := by decide +kernel
theorem dX2_clear_24 : decode cX2_clear 24 = .ok (.aload_n 0, 1) := by decide +kernel
theorem dX2_clear_25 : decode cX2_clear 25 = .ok (.iconst 0, 1) := by decide +kernel
theorem dX2_clear_26 : decode cX2_clear 26 = .ok (.putfield 53, 3) := by decide +kernel
theorem dX2_clear_29 : decode cX2_clear 29 = .ok (.aload_n 0, 1) := by decide +kernel
theorem dX2_clear_30 : decode cX2_clear 30 = .ok (.iconst 0, 1) := by decide +kernel
theorem dX2_clear_31 : decode cX2_clear 31 = .ok (.putfield 56, 3) := by decide +kernel
theorem dX2_clear_34 : decode cX2_clear 34 = .ok (.return_, 1) := by decide +kernel
theorem dX2_setWhole_0 : decode cX2_setWhole 0 = .ok (.iload_n 1, 1) := by decide +kernel
theorem dX2_setWhole_1 : decode cX2_setWhole 1 = .ok (.ifCond .lt 23, 3) := by decide +kernel
theorem dX2_setWhole_4 : decode cX2_setWhole 4 = .ok (.iload_n 1, 1) := by decide +kernel
theorem dX2_setWhole_5 : decode cX2_setWhole 5 = .ok (.bipush 6, 2) := by decide +kernel
theorem dX2_setWhole_7 : decode cX2_setWhole 7 = .ok (.if_icmp .ge 17, 3) := by decide +kernel
theorem dX2_setWhole_10 : decode cX2_setWhole 10 = .ok (.aload_n 0, 1) := by decide +kernel
theorem dX2_setWhole_11 : decode cX2_setWhole 11 = .ok (.getfield 9, 3) := by decide +kernel
theorem dX2_setWhole_14 : decode cX2_setWhole 14 = .ok (.iload_n 1, 1) := by decide +kernel
theorem dX2_setWhole_15 : decode cX2_setWhole 15 = .ok (.iload_n 2, 1) := by decide +kernel
theorem dX2_setWhole_16 : decode cX2_setWhole 16 = .ok (.iastore, 1) := by decide +kernel
theorem dX2_setWhole_17 : decode cX2_setWhole 17 = .ok (.aload_n 0, 1) := by decide +kernel
theorem dX2_setWhole_18 : decode cX2_setWhole 18 = .ok (.getfield 18, 3) := by decide +kernel
theorem dX2_setWhole_21 : decode cX2_setWhole 21 = .ok (.iload_n 1, 1) := by decide +kernel
theorem dX2_setWhole_22 : decode cX2_setWhole 22 = .ok (.iload_n 3, 1) := by decide +kernel
theorem dX2_setWhole_23 : decode cX2_setWhole 23 = .ok (.iastore, 1) := by decide +kernel
theorem dX2_setWhole_24 : decode cX2_setWhole 24 = .ok (.return_, 1) := by decide +kernel
theorem dX2_setPatch_0 : decode cX2_setPatch 0 = .ok (.iload_n 1, 1) := by decide +kernel
theorem dX2_setPatch_1 : decode cX2_setPatch 1 = .ok (.ifCond .lt 31, 3) := by decide +kernel
theorem dX2_setPatch_4 : decode cX2_setPatch 4 = .ok (.iload_n 1, 1) := by decide +kernel
theorem dX2_setPatch_5 : decode cX2_setPatch 5 = .ok (.bipush 6, 2) := by decide +kernel
theorem dX2_setPatch_7 : decode cX2_setPatch 7 = .ok (.if_icmp .ge 25, 3) := by decide +kernel
theorem dX2_setPatch_10 : decode cX2_setPatch 10 = .ok (.iload_n 2, 1) := by decide +kernel
theorem dX2_setPatch_11 : decode cX2_setPatch 11 = .ok (.ifCond .lt 21, 3) := by decide +kernel
theorem dX2_setPatch_14 : decode cX2_setPatch 14 = .ok (.iload_n 2, 1) := by decide +kernel
theorem dX2_setPatch_15 : decode cX2_setPatch 15 = .ok (.bipush 6, 2) := by decide +kernel
theorem dX2_setPatch_17 : decode cX2_setPatch 17 = .ok (.if_icmp .ge 15, 3) := by decide +kernel
theorem dX2_setPatch_20 : decode cX2_setPatch 20 = .ok (.aload_n 0, 1) := by decide +kernel
theorem dX2_setPatch_21 : decode cX2_setPatch 21 = .ok (.getfield 15, 3) := by decide +kernel
theorem dX2_setPatch_24 : decode cX2_setPatch 24 = .ok (.iload_n 2, 1) := by decide +kernel
theorem dX2_setPatch_25 : decode cX2_setPatch 25 = .ok (.bipush 6, 2) := by decide +kernel
theorem dX2_setPatch_27 : decode cX2_setPatch 27 = .ok (.imul, 1) := by decide +kernel
theorem dX2_setPatch_28 : decode cX2_setPatch 28 = .ok (.iload_n 1, 1) := by decide +kernel
theorem dX2_setPatch_29 : decode cX2_setPatch 29 = .ok (.iadd, 1) := by decide +kernel
theorem dX2_setPatch_30 : decode cX2_setPatch 30 = .ok (.iload_n 3, 1) := by decide +kernel
theorem dX2_setPatch_31 : decode cX2_setPatch 31 = .ok (.iastore, 1) := by decide +kernel
theorem dX2_setPatch_32 : decode cX2_setPatch 32 = .ok (.return_, 1) := by decide +kernel
theorem dX2_find_0 : decode cX2_find 0 = .ok (.iconst 0, 1) := by decide +kernel
theorem dX2_find_1 : decode cX2_find 1 = .ok (.istore_n 1, 1) := by decide +kernel
theorem dX2_find_2 : decode cX2_find 2 = .ok (.iload_n 1, 1) := by decide +kernel
theorem dX2_find_3 : decode cX2_find 3 = .ok (.aload_n 0, 1) := by decide +kernel
theorem dX2_find_4 : decode cX2_find 4 = .ok (.getfield 42, 3) := by decide +kernel
theorem dX2_find_7 : decode cX2_find 7 = .ok (.if_icmp .ge 23, 3) := by decide +kernel
theorem dX2_find_10 : decode cX2_find 10 = .ok (.aload_n 0, 1) := by decide +kernel
theorem dX2_find_11 : decode cX2_find 11 = .ok (.getfield 9, 3) := by decide +kernel
theorem dX2_find_14 : decode cX2_find 14 = .ok (.iload_n 1, 1) := by decide +kernel
theorem dX2_find_15 : decode cX2_find 15 = .ok (.iaload, 1) := by decide +kernel
theorem dX2_find_16 : decode cX2_find 16 = .ok (.aload_n 0, 1) := by decide +kernel
theorem dX2_find_17 : decode cX2_find 17 = .ok (.getfield 46, 3) := by decide +kernel
theorem dX2_find_20 : decode cX2_find 20 = .ok (.if_icmp .le 4, 3) := by decide +kernel
theorem dX2_find_23 : decode cX2_find 23 = .ok (.return_, 1) := by decide +kernel
theorem dX2_find_24 : decode cX2_find 24 = .ok (.iinc 1 1, 3) := by decide +kernel
theorem dX2_find_27 : decode cX2_find 27 = .ok (.goto (-25), 3) := by decide +kernel
theorem dX2_find_30 : decode cX2_find 30 = .ok (.aload_n 0, 1) := by decide +kernel
theorem dX2_find_31 : decode cX2_find 31 = .ok (.invokevirtual 59, 3) := by decide +kernel
theorem dX2_find_34 : decode cX2_find 34 = .ok (.aload_n 0, 1) := by decide +kernel
theorem dX2_find_35 : decode cX2_find 35 = .ok (.iconst 0, 1) := by decide +kernel
theorem dX2_find_36 : decode cX2_find 36 = .ok (.iconst 0, 1) := by decide +kernel
theorem dX2_find_37 : decode cX2_find 37 = .ok (.iconst 0, 1) := by decide +kernel
theorem dX2_find_38 : decode cX2_find 38 = .ok (.invokevirtual 62, 3) := by decide +kernel
theorem dX2_find_41 : decode cX2_find 41 = .ok (.return_, 1) := by decide +kernel
theorem dX2_roomOrNone_0 : decode cX2_roomOrNone 0 = .ok (.aload_n 0, 1) := by decide +kernel
theorem dX2_roomOrNone_1 : decode cX2_roomOrNone 1 = .ok (.getfield 49, 3) := by decide +kernel
theorem dX2_roomOrNone_4 : decode cX2_roomOrNone 4 = .ok (.ifCond .eq 10, 3) := by decide +kernel
theorem dX2_roomOrNone_7 : decode cX2_roomOrNone 7 = .ok (.aload_n 0, 1) := by decide +kernel
theorem dX2_roomOrNone_8 : decode cX2_roomOrNone 8 = .ok (.getfield 53, 3) := by decide +kernel
theorem dX2_roomOrNone_11 : decode cX2_roomOrNone 11 = .ok (.goto 4, 3) := by decide +kernel
theorem dX2_roomOrNone_14 : decode cX2_roomOrNone 14 = .ok (.iconst (-1), 1) := by decide +kernel
theorem dX2_roomOrNone_15 : decode cX2_roomOrNone 15 = .ok (.ireturn, 1) := by decide +kernel
theorem dX2_sumOrNone_0 : decode cX2_sumOrNone 0 = .ok (.aload_n 0, 1) := by decide +kernel
theorem dX2_sumOrNone_1 : decode cX2_sumOrNone 1 = .ok (.getfield 49, 3) := by decide +kernel
theorem dX2_sumOrNone_4 : decode cX2_sumOrNone 4 = .ok (.ifCond .eq 10, 3) := by decide +kernel
theorem dX2_sumOrNone_7 : decode cX2_sumOrNone 7 = .ok (.aload_n 0, 1) := by decide +kernel
theorem dX2_sumOrNone_8 : decode cX2_sumOrNone 8 = .ok (.getfield 56, 3) := by decide +kernel
theorem dX2_sumOrNone_11 : decode cX2_sumOrNone 11 = .ok (.goto 4, 3) := by decide +kernel
theorem dX2_sumOrNone_14 : decode cX2_sumOrNone 14 = .ok (.iconst (-1), 1) := by decide +kernel
theorem dX2_sumOrNone_15 : decode cX2_sumOrNone 15 = .ok (.ireturn, 1) := by decide +kernel
theorem dX2_sourceOf_0 : decode cX2_sourceOf 0 = .ok (.aload_n 0, 1) := by decide +kernel
theorem dX2_sourceOf_1 : decode cX2_sourceOf 1 = .ok (.getfield 49, 3) := by decide +kernel
theorem dX2_sourceOf_4 : decode cX2_sourceOf 4 = .ok (.ifCond .eq 24, 3) := by decide +kernel
theorem dX2_sourceOf_7 : decode cX2_sourceOf 7 = .ok (.iload_n 1, 1) := by decide +kernel
theorem dX2_sourceOf_8 : decode cX2_sourceOf 8 = .ok (.ifCond .lt 20, 3) := by decide +kernel
theorem dX2_sourceOf_11 : decode cX2_sourceOf 11 = .ok (.iload_n 1, 1) := by decide +kernel
theorem dX2_sourceOf_12 : decode cX2_sourceOf 12 = .ok (.aload_n 0, 1) := by decide +kernel
theorem dX2_sourceOf_13 : decode cX2_sourceOf 13 = .ok (.getfield 42, 3) := by decide +kernel
theorem dX2_sourceOf_16 : decode cX2_sourceOf 16 = .ok (.if_icmp .ge 12, 3) := by decide +kernel
theorem dX2_sourceOf_19 : decode cX2_sourceOf 19 = .ok (.aload_n 0, 1) := by decide +kernel
theorem dX2_sourceOf_20 : decode cX2_sourceOf 20 = .ok (.getfield 30, 3) := by decide +kernel
theorem dX2_sourceOf_23 : decode cX2_sourceOf 23 = .ok (.iload_n 1, 1) := by decide +kernel
theorem dX2_sourceOf_24 : decode cX2_sourceOf 24 = .ok (.iaload, 1) := by decide +kernel
theorem dX2_sourceOf_25 : decode cX2_sourceOf 25 = .ok (.goto 5, 3) := by decide +kernel
theorem dX2_sourceOf_28 : decode cX2_sourceOf 28 = .ok (.bipush (-2), 2) := by decide +kernel
theorem dX2_sourceOf_30 : decode cX2_sourceOf 30 = .ok (.ireturn, 1) := by decide +kernel
theorem dX2_remadeFor_0 : decode cX2_remadeFor 0 = .ok (.aload_n 0, 1) := by decide +kernel
theorem dX2_remadeFor_1 : decode cX2_remadeFor 1 = .ok (.getfield 49, 3) := by decide +kernel
theorem dX2_remadeFor_4 : decode cX2_remadeFor 4 = .ok (.ifCond .eq 27, 3) := by decide +kernel
theorem dX2_remadeFor_7 : decode cX2_remadeFor 7 = .ok (.iload_n 1, 1) := by decide +kernel
theorem dX2_remadeFor_8 : decode cX2_remadeFor 8 = .ok (.ifCond .lt 23, 3) := by decide +kernel
theorem dX2_remadeFor_11 : decode cX2_remadeFor 11 = .ok (.iload_n 1, 1) := by decide +kernel
theorem dX2_remadeFor_12 : decode cX2_remadeFor 12 = .ok (.aload_n 0, 1) := by decide +kernel
theorem dX2_remadeFor_13 : decode cX2_remadeFor 13 = .ok (.getfield 42, 3) := by decide +kernel
theorem dX2_remadeFor_16 : decode cX2_remadeFor 16 = .ok (.if_icmp .ge 15, 3) := by decide +kernel
theorem dX2_remadeFor_19 : decode cX2_remadeFor 19 = .ok (.aload_n 0, 1) := by decide +kernel
theorem dX2_remadeFor_20 : decode cX2_remadeFor 20 = .ok (.aload_n 0, 1) := by decide +kernel
theorem dX2_remadeFor_21 : decode cX2_remadeFor 21 = .ok (.getfield 30, 3) := by decide +kernel
theorem dX2_remadeFor_24 : decode cX2_remadeFor 24 = .ok (.iload_n 1, 1) := by decide +kernel
theorem dX2_remadeFor_25 : decode cX2_remadeFor 25 = .ok (.invokevirtual 66, 3) := by decide +kernel
theorem dX2_remadeFor_28 : decode cX2_remadeFor 28 = .ok (.goto 5, 3) := by decide +kernel
theorem dX2_remadeFor_31 : decode cX2_remadeFor 31 = .ok (.bipush (-2), 2) := by decide +kernel
theorem dX2_remadeFor_33 : decode cX2_remadeFor 33 = .ok (.ireturn, 1) := by decide +kernel
theorem dX2_lostWith_0 : decode cX2_lostWith 0 = .ok (.iconst 0, 1) := by decide +kernel
theorem dX2_lostWith_1 : decode cX2_lostWith 1 = .ok (.istore_n 2, 1) := by decide +kernel
theorem dX2_lostWith_2 : decode cX2_lostWith 2 = .ok (.iconst 0, 1) := by decide +kernel
theorem dX2_lostWith_3 : decode cX2_lostWith 3 = .ok (.istore_n 3, 1) := by decide +kernel
theorem dX2_lostWith_4 : decode cX2_lostWith 4 = .ok (.iload_n 3, 1) := by decide +kernel
theorem dX2_lostWith_5 : decode cX2_lostWith 5 = .ok (.aload_n 0, 1) := by decide +kernel
theorem dX2_lostWith_6 : decode cX2_lostWith 6 = .ok (.getfield 42, 3) := by decide +kernel
theorem dX2_lostWith_9 : decode cX2_lostWith 9 = .ok (.if_icmp .ge 31, 3) := by decide +kernel
theorem dX2_lostWith_12 : decode cX2_lostWith 12 = .ok (.iload_n 2, 1) := by decide +kernel
theorem dX2_lostWith_13 : decode cX2_lostWith 13 = .ok (.aload_n 0, 1) := by decide +kernel
theorem dX2_lostWith_14 : decode cX2_lostWith 14 = .ok (.iload_n 3, 1) := by decide +kernel
theorem dX2_lostWith_15 : decode cX2_lostWith 15 = .ok (.iload_n 1, 1) := by decide +kernel
theorem dX2_lostWith_16 : decode cX2_lostWith 16 = .ok (.invokevirtual 70, 3) := by decide +kernel
theorem dX2_lostWith_19 : decode cX2_lostWith 19 = .ok (.ifCond .eq 12, 3) := by decide +kernel
theorem dX2_lostWith_22 : decode cX2_lostWith 22 = .ok (.aload_n 0, 1) := by decide +kernel
theorem dX2_lostWith_23 : decode cX2_lostWith 23 = .ok (.getfield 18, 3) := by decide +kernel
theorem dX2_lostWith_26 : decode cX2_lostWith 26 = .ok (.iload_n 3, 1) := by decide +kernel
theorem dX2_lostWith_27 : decode cX2_lostWith 27 = .ok (.iaload, 1) := by decide +kernel
theorem dX2_lostWith_28 : decode cX2_lostWith 28 = .ok (.goto 4, 3) := by decide +kernel
theorem dX2_lostWith_31 : decode cX2_lostWith 31 = .ok (.iconst 0, 1) := by decide +kernel
theorem dX2_lostWith_32 : decode cX2_lostWith 32 = .ok (.iadd, 1) := by decide +kernel
theorem dX2_lostWith_33 : decode cX2_lostWith 33 = .ok (.istore_n 2, 1) := by decide +kernel
theorem dX2_lostWith_34 : decode cX2_lostWith 34 = .ok (.iinc 3 1, 3) := by decide +kernel
theorem dX2_lostWith_37 : decode cX2_lostWith 37 = .ok (.goto (-33), 3) := by decide +kernel
theorem dX2_lostWith_40 : decode cX2_lostWith 40 = .ok (.iload_n 2, 1) := by decide +kernel
theorem dX2_lostWith_41 : decode cX2_lostWith 41 = .ok (.ireturn, 1) := by decide +kernel
theorem dX2_worstPiece_0 : decode cX2_worstPiece 0 = .ok (.iconst (-1), 1) := by decide +kernel
theorem dX2_worstPiece_1 : decode cX2_worstPiece 1 = .ok (.istore_n 2, 1) := by decide +kernel
theorem dX2_worstPiece_2 : decode cX2_worstPiece 2 = .ok (.iconst 0, 1) := by decide +kernel
theorem dX2_worstPiece_3 : decode cX2_worstPiece 3 = .ok (.istore_n 3, 1) := by decide +kernel
theorem dX2_worstPiece_4 : decode cX2_worstPiece 4 = .ok (.aload_n 0, 1) := by decide +kernel
theorem dX2_worstPiece_5 : decode cX2_worstPiece 5 = .ok (.getfield 49, 3) := by decide +kernel
theorem dX2_worstPiece_8 : decode cX2_worstPiece 8 = .ok (.ifCond .eq 42, 3) := by decide +kernel
theorem dX2_worstPiece_11 : decode cX2_worstPiece 11 = .ok (.iload_n 3, 1) := by decide +kernel
theorem dX2_worstPiece_12 : decode cX2_worstPiece 12 = .ok (.aload_n 0, 1) := by decide +kernel
theorem dX2_worstPiece_13 : decode cX2_worstPiece 13 = .ok (.getfield 42, 3) := by decide +kernel
theorem dX2_worstPiece_16 : decode cX2_worstPiece 16 = .ok (.if_icmp .ge 34, 3) := by decide +kernel
theorem dX2_worstPiece_19 : decode cX2_worstPiece 19 = .ok (.iload_n 3, 1) := by decide +kernel
theorem dX2_worstPiece_20 : decode cX2_worstPiece 20 = .ok (.iload_n 1, 1) := by decide +kernel
theorem dX2_worstPiece_21 : decode cX2_worstPiece 21 = .ok (.if_icmp .eq 23, 3) := by decide +kernel
theorem dX2_worstPiece_24 : decode cX2_worstPiece 24 = .ok (.iload_n 2, 1) := by decide +kernel
theorem dX2_worstPiece_25 : decode cX2_worstPiece 25 = .ok (.iconst (-1), 1) := by decide +kernel
theorem dX2_worstPiece_26 : decode cX2_worstPiece 26 = .ok (.if_icmp .eq 16, 3) := by decide +kernel
theorem dX2_worstPiece_29 : decode cX2_worstPiece 29 = .ok (.aload_n 0, 1) := by decide +kernel
theorem dX2_worstPiece_30 : decode cX2_worstPiece 30 = .ok (.iload_n 3, 1) := by decide +kernel
theorem dX2_worstPiece_31 : decode cX2_worstPiece 31 = .ok (.invokevirtual 74, 3) := by decide +kernel
theorem dX2_worstPiece_34 : decode cX2_worstPiece 34 = .ok (.aload_n 0, 1) := by decide +kernel
theorem dX2_worstPiece_35 : decode cX2_worstPiece 35 = .ok (.iload_n 2, 1) := by decide +kernel
theorem dX2_worstPiece_36 : decode cX2_worstPiece 36 = .ok (.invokevirtual 74, 3) := by decide +kernel
theorem dX2_worstPiece_39 : decode cX2_worstPiece 39 = .ok (.if_icmp .le 5, 3) := by decide +kernel
theorem dX2_worstPiece_42 : decode cX2_worstPiece 42 = .ok (.iload_n 3, 1) := by decide +kernel
theorem dX2_worstPiece_43 : decode cX2_worstPiece 43 = .ok (.istore_n 2, 1) := by decide +kernel
theorem dX2_worstPiece_44 : decode cX2_worstPiece 44 = .ok (.iinc 3 1, 3) := by decide +kernel
theorem dX2_worstPiece_47 : decode cX2_worstPiece 47 = .ok (.goto (-43), 3) := by decide +kernel
theorem dX2_worstPiece_50 : decode cX2_worstPiece 50 = .ok (.iload_n 2, 1) := by decide +kernel
theorem dX2_worstPiece_51 : decode cX2_worstPiece 51 = .ok (.ireturn, 1) := by decide +kernel
theorem dX2_worstLossBut_0 : decode cX2_worstLossBut 0 = .ok (.aload_n 0, 1) := by decide +kernel
theorem dX2_worstLossBut_1 : decode cX2_worstLossBut 1 = .ok (.iload_n 1, 1) := by decide +kernel
theorem dX2_worstLossBut_2 : decode cX2_worstLossBut 2 = .ok (.invokevirtual 78, 3) := by decide +kernel
theorem dX2_worstLossBut_5 : decode cX2_worstLossBut 5 = .ok (.istore_n 2, 1) := by decide +kernel
theorem dX2_worstLossBut_6 : decode cX2_worstLossBut 6 = .ok (.iload_n 2, 1) := by decide +kernel
theorem dX2_worstLossBut_7 : decode cX2_worstLossBut 7 = .ok (.iconst (-1), 1) := by decide +kernel
theorem dX2_worstLossBut_8 : decode cX2_worstLossBut 8 = .ok (.if_icmp .ne 7, 3) := by decide +kernel
theorem dX2_worstLossBut_11 : decode cX2_worstLossBut 11 = .ok (.iconst 0, 1) := by decide +kernel
theorem dX2_worstLossBut_12 : decode cX2_worstLossBut 12 = .ok (.goto 8, 3) := by decide +kernel
theorem dX2_worstLossBut_15 : decode cX2_worstLossBut 15 = .ok (.aload_n 0, 1) := by decide +kernel
theorem dX2_worstLossBut_16 : decode cX2_worstLossBut 16 = .ok (.iload_n 2, 1) := by decide +kernel
theorem dX2_worstLossBut_17 : decode cX2_worstLossBut 17 = .ok (.invokevirtual 74, 3) := by decide +kernel
theorem dX2_worstLossBut_20 : decode cX2_worstLossBut 20 = .ok (.ireturn, 1) := by decide +kernel
theorem dX2_bestCopy_0 : decode cX2_bestCopy 0 = .ok (.iconst (-1), 1) := by decide +kernel
theorem dX2_bestCopy_1 : decode cX2_bestCopy 1 = .ok (.istore_n 2, 1) := by decide +kernel
theorem dX2_bestCopy_2 : decode cX2_bestCopy 2 = .ok (.iconst 0, 1) := by decide +kernel
theorem dX2_bestCopy_3 : decode cX2_bestCopy 3 = .ok (.istore_n 3, 1) := by decide +kernel
theorem dX2_bestCopy_4 : decode cX2_bestCopy 4 = .ok (.aload_n 0, 1) := by decide +kernel
theorem dX2_bestCopy_5 : decode cX2_bestCopy 5 = .ok (.getfield 49, 3) := by decide +kernel
theorem dX2_bestCopy_8 : decode cX2_bestCopy 8 = .ok (.ifCond .eq 42, 3) := by decide +kernel
theorem dX2_bestCopy_11 : decode cX2_bestCopy 11 = .ok (.iload_n 3, 1) := by decide +kernel
theorem dX2_bestCopy_12 : decode cX2_bestCopy 12 = .ok (.aload_n 0, 1) := by decide +kernel
theorem dX2_bestCopy_13 : decode cX2_bestCopy 13 = .ok (.getfield 42, 3) := by decide +kernel
theorem dX2_bestCopy_16 : decode cX2_bestCopy 16 = .ok (.if_icmp .ge 34, 3) := by decide +kernel
theorem dX2_bestCopy_19 : decode cX2_bestCopy 19 = .ok (.aload_n 0, 1) := by decide +kernel
theorem dX2_bestCopy_20 : decode cX2_bestCopy 20 = .ok (.iload_n 3, 1) := by decide +kernel
theorem dX2_bestCopy_21 : decode cX2_bestCopy 21 = .ok (.invokevirtual 81, 3) := by decide +kernel
theorem dX2_bestCopy_24 : decode cX2_bestCopy 24 = .ok (.iload_n 1, 1) := by decide +kernel
theorem dX2_bestCopy_25 : decode cX2_bestCopy 25 = .ok (.if_icmp .gt 19, 3) := by decide +kernel
theorem dX2_bestCopy_28 : decode cX2_bestCopy 28 = .ok (.iload_n 2, 1) := by decide +kernel
theorem dX2_bestCopy_29 : decode cX2_bestCopy 29 = .ok (.iconst (-1), 1) := by decide +kernel
theorem dX2_bestCopy_30 : decode cX2_bestCopy 30 = .ok (.if_icmp .eq 12, 3) := by decide +kernel
theorem dX2_bestCopy_33 : decode cX2_bestCopy 33 = .ok (.aload_n 0, 1) := by decide +kernel
theorem dX2_bestCopy_34 : decode cX2_bestCopy 34 = .ok (.iload_n 3, 1) := by decide +kernel
theorem dX2_bestCopy_35 : decode cX2_bestCopy 35 = .ok (.iload_n 2, 1) := by decide +kernel
theorem dX2_bestCopy_36 : decode cX2_bestCopy 36 = .ok (.invokevirtual 84, 3) := by decide +kernel
theorem dX2_bestCopy_39 : decode cX2_bestCopy 39 = .ok (.ifCond .eq 5, 3) := by decide +kernel
theorem dX2_bestCopy_42 : decode cX2_bestCopy 42 = .ok (.iload_n 3, 1) := by decide +kernel
theorem dX2_bestCopy_43 : decode cX2_bestCopy 43 = .ok (.istore_n 2, 1) := by decide +kernel
theorem dX2_bestCopy_44 : decode cX2_bestCopy 44 = .ok (.iinc 3 1, 3) := by decide +kernel
theorem dX2_bestCopy_47 : decode cX2_bestCopy 47 = .ok (.goto (-43), 3) := by decide +kernel
theorem dX2_bestCopy_50 : decode cX2_bestCopy 50 = .ok (.iload_n 2, 1) := by decide +kernel
theorem dX2_bestCopy_51 : decode cX2_bestCopy 51 = .ok (.ireturn, 1) := by decide +kernel
theorem dX2_isBetterCopy_0 : decode cX2_isBetterCopy 0 = .ok (.aload_n 0, 1) := by decide +kernel
theorem dX2_isBetterCopy_1 : decode cX2_isBetterCopy 1 = .ok (.iload_n 1, 1) := by decide +kernel
theorem dX2_isBetterCopy_2 : decode cX2_isBetterCopy 2 = .ok (.invokevirtual 87, 3) := by decide +kernel
theorem dX2_isBetterCopy_5 : decode cX2_isBetterCopy 5 = .ok (.istore_n 3, 1) := by decide +kernel
theorem dX2_isBetterCopy_6 : decode cX2_isBetterCopy 6 = .ok (.aload_n 0, 1) := by decide +kernel
theorem dX2_isBetterCopy_7 : decode cX2_isBetterCopy 7 = .ok (.iload_n 2, 1) := by decide +kernel
theorem dX2_isBetterCopy_8 : decode cX2_isBetterCopy 8 = .ok (.invokevirtual 87, 3) := by decide +kernel
theorem dX2_isBetterCopy_11 : decode cX2_isBetterCopy 11 = .ok (.istore 4, 2) := by decide +kernel
theorem dX2_isBetterCopy_13 : decode cX2_isBetterCopy 13 = .ok (.iload_n 3, 1) := by decide +kernel
theorem dX2_isBetterCopy_14 : decode cX2_isBetterCopy 14 = .ok (.iload 4, 2) := by decide +kernel
theorem dX2_isBetterCopy_16 : decode cX2_isBetterCopy 16 = .ok (.if_icmp .lt 22, 3) := by decide +kernel
theorem dX2_isBetterCopy_19 : decode cX2_isBetterCopy 19 = .ok (.iload_n 3, 1) := by decide +kernel
theorem dX2_isBetterCopy_20 : decode cX2_isBetterCopy 20 = .ok (.iload 4, 2) := by decide +kernel
theorem dX2_isBetterCopy_22 : decode cX2_isBetterCopy 22 = .ok (.if_icmp .ne 20, 3) := by decide +kernel
theorem dX2_isBetterCopy_25 : decode cX2_isBetterCopy 25 = .ok (.aload_n 0, 1) := by decide +kernel
theorem dX2_isBetterCopy_26 : decode cX2_isBetterCopy 26 = .ok (.iload_n 1, 1) := by decide +kernel
theorem dX2_isBetterCopy_27 : decode cX2_isBetterCopy 27 = .ok (.invokevirtual 81, 3) := by decide +kernel
theorem dX2_isBetterCopy_30 : decode cX2_isBetterCopy 30 = .ok (.aload_n 0, 1) := by decide +kernel
theorem dX2_isBetterCopy_31 : decode cX2_isBetterCopy 31 = .ok (.iload_n 2, 1) := by decide +kernel
theorem dX2_isBetterCopy_32 : decode cX2_isBetterCopy 32 = .ok (.invokevirtual 81, 3) := by decide +kernel
theorem dX2_isBetterCopy_35 : decode cX2_isBetterCopy 35 = .ok (.if_icmp .ge 7, 3) := by decide +kernel
theorem dX2_isBetterCopy_38 : decode cX2_isBetterCopy 38 = .ok (.iconst 1, 1) := by decide +kernel
theorem dX2_isBetterCopy_39 : decode cX2_isBetterCopy 39 = .ok (.goto 4, 3) := by decide +kernel
theorem dX2_isBetterCopy_42 : decode cX2_isBetterCopy 42 = .ok (.iconst 0, 1) := by decide +kernel
theorem dX2_isBetterCopy_43 : decode cX2_isBetterCopy 43 = .ok (.ireturn, 1) := by decide +kernel
theorem dX2_bestPieceRoom_0 : decode cX2_bestPieceRoom 0 = .ok (.iload_n 1, 1) := by decide +kernel
theorem dX2_bestPieceRoom_1 : decode cX2_bestPieceRoom 1 = .ok (.ifCond .lt 23, 3) := by decide +kernel
theorem dX2_bestPieceRoom_4 : decode cX2_bestPieceRoom 4 = .ok (.iload_n 1, 1) := by decide +kernel
theorem dX2_bestPieceRoom_5 : decode cX2_bestPieceRoom 5 = .ok (.bipush 6, 2) := by decide +kernel
theorem dX2_bestPieceRoom_7 : decode cX2_bestPieceRoom 7 = .ok (.if_icmp .ge 17, 3) := by decide +kernel
theorem dX2_bestPieceRoom_10 : decode cX2_bestPieceRoom 10 = .ok (.aload_n 0, 1) := by decide +kernel
theorem dX2_bestPieceRoom_11 : decode cX2_bestPieceRoom 11 = .ok (.iload_n 1, 1) := by decide +kernel
theorem dX2_bestPieceRoom_12 : decode cX2_bestPieceRoom 12 = .ok (.aload_n 0, 1) := by decide +kernel
theorem dX2_bestPieceRoom_13 : decode cX2_bestPieceRoom 13 = .ok (.getfield 30, 3) := by decide +kernel
theorem dX2_bestPieceRoom_16 : decode cX2_bestPieceRoom 16 = .ok (.iload_n 1, 1) := by decide +kernel
theorem dX2_bestPieceRoom_17 : decode cX2_bestPieceRoom 17 = .ok (.iaload, 1) := by decide +kernel
theorem dX2_bestPieceRoom_18 : decode cX2_bestPieceRoom 18 = .ok (.invokevirtual 90, 3) := by decide +kernel
theorem dX2_bestPieceRoom_21 : decode cX2_bestPieceRoom 21 = .ok (.goto 4, 3) := by decide +kernel
theorem dX2_bestPieceRoom_24 : decode cX2_bestPieceRoom 24 = .ok (.iconst 0, 1) := by decide +kernel
theorem dX2_bestPieceRoom_25 : decode cX2_bestPieceRoom 25 = .ok (.ireturn, 1) := by decide +kernel
theorem dX2_isRemadeBy_0 : decode cX2_isRemadeBy 0 = .ok (.iload_n 1, 1) := by decide +kernel
theorem dX2_isRemadeBy_1 : decode cX2_isRemadeBy 1 = .ok (.istore_n 3, 1) := by decide +kernel
theorem dX2_isRemadeBy_2 : decode cX2_isRemadeBy 2 = .ok (.iconst 0, 1) := by decide +kernel
theorem dX2_isRemadeBy_3 : decode cX2_isRemadeBy 3 = .ok (.istore 4, 2) := by decide +kernel
theorem dX2_isRemadeBy_5 : decode cX2_isRemadeBy 5 = .ok (.iload 4, 2) := by decide +kernel
theorem dX2_isRemadeBy_7 : decode cX2_isRemadeBy 7 = .ok (.aload_n 0, 1) := by decide +kernel
theorem dX2_isRemadeBy_8 : decode cX2_isRemadeBy 8 = .ok (.getfield 42, 3) := by decide +kernel
theorem dX2_isRemadeBy_11 : decode cX2_isRemadeBy 11 = .ok (.if_icmp .ge 33, 3) := by decide +kernel
theorem dX2_isRemadeBy_14 : decode cX2_isRemadeBy 14 = .ok (.iload_n 3, 1) := by decide +kernel
theorem dX2_isRemadeBy_15 : decode cX2_isRemadeBy 15 = .ok (.ifCond .lt 29, 3) := by decide +kernel
theorem dX2_isRemadeBy_18 : decode cX2_isRemadeBy 18 = .ok (.iload_n 3, 1) := by decide +kernel
theorem dX2_isRemadeBy_19 : decode cX2_isRemadeBy 19 = .ok (.bipush 6, 2) := by decide +kernel
theorem dX2_isRemadeBy_21 : decode cX2_isRemadeBy 21 = .ok (.if_icmp .ge 23, 3) := by decide +kernel
theorem dX2_isRemadeBy_24 : decode cX2_isRemadeBy 24 = .ok (.iload_n 3, 1) := by decide +kernel
theorem dX2_isRemadeBy_25 : decode cX2_isRemadeBy 25 = .ok (.iload_n 2, 1) := by decide +kernel
theorem dX2_isRemadeBy_26 : decode cX2_isRemadeBy 26 = .ok (.if_icmp .ne 5, 3) := by decide +kernel
theorem dX2_isRemadeBy_29 : decode cX2_isRemadeBy 29 = .ok (.iconst 1, 1) := by decide +kernel
theorem dX2_isRemadeBy_30 : decode cX2_isRemadeBy 30 = .ok (.ireturn, 1) := by decide +kernel
theorem dX2_isRemadeBy_31 : decode cX2_isRemadeBy 31 = .ok (.aload_n 0, 1) := by decide +kernel
theorem dX2_isRemadeBy_32 : decode cX2_isRemadeBy 32 = .ok (.getfield 30, 3) := by decide +kernel
theorem dX2_isRemadeBy_35 : decode cX2_isRemadeBy 35 = .ok (.iload_n 3, 1) := by decide +kernel
theorem dX2_isRemadeBy_36 : decode cX2_isRemadeBy 36 = .ok (.iaload, 1) := by decide +kernel
theorem dX2_isRemadeBy_37 : decode cX2_isRemadeBy 37 = .ok (.istore_n 3, 1) := by decide +kernel
theorem dX2_isRemadeBy_38 : decode cX2_isRemadeBy 38 = .ok (.iinc 4 1, 3) := by decide +kernel
theorem dX2_isRemadeBy_41 : decode cX2_isRemadeBy 41 = .ok (.goto (-36), 3) := by decide +kernel
theorem dX2_isRemadeBy_44 : decode cX2_isRemadeBy 44 = .ok (.iconst 0, 1) := by decide +kernel
theorem dX2_isRemadeBy_45 : decode cX2_isRemadeBy 45 = .ok (.ireturn, 1) := by decide +kernel
theorem dX2_reckonLeastFrom_0 : decode cX2_reckonLeastFrom 0 = .ok (.aload_n 0, 1) := by decide +kernel
theorem dX2_reckonLeastFrom_1 : decode cX2_reckonLeastFrom 1 = .ok (.getfield 21, 3) := by decide +kernel
theorem dX2_reckonLeastFrom_4 : decode cX2_reckonLeastFrom 4 = .ok (.aload_n 0, 1) := by decide +kernel
theorem dX2_reckonLeastFrom_5 : decode cX2_reckonLeastFrom 5 = .ok (.getfield 42, 3) := by decide +kernel
theorem dX2_reckonLeastFrom_8 : decode cX2_reckonLeastFrom 8 = .ok (.iconst 0, 1) := by decide +kernel
theorem dX2_reckonLeastFrom_9 : decode cX2_reckonLeastFrom 9 = .ok (.iastore, 1) := by decide +kernel
theorem dX2_reckonLeastFrom_10 : decode cX2_reckonLeastFrom 10 = .ok (.aload_n 0, 1) := by decide +kernel
theorem dX2_reckonLeastFrom_11 : decode cX2_reckonLeastFrom 11 = .ok (.getfield 24, 3) := by decide +kernel
theorem dX2_reckonLeastFrom_14 : decode cX2_reckonLeastFrom 14 = .ok (.aload_n 0, 1) := by decide +kernel
theorem dX2_reckonLeastFrom_15 : decode cX2_reckonLeastFrom 15 = .ok (.getfield 42, 3) := by decide +kernel
theorem dX2_reckonLeastFrom_18 : decode cX2_reckonLeastFrom 18 = .ok (.iconst 0, 1) := by decide +kernel
theorem dX2_reckonLeastFrom_19 : decode cX2_reckonLeastFrom 19 = .ok (.iastore, 1) := by decide +kernel
theorem dX2_reckonLeastFrom_20 : decode cX2_reckonLeastFrom 20 = .ok (.aload_n 0, 1) := by decide +kernel
theorem dX2_reckonLeastFrom_21 : decode cX2_reckonLeastFrom 21 = .ok (.getfield 42, 3) := by decide +kernel
theorem dX2_reckonLeastFrom_24 : decode cX2_reckonLeastFrom 24 = .ok (.iconst 1, 1) := by decide +kernel
theorem dX2_reckonLeastFrom_25 : decode cX2_reckonLeastFrom 25 = .ok (.isub, 1) := by decide +kernel
theorem dX2_reckonLeastFrom_26 : decode cX2_reckonLeastFrom 26 = .ok (.istore_n 1, 1) := by decide +kernel
theorem dX2_reckonLeastFrom_27 : decode cX2_reckonLeastFrom 27 = .ok (.iload_n 1, 1) := by decide +kernel
theorem dX2_reckonLeastFrom_28 : decode cX2_reckonLeastFrom 28 = .ok (.ifCond .lt 96, 3) := by decide +kernel
theorem dX2_reckonLeastFrom_31 : decode cX2_reckonLeastFrom 31 = .ok (.aload_n 0, 1) := by decide +kernel
theorem dX2_reckonLeastFrom_32 : decode cX2_reckonLeastFrom 32 = .ok (.getfield 9, 3) := by decide +kernel
theorem dX2_reckonLeastFrom_35 : decode cX2_reckonLeastFrom 35 = .ok (.iload_n 1, 1) := by decide +kernel
theorem dX2_reckonLeastFrom_36 : decode cX2_reckonLeastFrom 36 = .ok (.iaload, 1) := by decide +kernel
theorem dX2_reckonLeastFrom_37 : decode cX2_reckonLeastFrom 37 = .ok (.istore_n 2, 1) := by decide +kernel
theorem dX2_reckonLeastFrom_38 : decode cX2_reckonLeastFrom 38 = .ok (.iconst 0, 1) := by decide +kernel
theorem dX2_reckonLeastFrom_39 : decode cX2_reckonLeastFrom 39 = .ok (.istore_n 3, 1) := by decide +kernel
theorem dX2_reckonLeastFrom_40 : decode cX2_reckonLeastFrom 40 = .ok (.iload_n 3, 1) := by decide +kernel
theorem dX2_reckonLeastFrom_41 : decode cX2_reckonLeastFrom 41 = .ok (.aload_n 0, 1) := by decide +kernel
theorem dX2_reckonLeastFrom_42 : decode cX2_reckonLeastFrom 42 = .ok (.getfield 42, 3) := by decide +kernel
theorem dX2_reckonLeastFrom_45 : decode cX2_reckonLeastFrom 45 = .ok (.if_icmp .ge 29, 3) := by decide +kernel
theorem dX2_reckonLeastFrom_48 : decode cX2_reckonLeastFrom 48 = .ok (.iload_n 3, 1) := by decide +kernel
theorem dX2_reckonLeastFrom_49 : decode cX2_reckonLeastFrom 49 = .ok (.iload_n 1, 1) := by decide +kernel
theorem dX2_reckonLeastFrom_50 : decode cX2_reckonLeastFrom 50 = .ok (.if_icmp .ne 7, 3) := by decide +kernel
theorem dX2_reckonLeastFrom_53 : decode cX2_reckonLeastFrom 53 = .ok (.iload_n 2, 1) := by decide +kernel
theorem dX2_reckonLeastFrom_54 : decode cX2_reckonLeastFrom 54 = .ok (.goto 13, 3) := by decide +kernel
theorem dX2_reckonLeastFrom_57 : decode cX2_reckonLeastFrom 57 = .ok (.iload_n 2, 1) := by decide +kernel
theorem dX2_reckonLeastFrom_58 : decode cX2_reckonLeastFrom 58 = .ok (.aload_n 0, 1) := by decide +kernel
theorem dX2_reckonLeastFrom_59 : decode cX2_reckonLeastFrom 59 = .ok (.iload_n 1, 1) := by decide +kernel
theorem dX2_reckonLeastFrom_60 : decode cX2_reckonLeastFrom 60 = .ok (.iload_n 3, 1) := by decide +kernel
theorem dX2_reckonLeastFrom_61 : decode cX2_reckonLeastFrom 61 = .ok (.invokevirtual 90, 3) := by decide +kernel
theorem dX2_reckonLeastFrom_64 : decode cX2_reckonLeastFrom 64 = .ok (.invokestatic 33, 3) := by decide +kernel
theorem dX2_reckonLeastFrom_67 : decode cX2_reckonLeastFrom 67 = .ok (.istore_n 2, 1) := by decide +kernel
theorem dX2_reckonLeastFrom_68 : decode cX2_reckonLeastFrom 68 = .ok (.iinc 3 1, 3) := by decide +kernel
theorem dX2_reckonLeastFrom_71 : decode cX2_reckonLeastFrom 71 = .ok (.goto (-31), 3) := by decide +kernel
theorem dX2_reckonLeastFrom_74 : decode cX2_reckonLeastFrom 74 = .ok (.aload_n 0, 1) := by decide +kernel
theorem dX2_reckonLeastFrom_75 : decode cX2_reckonLeastFrom 75 = .ok (.getfield 21, 3) := by decide +kernel
theorem dX2_reckonLeastFrom_78 : decode cX2_reckonLeastFrom 78 = .ok (.iload_n 1, 1) := by decide +kernel
theorem dX2_reckonLeastFrom_79 : decode cX2_reckonLeastFrom 79 = .ok (.aload_n 0, 1) := by decide +kernel
theorem dX2_reckonLeastFrom_80 : decode cX2_reckonLeastFrom 80 = .ok (.getfield 21, 3) := by decide +kernel
theorem dX2_reckonLeastFrom_83 : decode cX2_reckonLeastFrom 83 = .ok (.iload_n 1, 1) := by decide +kernel
theorem dX2_reckonLeastFrom_84 : decode cX2_reckonLeastFrom 84 = .ok (.iconst 1, 1) := by decide +kernel
theorem dX2_reckonLeastFrom_85 : decode cX2_reckonLeastFrom 85 = .ok (.iadd, 1) := by decide +kernel
theorem dX2_reckonLeastFrom_86 : decode cX2_reckonLeastFrom 86 = .ok (.iaload, 1) := by decide +kernel
theorem dX2_reckonLeastFrom_87 : decode cX2_reckonLeastFrom 87 = .ok (.iload_n 2, 1) := by decide +kernel
theorem dX2_reckonLeastFrom_88 : decode cX2_reckonLeastFrom 88 = .ok (.iadd, 1) := by decide +kernel
theorem dX2_reckonLeastFrom_89 : decode cX2_reckonLeastFrom 89 = .ok (.iastore, 1) := by decide +kernel
theorem dX2_reckonLeastFrom_90 : decode cX2_reckonLeastFrom 90 = .ok (.aload_n 0, 1) := by decide +kernel
theorem dX2_reckonLeastFrom_91 : decode cX2_reckonLeastFrom 91 = .ok (.getfield 24, 3) := by decide +kernel
theorem dX2_reckonLeastFrom_94 : decode cX2_reckonLeastFrom 94 = .ok (.iload_n 1, 1) := by decide +kernel
theorem dX2_reckonLeastFrom_95 : decode cX2_reckonLeastFrom 95 = .ok (.aload_n 0, 1) := by decide +kernel
theorem dX2_reckonLeastFrom_96 : decode cX2_reckonLeastFrom 96 = .ok (.getfield 24, 3) := by decide +kernel
theorem dX2_reckonLeastFrom_99 : decode cX2_reckonLeastFrom 99 = .ok (.iload_n 1, 1) := by decide +kernel
theorem dX2_reckonLeastFrom_100 : decode cX2_reckonLeastFrom 100 = .ok (.iconst 1, 1) := by decide +kernel
theorem dX2_reckonLeastFrom_101 : decode cX2_reckonLeastFrom 101 = .ok (.iadd, 1) := by decide +kernel
theorem dX2_reckonLeastFrom_102 : decode cX2_reckonLeastFrom 102 = .ok (.iaload, 1) := by decide +kernel
theorem dX2_reckonLeastFrom_103 : decode cX2_reckonLeastFrom 103 = .ok (.aload_n 0, 1) := by decide +kernel
theorem dX2_reckonLeastFrom_104 : decode cX2_reckonLeastFrom 104 = .ok (.getfield 18, 3) := by decide +kernel
theorem dX2_reckonLeastFrom_107 : decode cX2_reckonLeastFrom 107 = .ok (.iload_n 1, 1) := by decide +kernel
theorem dX2_reckonLeastFrom_108 : decode cX2_reckonLeastFrom 108 = .ok (.iaload, 1) := by decide +kernel
theorem dX2_reckonLeastFrom_109 : decode cX2_reckonLeastFrom 109 = .ok (.aload_n 0, 1) := by decide +kernel
theorem dX2_reckonLeastFrom_110 : decode cX2_reckonLeastFrom 110 = .ok (.getfield 9, 3) := by decide +kernel
theorem dX2_reckonLeastFrom_113 : decode cX2_reckonLeastFrom 113 = .ok (.iload_n 1, 1) := by decide +kernel
theorem dX2_reckonLeastFrom_114 : decode cX2_reckonLeastFrom 114 = .ok (.iaload, 1) := by decide +kernel
theorem dX2_reckonLeastFrom_115 : decode cX2_reckonLeastFrom 115 = .ok (.imul, 1) := by decide +kernel
theorem dX2_reckonLeastFrom_116 : decode cX2_reckonLeastFrom 116 = .ok (.iadd, 1) := by decide +kernel
theorem dX2_reckonLeastFrom_117 : decode cX2_reckonLeastFrom 117 = .ok (.iastore, 1) := by decide +kernel
theorem dX2_reckonLeastFrom_118 : decode cX2_reckonLeastFrom 118 = .ok (.iinc 1 (-1), 3) := by decide +kernel
theorem dX2_reckonLeastFrom_121 : decode cX2_reckonLeastFrom 121 = .ok (.goto (-94), 3) := by decide +kernel
theorem dX2_reckonLeastFrom_124 : decode cX2_reckonLeastFrom 124 = .ok (.return_, 1) := by decide +kernel
theorem dX2_tryFrom_0 : decode cX2_tryFrom 0 = .ok (.iload_n 1, 1) := by decide +kernel
theorem dX2_tryFrom_1 : decode cX2_tryFrom 1 = .ok (.ifCond .lt 11, 3) := by decide +kernel
theorem dX2_tryFrom_4 : decode cX2_tryFrom 4 = .ok (.iload_n 1, 1) := by decide +kernel
theorem dX2_tryFrom_5 : decode cX2_tryFrom 5 = .ok (.aload_n 0, 1) := by decide +kernel
theorem dX2_tryFrom_6 : decode cX2_tryFrom 6 = .ok (.getfield 42, 3) := by decide +kernel
theorem dX2_tryFrom_9 : decode cX2_tryFrom 9 = .ok (.if_icmp .lt 9, 3) := by decide +kernel
theorem dX2_tryFrom_12 : decode cX2_tryFrom 12 = .ok (.aload_n 0, 1) := by decide +kernel
theorem dX2_tryFrom_13 : decode cX2_tryFrom 13 = .ok (.iload_n 2, 1) := by decide +kernel
theorem dX2_tryFrom_14 : decode cX2_tryFrom 14 = .ok (.invokevirtual 93, 3) := by decide +kernel
theorem dX2_tryFrom_17 : decode cX2_tryFrom 17 = .ok (.return_, 1) := by decide +kernel
theorem dX2_tryFrom_18 : decode cX2_tryFrom 18 = .ok (.iconst (-1), 1) := by decide +kernel
theorem dX2_tryFrom_19 : decode cX2_tryFrom 19 = .ok (.istore 4, 2) := by decide +kernel
theorem dX2_tryFrom_21 : decode cX2_tryFrom 21 = .ok (.iload 4, 2) := by decide +kernel
theorem dX2_tryFrom_23 : decode cX2_tryFrom 23 = .ok (.aload_n 0, 1) := by decide +kernel
theorem dX2_tryFrom_24 : decode cX2_tryFrom 24 = .ok (.getfield 42, 3) := by decide +kernel
theorem dX2_tryFrom_27 : decode cX2_tryFrom 27 = .ok (.if_icmp .ge 127, 3) := by decide +kernel
theorem dX2_tryFrom_30 : decode cX2_tryFrom 30 = .ok (.aload_n 0, 1) := by decide +kernel
theorem dX2_tryFrom_31 : decode cX2_tryFrom 31 = .ok (.iload_n 1, 1) := by decide +kernel
theorem dX2_tryFrom_32 : decode cX2_tryFrom 32 = .ok (.iload 4, 2) := by decide +kernel
theorem dX2_tryFrom_34 : decode cX2_tryFrom 34 = .ok (.invokevirtual 97, 3) := by decide +kernel
theorem dX2_tryFrom_37 : decode cX2_tryFrom 37 = .ok (.istore 5, 2) := by decide +kernel
theorem dX2_tryFrom_39 : decode cX2_tryFrom 39 = .ok (.iload_n 2, 1) := by decide +kernel
theorem dX2_tryFrom_40 : decode cX2_tryFrom 40 = .ok (.aload_n 0, 1) := by decide +kernel
theorem dX2_tryFrom_41 : decode cX2_tryFrom 41 = .ok (.iload_n 1, 1) := by decide +kernel
theorem dX2_tryFrom_42 : decode cX2_tryFrom 42 = .ok (.iload 4, 2) := by decide +kernel
theorem dX2_tryFrom_44 : decode cX2_tryFrom 44 = .ok (.invokevirtual 90, 3) := by decide +kernel
theorem dX2_tryFrom_47 : decode cX2_tryFrom 47 = .ok (.iadd, 1) := by decide +kernel
theorem dX2_tryFrom_48 : decode cX2_tryFrom 48 = .ok (.istore 6, 2) := by decide +kernel
theorem dX2_tryFrom_50 : decode cX2_tryFrom 50 = .ok (.iload_n 3, 1) := by decide +kernel
theorem dX2_tryFrom_51 : decode cX2_tryFrom 51 = .ok (.aload_n 0, 1) := by decide +kernel
theorem dX2_tryFrom_52 : decode cX2_tryFrom 52 = .ok (.getfield 18, 3) := by decide +kernel
theorem dX2_tryFrom_55 : decode cX2_tryFrom 55 = .ok (.iload_n 1, 1) := by decide +kernel
theorem dX2_tryFrom_56 : decode cX2_tryFrom 56 = .ok (.iaload, 1) := by decide +kernel
theorem dX2_tryFrom_57 : decode cX2_tryFrom 57 = .ok (.iload 5, 2) := by decide +kernel
theorem dX2_tryFrom_59 : decode cX2_tryFrom 59 = .ok (.imul, 1) := by decide +kernel
theorem dX2_tryFrom_60 : decode cX2_tryFrom 60 = .ok (.iadd, 1) := by decide +kernel
theorem dX2_tryFrom_61 : decode cX2_tryFrom 61 = .ok (.istore 7, 2) := by decide +kernel
theorem dX2_tryFrom_63 : decode cX2_tryFrom 63 = .ok (.iload 4, 2) := by decide +kernel
theorem dX2_tryFrom_65 : decode cX2_tryFrom 65 = .ok (.iload_n 1, 1) := by decide +kernel
theorem dX2_tryFrom_66 : decode cX2_tryFrom 66 = .ok (.if_icmp .eq 26, 3) := by decide +kernel
theorem dX2_tryFrom_69 : decode cX2_tryFrom 69 = .ok (.iload 5, 2) := by decide +kernel
theorem dX2_tryFrom_71 : decode cX2_tryFrom 71 = .ok (.aload_n 0, 1) := by decide +kernel
theorem dX2_tryFrom_72 : decode cX2_tryFrom 72 = .ok (.getfield 46, 3) := by decide +kernel
theorem dX2_tryFrom_75 : decode cX2_tryFrom 75 = .ok (.if_icmp .gt 17, 3) := by decide +kernel
theorem dX2_tryFrom_78 : decode cX2_tryFrom 78 = .ok (.aload_n 0, 1) := by decide +kernel
theorem dX2_tryFrom_79 : decode cX2_tryFrom 79 = .ok (.iload 4, 2) := by decide +kernel
theorem dX2_tryFrom_81 : decode cX2_tryFrom 81 = .ok (.iload_n 1, 1) := by decide +kernel
theorem dX2_tryFrom_82 : decode cX2_tryFrom 82 = .ok (.invokevirtual 100, 3) := by decide +kernel
theorem dX2_tryFrom_85 : decode cX2_tryFrom 85 = .ok (.ifCond .ne 7, 3) := by decide +kernel
theorem dX2_tryFrom_88 : decode cX2_tryFrom 88 = .ok (.iconst 1, 1) := by decide +kernel
theorem dX2_tryFrom_89 : decode cX2_tryFrom 89 = .ok (.goto 4, 3) := by decide +kernel
theorem dX2_tryFrom_92 : decode cX2_tryFrom 92 = .ok (.iconst 0, 1) := by decide +kernel
theorem dX2_tryFrom_93 : decode cX2_tryFrom 93 = .ok (.istore 8, 2) := by decide +kernel
theorem dX2_tryFrom_95 : decode cX2_tryFrom 95 = .ok (.iload 8, 2) := by decide +kernel
theorem dX2_tryFrom_97 : decode cX2_tryFrom 97 = .ok (.ifCond .eq 51, 3) := by decide +kernel
theorem dX2_tryFrom_100 : decode cX2_tryFrom 100 = .ok (.aload_n 0, 1) := by decide +kernel
theorem dX2_tryFrom_101 : decode cX2_tryFrom 101 = .ok (.iload 6, 2) := by decide +kernel
theorem dX2_tryFrom_103 : decode cX2_tryFrom 103 = .ok (.aload_n 0, 1) := by decide +kernel
theorem dX2_tryFrom_104 : decode cX2_tryFrom 104 = .ok (.getfield 21, 3) := by decide +kernel
theorem dX2_tryFrom_107 : decode cX2_tryFrom 107 = .ok (.iload_n 1, 1) := by decide +kernel
theorem dX2_tryFrom_108 : decode cX2_tryFrom 108 = .ok (.iconst 1, 1) := by decide +kernel
theorem dX2_tryFrom_109 : decode cX2_tryFrom 109 = .ok (.iadd, 1) := by decide +kernel
theorem dX2_tryFrom_110 : decode cX2_tryFrom 110 = .ok (.iaload, 1) := by decide +kernel
theorem dX2_tryFrom_111 : decode cX2_tryFrom 111 = .ok (.iadd, 1) := by decide +kernel
theorem dX2_tryFrom_112 : decode cX2_tryFrom 112 = .ok (.iload 7, 2) := by decide +kernel
theorem dX2_tryFrom_114 : decode cX2_tryFrom 114 = .ok (.aload_n 0, 1) := by decide +kernel
theorem dX2_tryFrom_115 : decode cX2_tryFrom 115 = .ok (.getfield 24, 3) := by decide +kernel
theorem dX2_tryFrom_118 : decode cX2_tryFrom 118 = .ok (.iload_n 1, 1) := by decide +kernel
theorem dX2_tryFrom_119 : decode cX2_tryFrom 119 = .ok (.iconst 1, 1) := by decide +kernel
theorem dX2_tryFrom_120 : decode cX2_tryFrom 120 = .ok (.iadd, 1) := by decide +kernel
theorem dX2_tryFrom_121 : decode cX2_tryFrom 121 = .ok (.iaload, 1) := by decide +kernel
theorem dX2_tryFrom_122 : decode cX2_tryFrom 122 = .ok (.iadd, 1) := by decide +kernel
theorem dX2_tryFrom_123 : decode cX2_tryFrom 123 = .ok (.invokevirtual 103, 3) := by decide +kernel
theorem dX2_tryFrom_126 : decode cX2_tryFrom 126 = .ok (.ifCond .eq 22, 3) := by decide +kernel
theorem dX2_tryFrom_129 : decode cX2_tryFrom 129 = .ok (.aload_n 0, 1) := by decide +kernel
theorem dX2_tryFrom_130 : decode cX2_tryFrom 130 = .ok (.getfield 27, 3) := by decide +kernel
theorem dX2_tryFrom_133 : decode cX2_tryFrom 133 = .ok (.iload_n 1, 1) := by decide +kernel
theorem dX2_tryFrom_134 : decode cX2_tryFrom 134 = .ok (.iload 4, 2) := by decide +kernel
theorem dX2_tryFrom_136 : decode cX2_tryFrom 136 = .ok (.iastore, 1) := by decide +kernel
theorem dX2_tryFrom_137 : decode cX2_tryFrom 137 = .ok (.aload_n 0, 1) := by decide +kernel
theorem dX2_tryFrom_138 : decode cX2_tryFrom 138 = .ok (.iload_n 1, 1) := by decide +kernel
theorem dX2_tryFrom_139 : decode cX2_tryFrom 139 = .ok (.iconst 1, 1) := by decide +kernel
theorem dX2_tryFrom_140 : decode cX2_tryFrom 140 = .ok (.iadd, 1) := by decide +kernel
theorem dX2_tryFrom_141 : decode cX2_tryFrom 141 = .ok (.iload 6, 2) := by decide +kernel
theorem dX2_tryFrom_143 : decode cX2_tryFrom 143 = .ok (.iload 7, 2) := by decide +kernel
theorem dX2_tryFrom_145 : decode cX2_tryFrom 145 = .ok (.invokevirtual 62, 3) := by decide +kernel
theorem dX2_tryFrom_148 : decode cX2_tryFrom 148 = .ok (.iinc 4 1, 3) := by decide +kernel
theorem dX2_tryFrom_151 : decode cX2_tryFrom 151 = .ok (.goto (-130), 3) := by decide +kernel
theorem dX2_tryFrom_154 : decode cX2_tryFrom 154 = .ok (.return_, 1) := by decide +kernel
theorem dX2_takeIfLess_0 : decode cX2_takeIfLess 0 = .ok (.iconst 0, 1) := by decide +kernel
theorem dX2_takeIfLess_1 : decode cX2_takeIfLess 1 = .ok (.istore_n 2, 1) := by decide +kernel
theorem dX2_takeIfLess_2 : decode cX2_takeIfLess 2 = .ok (.iconst 0, 1) := by decide +kernel
theorem dX2_takeIfLess_3 : decode cX2_takeIfLess 3 = .ok (.istore_n 3, 1) := by decide +kernel
theorem dX2_takeIfLess_4 : decode cX2_takeIfLess 4 = .ok (.iload_n 3, 1) := by decide +kernel
theorem dX2_takeIfLess_5 : decode cX2_takeIfLess 5 = .ok (.aload_n 0, 1) := by decide +kernel
theorem dX2_takeIfLess_6 : decode cX2_takeIfLess 6 = .ok (.getfield 42, 3) := by decide +kernel
theorem dX2_takeIfLess_9 : decode cX2_takeIfLess 9 = .ok (.if_icmp .ge 42, 3) := by decide +kernel
theorem dX2_takeIfLess_12 : decode cX2_takeIfLess 12 = .ok (.aload_n 0, 1) := by decide +kernel
theorem dX2_takeIfLess_13 : decode cX2_takeIfLess 13 = .ok (.aload_n 0, 1) := by decide +kernel
theorem dX2_takeIfLess_14 : decode cX2_takeIfLess 14 = .ok (.getfield 27, 3) := by decide +kernel
theorem dX2_takeIfLess_17 : decode cX2_takeIfLess 17 = .ok (.iload_n 3, 1) := by decide +kernel
theorem dX2_takeIfLess_18 : decode cX2_takeIfLess 18 = .ok (.invokevirtual 66, 3) := by decide +kernel
theorem dX2_takeIfLess_21 : decode cX2_takeIfLess 21 = .ok (.istore 4, 2) := by decide +kernel
theorem dX2_takeIfLess_23 : decode cX2_takeIfLess 23 = .ok (.iload 4, 2) := by decide +kernel
theorem dX2_takeIfLess_25 : decode cX2_takeIfLess 25 = .ok (.aload_n 0, 1) := by decide +kernel
theorem dX2_takeIfLess_26 : decode cX2_takeIfLess 26 = .ok (.getfield 46, 3) := by decide +kernel
theorem dX2_takeIfLess_29 : decode cX2_takeIfLess 29 = .ok (.if_icmp .le 4, 3) := by decide +kernel
theorem dX2_takeIfLess_32 : decode cX2_takeIfLess 32 = .ok (.return_, 1) := by decide +kernel
theorem dX2_takeIfLess_33 : decode cX2_takeIfLess 33 = .ok (.iload_n 2, 1) := by decide +kernel
theorem dX2_takeIfLess_34 : decode cX2_takeIfLess 34 = .ok (.aload_n 0, 1) := by decide +kernel
theorem dX2_takeIfLess_35 : decode cX2_takeIfLess 35 = .ok (.getfield 18, 3) := by decide +kernel
theorem dX2_takeIfLess_38 : decode cX2_takeIfLess 38 = .ok (.iload_n 3, 1) := by decide +kernel
theorem dX2_takeIfLess_39 : decode cX2_takeIfLess 39 = .ok (.iaload, 1) := by decide +kernel
theorem dX2_takeIfLess_40 : decode cX2_takeIfLess 40 = .ok (.iload 4, 2) := by decide +kernel
theorem dX2_takeIfLess_42 : decode cX2_takeIfLess 42 = .ok (.imul, 1) := by decide +kernel
theorem dX2_takeIfLess_43 : decode cX2_takeIfLess 43 = .ok (.iadd, 1) := by decide +kernel
theorem dX2_takeIfLess_44 : decode cX2_takeIfLess 44 = .ok (.istore_n 2, 1) := by decide +kernel
theorem dX2_takeIfLess_45 : decode cX2_takeIfLess 45 = .ok (.iinc 3 1, 3) := by decide +kernel
theorem dX2_takeIfLess_48 : decode cX2_takeIfLess 48 = .ok (.goto (-44), 3) := by decide +kernel
theorem dX2_takeIfLess_51 : decode cX2_takeIfLess 51 = .ok (.aload_n 0, 1) := by decide +kernel
theorem dX2_takeIfLess_52 : decode cX2_takeIfLess 52 = .ok (.iload_n 1, 1) := by decide +kernel
theorem dX2_takeIfLess_53 : decode cX2_takeIfLess 53 = .ok (.iload_n 2, 1) := by decide +kernel
theorem dX2_takeIfLess_54 : decode cX2_takeIfLess 54 = .ok (.invokevirtual 103, 3) := by decide +kernel
theorem dX2_takeIfLess_57 : decode cX2_takeIfLess 57 = .ok (.ifCond .ne 4, 3) := by decide +kernel
theorem dX2_takeIfLess_60 : decode cX2_takeIfLess 60 = .ok (.return_, 1) := by decide +kernel
theorem dX2_takeIfLess_61 : decode cX2_takeIfLess 61 = .ok (.aload_n 0, 1) := by decide +kernel
theorem dX2_takeIfLess_62 : decode cX2_takeIfLess 62 = .ok (.iconst 1, 1) := by decide +kernel
theorem dX2_takeIfLess_63 : decode cX2_takeIfLess 63 = .ok (.putfield 49, 3) := by decide +kernel
theorem dX2_takeIfLess_66 : decode cX2_takeIfLess 66 = .ok (.aload_n 0, 1) := by decide +kernel
theorem dX2_takeIfLess_67 : decode cX2_takeIfLess 67 = .ok (.iload_n 1, 1) := by decide +kernel
theorem dX2_takeIfLess_68 : decode cX2_takeIfLess 68 = .ok (.putfield 53, 3) := by decide +kernel
theorem dX2_takeIfLess_71 : decode cX2_takeIfLess 71 = .ok (.aload_n 0, 1) := by decide +kernel
theorem dX2_takeIfLess_72 : decode cX2_takeIfLess 72 = .ok (.iload_n 2, 1) := by decide +kernel
theorem dX2_takeIfLess_73 : decode cX2_takeIfLess 73 = .ok (.putfield 56, 3) := by decide +kernel
theorem dX2_takeIfLess_76 : decode cX2_takeIfLess 76 = .ok (.iconst 0, 1) := by decide +kernel
theorem dX2_takeIfLess_77 : decode cX2_takeIfLess 77 = .ok (.istore_n 3, 1) := by decide +kernel
theorem dX2_takeIfLess_78 : decode cX2_takeIfLess 78 = .ok (.iload_n 3, 1) := by decide +kernel
theorem dX2_takeIfLess_79 : decode cX2_takeIfLess 79 = .ok (.aload_n 0, 1) := by decide +kernel
theorem dX2_takeIfLess_80 : decode cX2_takeIfLess 80 = .ok (.getfield 42, 3) := by decide +kernel
theorem dX2_takeIfLess_83 : decode cX2_takeIfLess 83 = .ok (.if_icmp .ge 21, 3) := by decide +kernel
theorem dX2_takeIfLess_86 : decode cX2_takeIfLess 86 = .ok (.aload_n 0, 1) := by decide +kernel
theorem dX2_takeIfLess_87 : decode cX2_takeIfLess 87 = .ok (.getfield 30, 3) := by decide +kernel
theorem dX2_takeIfLess_90 : decode cX2_takeIfLess 90 = .ok (.iload_n 3, 1) := by decide +kernel
theorem dX2_takeIfLess_91 : decode cX2_takeIfLess 91 = .ok (.aload_n 0, 1) := by decide +kernel
theorem dX2_takeIfLess_92 : decode cX2_takeIfLess 92 = .ok (.getfield 27, 3) := by decide +kernel
theorem dX2_takeIfLess_95 : decode cX2_takeIfLess 95 = .ok (.iload_n 3, 1) := by decide +kernel
theorem dX2_takeIfLess_96 : decode cX2_takeIfLess 96 = .ok (.iaload, 1) := by decide +kernel
theorem dX2_takeIfLess_97 : decode cX2_takeIfLess 97 = .ok (.iastore, 1) := by decide +kernel
theorem dX2_takeIfLess_98 : decode cX2_takeIfLess 98 = .ok (.iinc 3 1, 3) := by decide +kernel
theorem dX2_takeIfLess_101 : decode cX2_takeIfLess 101 = .ok (.goto (-23), 3) := by decide +kernel
theorem dX2_takeIfLess_104 : decode cX2_takeIfLess 104 = .ok (.return_, 1) := by decide +kernel
theorem dX2_isLess_0 : decode cX2_isLess 0 = .ok (.aload_n 0, 1) := by decide +kernel
theorem dX2_isLess_1 : decode cX2_isLess 1 = .ok (.getfield 49, 3) := by decide +kernel
theorem dX2_isLess_4 : decode cX2_isLess 4 = .ok (.ifCond .eq 27, 3) := by decide +kernel
theorem dX2_isLess_7 : decode cX2_isLess 7 = .ok (.iload_n 1, 1) := by decide +kernel
theorem dX2_isLess_8 : decode cX2_isLess 8 = .ok (.aload_n 0, 1) := by decide +kernel
theorem dX2_isLess_9 : decode cX2_isLess 9 = .ok (.getfield 53, 3) := by decide +kernel
theorem dX2_isLess_12 : decode cX2_isLess 12 = .ok (.if_icmp .lt 19, 3) := by decide +kernel
theorem dX2_isLess_15 : decode cX2_isLess 15 = .ok (.iload_n 1, 1) := by decide +kernel
theorem dX2_isLess_16 : decode cX2_isLess 16 = .ok (.aload_n 0, 1) := by decide +kernel
theorem dX2_isLess_17 : decode cX2_isLess 17 = .ok (.getfield 53, 3) := by decide +kernel
theorem dX2_isLess_20 : decode cX2_isLess 20 = .ok (.if_icmp .ne 15, 3) := by decide +kernel
theorem dX2_isLess_23 : decode cX2_isLess 23 = .ok (.iload_n 2, 1) := by decide +kernel
theorem dX2_isLess_24 : decode cX2_isLess 24 = .ok (.aload_n 0, 1) := by decide +kernel
theorem dX2_isLess_25 : decode cX2_isLess 25 = .ok (.getfield 56, 3) := by decide +kernel
theorem dX2_isLess_28 : decode cX2_isLess 28 = .ok (.if_icmp .ge 7, 3) := by decide +kernel
theorem dX2_isLess_31 : decode cX2_isLess 31 = .ok (.iconst 1, 1) := by decide +kernel
theorem dX2_isLess_32 : decode cX2_isLess 32 = .ok (.goto 4, 3) := by decide +kernel
theorem dX2_isLess_35 : decode cX2_isLess 35 = .ok (.iconst 0, 1) := by decide +kernel
theorem dX2_isLess_36 : decode cX2_isLess 36 = .ok (.ireturn, 1) := by decide +kernel
theorem dX2_leadsTo_0 : decode cX2_leadsTo 0 = .ok (.iload_n 1, 1) := by decide +kernel
theorem dX2_leadsTo_1 : decode cX2_leadsTo 1 = .ok (.istore_n 3, 1) := by decide +kernel
theorem dX2_leadsTo_2 : decode cX2_leadsTo 2 = .ok (.iconst 0, 1) := by decide +kernel
theorem dX2_leadsTo_3 : decode cX2_leadsTo 3 = .ok (.istore 4, 2) := by decide +kernel
theorem dX2_leadsTo_5 : decode cX2_leadsTo 5 = .ok (.iload 4, 2) := by decide +kernel
theorem dX2_leadsTo_7 : decode cX2_leadsTo 7 = .ok (.aload_n 0, 1) := by decide +kernel
theorem dX2_leadsTo_8 : decode cX2_leadsTo 8 = .ok (.getfield 42, 3) := by decide +kernel
theorem dX2_leadsTo_11 : decode cX2_leadsTo 11 = .ok (.if_icmp .ge 31, 3) := by decide +kernel
theorem dX2_leadsTo_14 : decode cX2_leadsTo 14 = .ok (.iload_n 3, 1) := by decide +kernel
theorem dX2_leadsTo_15 : decode cX2_leadsTo 15 = .ok (.ifCond .lt 27, 3) := by decide +kernel
theorem dX2_leadsTo_18 : decode cX2_leadsTo 18 = .ok (.iload_n 3, 1) := by decide +kernel
theorem dX2_leadsTo_19 : decode cX2_leadsTo 19 = .ok (.iload_n 2, 1) := by decide +kernel
theorem dX2_leadsTo_20 : decode cX2_leadsTo 20 = .ok (.if_icmp .ge 22, 3) := by decide +kernel
theorem dX2_leadsTo_23 : decode cX2_leadsTo 23 = .ok (.iload_n 3, 1) := by decide +kernel
theorem dX2_leadsTo_24 : decode cX2_leadsTo 24 = .ok (.bipush 6, 2) := by decide +kernel
theorem dX2_leadsTo_26 : decode cX2_leadsTo 26 = .ok (.if_icmp .ge 16, 3) := by decide +kernel
theorem dX2_leadsTo_29 : decode cX2_leadsTo 29 = .ok (.aload_n 0, 1) := by decide +kernel
theorem dX2_leadsTo_30 : decode cX2_leadsTo 30 = .ok (.getfield 27, 3) := by decide +kernel
theorem dX2_leadsTo_33 : decode cX2_leadsTo 33 = .ok (.iload_n 3, 1) := by decide +kernel
theorem dX2_leadsTo_34 : decode cX2_leadsTo 34 = .ok (.iaload, 1) := by decide +kernel
theorem dX2_leadsTo_35 : decode cX2_leadsTo 35 = .ok (.istore_n 3, 1) := by decide +kernel
theorem dX2_leadsTo_36 : decode cX2_leadsTo 36 = .ok (.iinc 4 1, 3) := by decide +kernel
theorem dX2_leadsTo_39 : decode cX2_leadsTo 39 = .ok (.goto (-34), 3) := by decide +kernel
theorem dX2_leadsTo_42 : decode cX2_leadsTo 42 = .ok (.iload_n 3, 1) := by decide +kernel
theorem dX2_leadsTo_43 : decode cX2_leadsTo 43 = .ok (.iload_n 2, 1) := by decide +kernel
theorem dX2_leadsTo_44 : decode cX2_leadsTo 44 = .ok (.if_icmp .ne 7, 3) := by decide +kernel
theorem dX2_leadsTo_47 : decode cX2_leadsTo 47 = .ok (.iconst 1, 1) := by decide +kernel
theorem dX2_leadsTo_48 : decode cX2_leadsTo 48 = .ok (.goto 4, 3) := by decide +kernel
theorem dX2_leadsTo_51 : decode cX2_leadsTo 51 = .ok (.iconst 0, 1) := by decide +kernel
theorem dX2_leadsTo_52 : decode cX2_leadsTo 52 = .ok (.ireturn, 1) := by decide +kernel
theorem dX2_remadeBy_0 : decode cX2_remadeBy 0 = .ok (.iconst 0, 1) := by decide +kernel
theorem dX2_remadeBy_1 : decode cX2_remadeBy 1 = .ok (.istore_n 3, 1) := by decide +kernel
theorem dX2_remadeBy_2 : decode cX2_remadeBy 2 = .ok (.iload_n 2, 1) := by decide +kernel
theorem dX2_remadeBy_3 : decode cX2_remadeBy 3 = .ok (.istore 4, 2) := by decide +kernel
theorem dX2_remadeBy_5 : decode cX2_remadeBy 5 = .ok (.iconst 0, 1) := by decide +kernel
theorem dX2_remadeBy_6 : decode cX2_remadeBy 6 = .ok (.istore 5, 2) := by decide +kernel
theorem dX2_remadeBy_8 : decode cX2_remadeBy 8 = .ok (.iload 5, 2) := by decide +kernel
theorem dX2_remadeBy_10 : decode cX2_remadeBy 10 = .ok (.aload_n 0, 1) := by decide +kernel
theorem dX2_remadeBy_11 : decode cX2_remadeBy 11 = .ok (.getfield 42, 3) := by decide +kernel
theorem dX2_remadeBy_14 : decode cX2_remadeBy 14 = .ok (.if_icmp .ge 40, 3) := by decide +kernel
theorem dX2_remadeBy_17 : decode cX2_remadeBy 17 = .ok (.iload 4, 2) := by decide +kernel
theorem dX2_remadeBy_19 : decode cX2_remadeBy 19 = .ok (.ifCond .lt 35, 3) := by decide +kernel
theorem dX2_remadeBy_22 : decode cX2_remadeBy 22 = .ok (.iload 4, 2) := by decide +kernel
theorem dX2_remadeBy_24 : decode cX2_remadeBy 24 = .ok (.aload_n 1, 1) := by decide +kernel
theorem dX2_remadeBy_25 : decode cX2_remadeBy 25 = .ok (.arraylength, 1) := by decide +kernel
theorem dX2_remadeBy_26 : decode cX2_remadeBy 26 = .ok (.if_icmp .ge 28, 3) := by decide +kernel
theorem dX2_remadeBy_29 : decode cX2_remadeBy 29 = .ok (.iload_n 3, 1) := by decide +kernel
theorem dX2_remadeBy_30 : decode cX2_remadeBy 30 = .ok (.aload_n 0, 1) := by decide +kernel
theorem dX2_remadeBy_31 : decode cX2_remadeBy 31 = .ok (.iload 4, 2) := by decide +kernel
theorem dX2_remadeBy_33 : decode cX2_remadeBy 33 = .ok (.aload_n 1, 1) := by decide +kernel
theorem dX2_remadeBy_34 : decode cX2_remadeBy 34 = .ok (.iload 4, 2) := by decide +kernel
theorem dX2_remadeBy_36 : decode cX2_remadeBy 36 = .ok (.iaload, 1) := by decide +kernel
theorem dX2_remadeBy_37 : decode cX2_remadeBy 37 = .ok (.invokevirtual 90, 3) := by decide +kernel
theorem dX2_remadeBy_40 : decode cX2_remadeBy 40 = .ok (.iadd, 1) := by decide +kernel
theorem dX2_remadeBy_41 : decode cX2_remadeBy 41 = .ok (.istore_n 3, 1) := by decide +kernel
theorem dX2_remadeBy_42 : decode cX2_remadeBy 42 = .ok (.aload_n 1, 1) := by decide +kernel
theorem dX2_remadeBy_43 : decode cX2_remadeBy 43 = .ok (.iload 4, 2) := by decide +kernel
theorem dX2_remadeBy_45 : decode cX2_remadeBy 45 = .ok (.iaload, 1) := by decide +kernel
theorem dX2_remadeBy_46 : decode cX2_remadeBy 46 = .ok (.istore 4, 2) := by decide +kernel
theorem dX2_remadeBy_48 : decode cX2_remadeBy 48 = .ok (.iinc 5 1, 3) := by decide +kernel
theorem dX2_remadeBy_51 : decode cX2_remadeBy 51 = .ok (.goto (-43), 3) := by decide +kernel
theorem dX2_remadeBy_54 : decode cX2_remadeBy 54 = .ok (.iload_n 3, 1) := by decide +kernel
theorem dX2_remadeBy_55 : decode cX2_remadeBy 55 = .ok (.ireturn, 1) := by decide +kernel
theorem dX2_remadeAtLeast_0 : decode cX2_remadeAtLeast 0 = .ok (.iload_n 2, 1) := by decide +kernel
theorem dX2_remadeAtLeast_1 : decode cX2_remadeAtLeast 1 = .ok (.ifCond .lt 13, 3) := by decide +kernel
theorem dX2_remadeAtLeast_4 : decode cX2_remadeAtLeast 4 = .ok (.iload_n 2, 1) := by decide +kernel
theorem dX2_remadeAtLeast_5 : decode cX2_remadeAtLeast 5 = .ok (.bipush 6, 2) := by decide +kernel
theorem dX2_remadeAtLeast_7 : decode cX2_remadeAtLeast 7 = .ok (.if_icmp .ge 7, 3) := by decide +kernel
theorem dX2_remadeAtLeast_10 : decode cX2_remadeAtLeast 10 = .ok (.iconst 1, 1) := by decide +kernel
theorem dX2_remadeAtLeast_11 : decode cX2_remadeAtLeast 11 = .ok (.goto 4, 3) := by decide +kernel
theorem dX2_remadeAtLeast_14 : decode cX2_remadeAtLeast 14 = .ok (.iconst 0, 1) := by decide +kernel
theorem dX2_remadeAtLeast_15 : decode cX2_remadeAtLeast 15 = .ok (.istore_n 3, 1) := by decide +kernel
theorem dX2_remadeAtLeast_16 : decode cX2_remadeAtLeast 16 = .ok (.aload_n 0, 1) := by decide +kernel
theorem dX2_remadeAtLeast_17 : decode cX2_remadeAtLeast 17 = .ok (.iload_n 1, 1) := by decide +kernel
theorem dX2_remadeAtLeast_18 : decode cX2_remadeAtLeast 18 = .ok (.iload_n 2, 1) := by decide +kernel
theorem dX2_remadeAtLeast_19 : decode cX2_remadeAtLeast 19 = .ok (.invokevirtual 90, 3) := by decide +kernel
theorem dX2_remadeAtLeast_22 : decode cX2_remadeAtLeast 22 = .ok (.iload_n 3, 1) := by decide +kernel
theorem dX2_remadeAtLeast_23 : decode cX2_remadeAtLeast 23 = .ok (.ifCond .eq 12, 3) := by decide +kernel
theorem dX2_remadeAtLeast_26 : decode cX2_remadeAtLeast 26 = .ok (.aload_n 0, 1) := by decide +kernel
theorem dX2_remadeAtLeast_27 : decode cX2_remadeAtLeast 27 = .ok (.getfield 9, 3) := by decide +kernel
theorem dX2_remadeAtLeast_30 : decode cX2_remadeAtLeast 30 = .ok (.iload_n 2, 1) := by decide +kernel
theorem dX2_remadeAtLeast_31 : decode cX2_remadeAtLeast 31 = .ok (.iaload, 1) := by decide +kernel
theorem dX2_remadeAtLeast_32 : decode cX2_remadeAtLeast 32 = .ok (.goto 4, 3) := by decide +kernel
theorem dX2_remadeAtLeast_35 : decode cX2_remadeAtLeast 35 = .ok (.iconst 0, 1) := by decide +kernel
theorem dX2_remadeAtLeast_36 : decode cX2_remadeAtLeast 36 = .ok (.iadd, 1) := by decide +kernel
theorem dX2_remadeAtLeast_37 : decode cX2_remadeAtLeast 37 = .ok (.ireturn, 1) := by decide +kernel
theorem dX2_pieceRoom_0 : decode cX2_pieceRoom 0 = .ok (.iload_n 1, 1) := by decide +kernel
theorem dX2_pieceRoom_1 : decode cX2_pieceRoom 1 = .ok (.ifCond .lt 9, 3) := by decide +kernel
theorem dX2_pieceRoom_4 : decode cX2_pieceRoom 4 = .ok (.iload_n 1, 1) := by decide +kernel
theorem dX2_pieceRoom_5 : decode cX2_pieceRoom 5 = .ok (.bipush 6, 2) := by decide +kernel
theorem dX2_pieceRoom_7 : decode cX2_pieceRoom 7 = .ok (.if_icmp .lt 5, 3) := by decide +kernel
theorem dX2_pieceRoom_10 : decode cX2_pieceRoom 10 = .ok (.iconst 0, 1) := by decide +kernel
theorem dX2_pieceRoom_11 : decode cX2_pieceRoom 11 = .ok (.ireturn, 1) := by decide +kernel
theorem dX2_pieceRoom_12 : decode cX2_pieceRoom 12 = .ok (.iload_n 2, 1) := by decide +kernel
theorem dX2_pieceRoom_13 : decode cX2_pieceRoom 13 = .ok (.ifCond .lt 23, 3) := by decide +kernel
theorem dX2_pieceRoom_16 : decode cX2_pieceRoom 16 = .ok (.iload_n 2, 1) := by decide +kernel
theorem dX2_pieceRoom_17 : decode cX2_pieceRoom 17 = .ok (.bipush 6, 2) := by decide +kernel
theorem dX2_pieceRoom_19 : decode cX2_pieceRoom 19 = .ok (.if_icmp .ge 17, 3) := by decide +kernel
theorem dX2_pieceRoom_22 : decode cX2_pieceRoom 22 = .ok (.aload_n 0, 1) := by decide +kernel
theorem dX2_pieceRoom_23 : decode cX2_pieceRoom 23 = .ok (.getfield 15, 3) := by decide +kernel
theorem dX2_pieceRoom_26 : decode cX2_pieceRoom 26 = .ok (.iload_n 2, 1) := by decide +kernel
theorem dX2_pieceRoom_27 : decode cX2_pieceRoom 27 = .ok (.bipush 6, 2) := by decide +kernel
theorem dX2_pieceRoom_29 : decode cX2_pieceRoom 29 = .ok (.imul, 1) := by decide +kernel
theorem dX2_pieceRoom_30 : decode cX2_pieceRoom 30 = .ok (.iload_n 1, 1) := by decide +kernel
theorem dX2_pieceRoom_31 : decode cX2_pieceRoom 31 = .ok (.iadd, 1) := by decide +kernel
theorem dX2_pieceRoom_32 : decode cX2_pieceRoom 32 = .ok (.iaload, 1) := by decide +kernel
theorem dX2_pieceRoom_33 : decode cX2_pieceRoom 33 = .ok (.goto 9, 3) := by decide +kernel
theorem dX2_pieceRoom_36 : decode cX2_pieceRoom 36 = .ok (.aload_n 0, 1) := by decide +kernel
theorem dX2_pieceRoom_37 : decode cX2_pieceRoom 37 = .ok (.getfield 9, 3) := by decide +kernel
theorem dX2_pieceRoom_40 : decode cX2_pieceRoom 40 = .ok (.iload_n 1, 1) := by decide +kernel
theorem dX2_pieceRoom_41 : decode cX2_pieceRoom 41 = .ok (.iaload, 1) := by decide +kernel
theorem dX2_pieceRoom_42 : decode cX2_pieceRoom 42 = .ok (.ireturn, 1) := by decide +kernel
