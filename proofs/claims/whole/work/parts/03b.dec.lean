theorem dX11_lose_18 : decode cX11_lose 18 = .ok (.goto 4, 3) := by decide +kernel
theorem dX11_lose_21 : decode cX11_lose 21 = .ok (.iconst (-1), 1) := by decide +kernel
theorem dX11_lose_22 : decode cX11_lose 22 = .ok (.ireturn, 1) := by decide +kernel
theorem dX11_state_0 : decode cX11_state 0 = .ok (.aload_n 0, 1) := by decide +kernel
theorem dX11_state_1 : decode cX11_state 1 = .ok (.getfield 19, 3) := by decide +kernel
theorem dX11_state_4 : decode cX11_state 4 = .ok (.iload_n 1, 1) := by decide +kernel
theorem dX11_state_5 : decode cX11_state 5 = .ok (.invokevirtual 79, 3) := by decide +kernel
theorem dX11_state_8 : decode cX11_state 8 = .ok (.astore_n 3, 1) := by decide +kernel
theorem dX11_state_9 : decode cX11_state 9 = .ok (.aload_n 3, 1) := by decide +kernel
theorem dX11_state_10 : decode cX11_state 10 = .ok (.ifnull 12, 3) := by decide +kernel
theorem dX11_state_13 : decode cX11_state 13 = .ok (.iload_n 2, 1) := by decide +kernel
theorem dX11_state_14 : decode cX11_state 14 = .ok (.iconst 0, 1) := by decide +kernel
theorem dX11_state_15 : decode cX11_state 15 = .ok (.iconst 3, 1) := by decide +kernel
theorem dX11_state_16 : decode cX11_state 16 = .ok (.invokestatic 65, 3) := by decide +kernel
theorem dX11_state_19 : decode cX11_state 19 = .ok (.ifCond .ne 5, 3) := by decide +kernel
theorem dX11_state_22 : decode cX11_state 22 = .ok (.iconst (-1), 1) := by decide +kernel
theorem dX11_state_23 : decode cX11_state 23 = .ok (.ireturn, 1) := by decide +kernel
theorem dX11_state_24 : decode cX11_state 24 = .ok (.aload_n 3, 1) := by decide +kernel
theorem dX11_state_25 : decode cX11_state 25 = .ok (.getfield 99, 3) := by decide +kernel
theorem dX11_state_28 : decode cX11_state 28 = .ok (.istore 4, 2) := by decide +kernel
theorem dX11_state_30 : decode cX11_state 30 = .ok (.aload_n 0, 1) := by decide +kernel
theorem dX11_state_31 : decode cX11_state 31 = .ok (.getfield 19, 3) := by decide +kernel
theorem dX11_state_34 : decode cX11_state 34 = .ok (.iload_n 1, 1) := by decide +kernel
theorem dX11_state_35 : decode cX11_state 35 = .ok (.invokevirtual 102, 3) := by decide +kernel
theorem dX11_state_38 : decode cX11_state 38 = .ok (.ifCond .eq 17, 3) := by decide +kernel
theorem dX11_state_41 : decode cX11_state 41 = .ok (.iload_n 2, 1) := by decide +kernel
theorem dX11_state_42 : decode cX11_state 42 = .ok (.iload 4, 2) := by decide +kernel
theorem dX11_state_44 : decode cX11_state 44 = .ok (.if_icmp .eq 11, 3) := by decide +kernel
theorem dX11_state_47 : decode cX11_state 47 = .ok (.iload_n 2, 1) := by decide +kernel
theorem dX11_state_48 : decode cX11_state 48 = .ok (.iload 4, 2) := by decide +kernel
theorem dX11_state_50 : decode cX11_state 50 = .ok (.iconst 1, 1) := by decide +kernel
theorem dX11_state_51 : decode cX11_state 51 = .ok (.iadd, 1) := by decide +kernel
theorem dX11_state_52 : decode cX11_state 52 = .ok (.if_icmp .le 6, 3) := by decide +kernel
theorem dX11_state_55 : decode cX11_state 55 = .ok (.bipush (-2), 2) := by decide +kernel
theorem dX11_state_57 : decode cX11_state 57 = .ok (.ireturn, 1) := by decide +kernel
theorem dX11_state_58 : decode cX11_state 58 = .ok (.aload_n 3, 1) := by decide +kernel
theorem dX11_state_59 : decode cX11_state 59 = .ok (.iload_n 2, 1) := by decide +kernel
theorem dX11_state_60 : decode cX11_state 60 = .ok (.invokevirtual 130, 3) := by decide +kernel
theorem dX11_state_63 : decode cX11_state 63 = .ok (.iload 4, 2) := by decide +kernel
theorem dX11_state_65 : decode cX11_state 65 = .ok (.ireturn, 1) := by decide +kernel
theorem dX11_map_0 : decode cX11_map 0 = .ok (.aload_n 0, 1) := by decide +kernel
theorem dX11_map_1 : decode cX11_map 1 = .ok (.iload_n 1, 1) := by decide +kernel
theorem dX11_map_2 : decode cX11_map 2 = .ok (.iload_n 2, 1) := by decide +kernel
theorem dX11_map_3 : decode cX11_map 3 = .ok (.invokevirtual 133, 3) := by decide +kernel
theorem dX11_map_6 : decode cX11_map 6 = .ok (.astore 6, 2) := by decide +kernel
theorem dX11_map_8 : decode cX11_map 8 = .ok (.iload_n 2, 1) := by decide +kernel
theorem dX11_map_9 : decode cX11_map 9 = .ok (.iconst 1, 1) := by decide +kernel
theorem dX11_map_10 : decode cX11_map 10 = .ok (.if_icmp .ne 7, 3) := by decide +kernel
theorem dX11_map_13 : decode cX11_map 13 = .ok (.iconst 4, 1) := by decide +kernel
theorem dX11_map_14 : decode cX11_map 14 = .ok (.goto 4, 3) := by decide +kernel
theorem dX11_map_17 : decode cX11_map 17 = .ok (.iconst 0, 1) := by decide +kernel
theorem dX11_map_18 : decode cX11_map 18 = .ok (.istore 7, 2) := by decide +kernel
theorem dX11_map_20 : decode cX11_map 20 = .ok (.aload 6, 2) := by decide +kernel
theorem dX11_map_22 : decode cX11_map 22 = .ok (.ifnull 42, 3) := by decide +kernel
theorem dX11_map_25 : decode cX11_map 25 = .ok (.iload 4, 2) := by decide +kernel
theorem dX11_map_27 : decode cX11_map 27 = .ok (.iconst 1, 1) := by decide +kernel
theorem dX11_map_28 : decode cX11_map 28 = .ok (.bipush 8, 2) := by decide +kernel
theorem dX11_map_30 : decode cX11_map 30 = .ok (.invokestatic 65, 3) := by decide +kernel
theorem dX11_map_33 : decode cX11_map 33 = .ok (.ifCond .eq 31, 3) := by decide +kernel
theorem dX11_map_36 : decode cX11_map 36 = .ok (.iload_n 3, 1) := by decide +kernel
theorem dX11_map_37 : decode cX11_map 37 = .ok (.iconst 0, 1) := by decide +kernel
theorem dX11_map_38 : decode cX11_map 38 = .ok (.bipush 32, 2) := by decide +kernel
theorem dX11_map_40 : decode cX11_map 40 = .ok (.iload 4, 2) := by decide +kernel
theorem dX11_map_42 : decode cX11_map 42 = .ok (.isub, 1) := by decide +kernel
theorem dX11_map_43 : decode cX11_map 43 = .ok (.invokestatic 65, 3) := by decide +kernel
theorem dX11_map_46 : decode cX11_map 46 = .ok (.ifCond .eq 18, 3) := by decide +kernel
theorem dX11_map_49 : decode cX11_map 49 = .ok (.iload 5, 2) := by decide +kernel
theorem dX11_map_51 : decode cX11_map 51 = .ok (.iload 7, 2) := by decide +kernel
theorem dX11_map_53 : decode cX11_map 53 = .ok (.bipush 16, 2) := by decide +kernel
theorem dX11_map_55 : decode cX11_map 55 = .ok (.iload 4, 2) := by decide +kernel
theorem dX11_map_57 : decode cX11_map 57 = .ok (.isub, 1) := by decide +kernel
theorem dX11_map_58 : decode cX11_map 58 = .ok (.invokestatic 65, 3) := by decide +kernel
theorem dX11_map_61 : decode cX11_map 61 = .ok (.ifCond .ne 5, 3) := by decide +kernel
theorem dX11_map_64 : decode cX11_map 64 = .ok (.iconst (-1), 1) := by decide +kernel
theorem dX11_map_65 : decode cX11_map 65 = .ok (.ireturn, 1) := by decide +kernel
theorem dX11_map_66 : decode cX11_map 66 = .ok (.aload_n 0, 1) := by decide +kernel
theorem dX11_map_67 : decode cX11_map 67 = .ok (.getfield 19, 3) := by decide +kernel
theorem dX11_map_70 : decode cX11_map 70 = .ok (.iload_n 1, 1) := by decide +kernel
theorem dX11_map_71 : decode cX11_map 71 = .ok (.iload_n 2, 1) := by decide +kernel
theorem dX11_map_72 : decode cX11_map 72 = .ok (.iload_n 3, 1) := by decide +kernel
theorem dX11_map_73 : decode cX11_map 73 = .ok (.iload 4, 2) := by decide +kernel
theorem dX11_map_75 : decode cX11_map 75 = .ok (.invokevirtual 137, 3) := by decide +kernel
theorem dX11_map_78 : decode cX11_map 78 = .ok (.ifCond .eq 6, 3) := by decide +kernel
theorem dX11_map_81 : decode cX11_map 81 = .ok (.bipush (-2), 2) := by decide +kernel
theorem dX11_map_83 : decode cX11_map 83 = .ok (.ireturn, 1) := by decide +kernel
theorem dX11_map_84 : decode cX11_map 84 = .ok (.aload 6, 2) := by decide +kernel
theorem dX11_map_86 : decode cX11_map 86 = .ok (.invokevirtual 141, 3) := by decide +kernel
theorem dX11_map_89 : decode cX11_map 89 = .ok (.ifCond .eq 7, 3) := by decide +kernel
theorem dX11_map_92 : decode cX11_map 92 = .ok (.iconst 1, 1) := by decide +kernel
theorem dX11_map_93 : decode cX11_map 93 = .ok (.goto 4, 3) := by decide +kernel
theorem dX11_map_96 : decode cX11_map 96 = .ok (.iconst 0, 1) := by decide +kernel
theorem dX11_map_97 : decode cX11_map 97 = .ok (.istore 8, 2) := by decide +kernel
theorem dX11_map_99 : decode cX11_map 99 = .ok (.aload 6, 2) := by decide +kernel
theorem dX11_map_101 : decode cX11_map 101 = .ok (.iload_n 3, 1) := by decide +kernel
theorem dX11_map_102 : decode cX11_map 102 = .ok (.iload 4, 2) := by decide +kernel
theorem dX11_map_104 : decode cX11_map 104 = .ok (.iload 5, 2) := by decide +kernel
theorem dX11_map_106 : decode cX11_map 106 = .ok (.invokevirtual 147, 3) := by decide +kernel
theorem dX11_map_109 : decode cX11_map 109 = .ok (.iload 8, 2) := by decide +kernel
theorem dX11_map_111 : decode cX11_map 111 = .ok (.ireturn, 1) := by decide +kernel
theorem dX11_unmap_0 : decode cX11_unmap 0 = .ok (.aload_n 0, 1) := by decide +kernel
theorem dX11_unmap_1 : decode cX11_unmap 1 = .ok (.iload_n 1, 1) := by decide +kernel
theorem dX11_unmap_2 : decode cX11_unmap 2 = .ok (.iload_n 2, 1) := by decide +kernel
theorem dX11_unmap_3 : decode cX11_unmap 3 = .ok (.invokevirtual 133, 3) := by decide +kernel
theorem dX11_unmap_6 : decode cX11_unmap 6 = .ok (.astore_n 3, 1) := by decide +kernel
theorem dX11_unmap_7 : decode cX11_unmap 7 = .ok (.aload_n 3, 1) := by decide +kernel
theorem dX11_unmap_8 : decode cX11_unmap 8 = .ok (.ifnonnull 5, 3) := by decide +kernel
theorem dX11_unmap_11 : decode cX11_unmap 11 = .ok (.iconst (-1), 1) := by decide +kernel
theorem dX11_unmap_12 : decode cX11_unmap 12 = .ok (.ireturn, 1) := by decide +kernel
theorem dX11_unmap_13 : decode cX11_unmap 13 = .ok (.aload_n 3, 1) := by decide +kernel
theorem dX11_unmap_14 : decode cX11_unmap 14 = .ok (.invokevirtual 141, 3) := by decide +kernel
theorem dX11_unmap_17 : decode cX11_unmap 17 = .ok (.ifCond .ne 6, 3) := by decide +kernel
theorem dX11_unmap_20 : decode cX11_unmap 20 = .ok (.bipush (-2), 2) := by decide +kernel
theorem dX11_unmap_22 : decode cX11_unmap 22 = .ok (.ireturn, 1) := by decide +kernel
theorem dX11_unmap_23 : decode cX11_unmap 23 = .ok (.aload_n 3, 1) := by decide +kernel
theorem dX11_unmap_24 : decode cX11_unmap 24 = .ok (.invokevirtual 151, 3) := by decide +kernel
theorem dX11_unmap_27 : decode cX11_unmap 27 = .ok (.iconst 1, 1) := by decide +kernel
theorem dX11_unmap_28 : decode cX11_unmap 28 = .ok (.ireturn, 1) := by decide +kernel
theorem dX11_mapped_0 : decode cX11_mapped 0 = .ok (.aload_n 0, 1) := by decide +kernel
theorem dX11_mapped_1 : decode cX11_mapped 1 = .ok (.iload_n 1, 1) := by decide +kernel
theorem dX11_mapped_2 : decode cX11_mapped 2 = .ok (.iload_n 2, 1) := by decide +kernel
theorem dX11_mapped_3 : decode cX11_mapped 3 = .ok (.invokevirtual 133, 3) := by decide +kernel
theorem dX11_mapped_6 : decode cX11_mapped 6 = .ok (.astore 4, 2) := by decide +kernel
theorem dX11_mapped_8 : decode cX11_mapped 8 = .ok (.aload 4, 2) := by decide +kernel
theorem dX11_mapped_10 : decode cX11_mapped 10 = .ok (.ifnull 12, 3) := by decide +kernel
theorem dX11_mapped_13 : decode cX11_mapped 13 = .ok (.iload_n 3, 1) := by decide +kernel
theorem dX11_mapped_14 : decode cX11_mapped 14 = .ok (.iconst 0, 1) := by decide +kernel
theorem dX11_mapped_15 : decode cX11_mapped 15 = .ok (.iconst 2, 1) := by decide +kernel
theorem dX11_mapped_16 : decode cX11_mapped 16 = .ok (.invokestatic 65, 3) := by decide +kernel
theorem dX11_mapped_19 : decode cX11_mapped 19 = .ok (.ifCond .ne 5, 3) := by decide +kernel
theorem dX11_mapped_22 : decode cX11_mapped 22 = .ok (.iconst (-1), 1) := by decide +kernel
theorem dX11_mapped_23 : decode cX11_mapped 23 = .ok (.ireturn, 1) := by decide +kernel
theorem dX11_mapped_24 : decode cX11_mapped 24 = .ok (.aload 4, 2) := by decide +kernel
theorem dX11_mapped_26 : decode cX11_mapped 26 = .ok (.invokevirtual 141, 3) := by decide +kernel
theorem dX11_mapped_29 : decode cX11_mapped 29 = .ok (.ifCond .ne 6, 3) := by decide +kernel
theorem dX11_mapped_32 : decode cX11_mapped 32 = .ok (.bipush (-4), 2) := by decide +kernel
theorem dX11_mapped_34 : decode cX11_mapped 34 = .ok (.ireturn, 1) := by decide +kernel
theorem dX11_mapped_35 : decode cX11_mapped 35 = .ok (.iload_n 3, 1) := by decide +kernel
theorem dX11_mapped_36 : decode cX11_mapped 36 = .ok (.ifCond .ne 11, 3) := by decide +kernel
theorem dX11_mapped_39 : decode cX11_mapped 39 = .ok (.aload 4, 2) := by decide +kernel
theorem dX11_mapped_41 : decode cX11_mapped 41 = .ok (.getfield 154, 3) := by decide +kernel
theorem dX11_mapped_44 : decode cX11_mapped 44 = .ok (.goto 21, 3) := by decide +kernel
theorem dX11_mapped_47 : decode cX11_mapped 47 = .ok (.iload_n 3, 1) := by decide +kernel
theorem dX11_mapped_48 : decode cX11_mapped 48 = .ok (.iconst 1, 1) := by decide +kernel
theorem dX11_mapped_49 : decode cX11_mapped 49 = .ok (.if_icmp .ne 11, 3) := by decide +kernel
theorem dX11_mapped_52 : decode cX11_mapped 52 = .ok (.aload 4, 2) := by decide +kernel
theorem dX11_mapped_54 : decode cX11_mapped 54 = .ok (.getfield 157, 3) := by decide +kernel
theorem dX11_mapped_57 : decode cX11_mapped 57 = .ok (.goto 8, 3) := by decide +kernel
theorem dX11_mapped_60 : decode cX11_mapped 60 = .ok (.aload 4, 2) := by decide +kernel
theorem dX11_mapped_62 : decode cX11_mapped 62 = .ok (.getfield 159, 3) := by decide +kernel
theorem dX11_mapped_65 : decode cX11_mapped 65 = .ok (.ireturn, 1) := by decide +kernel
theorem dX11_findOverlay_0 : decode cX11_findOverlay 0 = .ok (.aload_n 0, 1) := by decide +kernel
theorem dX11_findOverlay_1 : decode cX11_findOverlay 1 = .ok (.getfield 19, 3) := by decide +kernel
theorem dX11_findOverlay_4 : decode cX11_findOverlay 4 = .ok (.iload_n 1, 1) := by decide +kernel
theorem dX11_findOverlay_5 : decode cX11_findOverlay 5 = .ok (.invokevirtual 79, 3) := by decide +kernel
theorem dX11_findOverlay_8 : decode cX11_findOverlay 8 = .ok (.astore_n 3, 1) := by decide +kernel
theorem dX11_findOverlay_9 : decode cX11_findOverlay 9 = .ok (.aload_n 3, 1) := by decide +kernel
theorem dX11_findOverlay_10 : decode cX11_findOverlay 10 = .ok (.ifnull 12, 3) := by decide +kernel
theorem dX11_findOverlay_13 : decode cX11_findOverlay 13 = .ok (.iload_n 2, 1) := by decide +kernel
theorem dX11_findOverlay_14 : decode cX11_findOverlay 14 = .ok (.iconst 0, 1) := by decide +kernel
theorem dX11_findOverlay_15 : decode cX11_findOverlay 15 = .ok (.iconst 1, 1) := by decide +kernel
theorem dX11_findOverlay_16 : decode cX11_findOverlay 16 = .ok (.invokestatic 65, 3) := by decide +kernel
theorem dX11_findOverlay_19 : decode cX11_findOverlay 19 = .ok (.ifCond .ne 5, 3) := by decide +kernel
theorem dX11_findOverlay_22 : decode cX11_findOverlay 22 = .ok (.aconst_null, 1) := by decide +kernel
theorem dX11_findOverlay_23 : decode cX11_findOverlay 23 = .ok (.areturn, 1) := by decide +kernel
theorem dX11_findOverlay_24 : decode cX11_findOverlay 24 = .ok (.aload_n 3, 1) := by decide +kernel
theorem dX11_findOverlay_25 : decode cX11_findOverlay 25 = .ok (.iload_n 2, 1) := by decide +kernel
theorem dX11_findOverlay_26 : decode cX11_findOverlay 26 = .ok (.invokevirtual 162, 3) := by decide +kernel
theorem dX11_findOverlay_29 : decode cX11_findOverlay 29 = .ok (.areturn, 1) := by decide +kernel
theorem dX11_gram_0 : decode cX11_gram 0 = .ok (.aload_n 0, 1) := by decide +kernel
theorem dX11_gram_1 : decode cX11_gram 1 = .ok (.getfield 35, 3) := by decide +kernel
theorem dX11_gram_4 : decode cX11_gram 4 = .ok (.iload_n 1, 1) := by decide +kernel
theorem dX11_gram_5 : decode cX11_gram 5 = .ok (.invokevirtual 166, 3) := by decide +kernel
theorem dX11_gram_8 : decode cX11_gram 8 = .ok (.astore 6, 2) := by decide +kernel
theorem dX11_gram_10 : decode cX11_gram 10 = .ok (.aload 6, 2) := by decide +kernel
theorem dX11_gram_12 : decode cX11_gram 12 = .ok (.ifnull 24, 3) := by decide +kernel
theorem dX11_gram_15 : decode cX11_gram 15 = .ok (.iload_n 2, 1) := by decide +kernel
theorem dX11_gram_16 : decode cX11_gram 16 = .ok (.iconst 1, 1) := by decide +kernel
theorem dX11_gram_17 : decode cX11_gram 17 = .ok (.bipush 12, 2) := by decide +kernel
theorem dX11_gram_19 : decode cX11_gram 19 = .ok (.invokestatic 65, 3) := by decide +kernel
theorem dX11_gram_22 : decode cX11_gram 22 = .ok (.ifCond .eq 14, 3) := by decide +kernel
theorem dX11_gram_25 : decode cX11_gram 25 = .ok (.iload 5, 2) := by decide +kernel
theorem dX11_gram_27 : decode cX11_gram 27 = .ok (.iconst 1, 1) := by decide +kernel
theorem dX11_gram_28 : decode cX11_gram 28 = .ok (.bipush 8, 2) := by decide +kernel
theorem dX11_gram_30 : decode cX11_gram 30 = .ok (.invokestatic 65, 3) := by decide +kernel
theorem dX11_gram_33 : decode cX11_gram 33 = .ok (.ifCond .ne 5, 3) := by decide +kernel
theorem dX11_gram_36 : decode cX11_gram 36 = .ok (.iconst (-1), 1) := by decide +kernel
theorem dX11_gram_37 : decode cX11_gram 37 = .ok (.ireturn, 1) := by decide +kernel
theorem dX11_gram_38 : decode cX11_gram 38 = .ok (.iload_n 2, 1) := by decide +kernel
theorem dX11_gram_39 : decode cX11_gram 39 = .ok (.iload_n 3, 1) := by decide +kernel
theorem dX11_gram_40 : decode cX11_gram 40 = .ok (.iload 5, 2) := by decide +kernel
theorem dX11_gram_42 : decode cX11_gram 42 = .ok (.invokestatic 169, 3) := by decide +kernel
theorem dX11_gram_45 : decode cX11_gram 45 = .ok (.ifCond .eq 24, 3) := by decide +kernel
theorem dX11_gram_48 : decode cX11_gram 48 = .ok (.iload 4, 2) := by decide +kernel
theorem dX11_gram_50 : decode cX11_gram 50 = .ok (.iconst 0, 1) := by decide +kernel
theorem dX11_gram_51 : decode cX11_gram 51 = .ok (.iload_n 2, 1) := by decide +kernel
theorem dX11_gram_52 : decode cX11_gram 52 = .ok (.bipush 10, 2) := by decide +kernel
theorem dX11_gram_54 : decode cX11_gram 54 = .ok (.if_icmp .ge 8, 3) := by decide +kernel
theorem dX11_gram_57 : decode cX11_gram 57 = .ok (.bipush 15, 2) := by decide +kernel
theorem dX11_gram_59 : decode cX11_gram 59 = .ok (.goto 4, 3) := by decide +kernel
theorem dX11_gram_62 : decode cX11_gram 62 = .ok (.iconst 0, 1) := by decide +kernel
theorem dX11_gram_63 : decode cX11_gram 63 = .ok (.invokestatic 65, 3) := by decide +kernel
theorem dX11_gram_66 : decode cX11_gram 66 = .ok (.ifCond .ne 5, 3) := by decide +kernel
theorem dX11_gram_69 : decode cX11_gram 69 = .ok (.iconst (-1), 1) := by decide +kernel
theorem dX11_gram_70 : decode cX11_gram 70 = .ok (.ireturn, 1) := by decide +kernel
theorem dX11_gram_71 : decode cX11_gram 71 = .ok (.aload 6, 2) := by decide +kernel
theorem dX11_gram_73 : decode cX11_gram 73 = .ok (.getfield 172, 3) := by decide +kernel
theorem dX11_gram_76 : decode cX11_gram 76 = .ok (.istore 7, 2) := by decide +kernel
theorem dX11_gram_78 : decode cX11_gram 78 = .ok (.aload 6, 2) := by decide +kernel
theorem dX11_gram_80 : decode cX11_gram 80 = .ok (.iload_n 2, 1) := by decide +kernel
theorem dX11_gram_81 : decode cX11_gram 81 = .ok (.iload_n 3, 1) := by decide +kernel
theorem dX11_gram_82 : decode cX11_gram 82 = .ok (.iload 4, 2) := by decide +kernel
theorem dX11_gram_84 : decode cX11_gram 84 = .ok (.iload 5, 2) := by decide +kernel
theorem dX11_gram_86 : decode cX11_gram 86 = .ok (.invokevirtual 177, 3) := by decide +kernel
theorem dX11_gram_89 : decode cX11_gram 89 = .ok (.iload 7, 2) := by decide +kernel
theorem dX11_gram_91 : decode cX11_gram 91 = .ok (.ireturn, 1) := by decide +kernel
theorem dX11_isAddress_0 : decode cX11_isAddress 0 = .ok (.iload_n 0, 1) := by decide +kernel
theorem dX11_isAddress_1 : decode cX11_isAddress 1 = .ok (.iconst 3, 1) := by decide +kernel
theorem dX11_isAddress_2 : decode cX11_isAddress 2 = .ok (.if_icmp .gt 11, 3) := by decide +kernel
theorem dX11_isAddress_5 : decode cX11_isAddress 5 = .ok (.iload_n 1, 1) := by decide +kernel
theorem dX11_isAddress_6 : decode cX11_isAddress 6 = .ok (.iconst 0, 1) := by decide +kernel
theorem dX11_isAddress_7 : decode cX11_isAddress 7 = .ok (.bipush 7, 2) := by decide +kernel
theorem dX11_isAddress_9 : decode cX11_isAddress 9 = .ok (.invokestatic 65, 3) := by decide +kernel
theorem dX11_isAddress_12 : decode cX11_isAddress 12 = .ok (.ireturn, 1) := by decide +kernel
theorem dX11_isAddress_13 : decode cX11_isAddress 13 = .ok (.iload_n 0, 1) := by decide +kernel
theorem dX11_isAddress_14 : decode cX11_isAddress 14 = .ok (.bipush 6, 2) := by decide +kernel
theorem dX11_isAddress_16 : decode cX11_isAddress 16 = .ok (.if_icmp .gt 11, 3) := by decide +kernel
theorem dX11_isAddress_19 : decode cX11_isAddress 19 = .ok (.iload_n 1, 1) := by decide +kernel
theorem dX11_isAddress_20 : decode cX11_isAddress 20 = .ok (.iconst 1, 1) := by decide +kernel
theorem dX11_isAddress_21 : decode cX11_isAddress 21 = .ok (.bipush 99, 2) := by decide +kernel
theorem dX11_isAddress_23 : decode cX11_isAddress 23 = .ok (.invokestatic 65, 3) := by decide +kernel
theorem dX11_isAddress_26 : decode cX11_isAddress 26 = .ok (.ireturn, 1) := by decide +kernel
theorem dX11_isAddress_27 : decode cX11_isAddress 27 = .ok (.iload_n 1, 1) := by decide +kernel
theorem dX11_isAddress_28 : decode cX11_isAddress 28 = .ok (.iconst 0, 1) := by decide +kernel
theorem dX11_isAddress_29 : decode cX11_isAddress 29 = .ok (.iload_n 0, 1) := by decide +kernel
theorem dX11_isAddress_30 : decode cX11_isAddress 30 = .ok (.bipush 9, 2) := by decide +kernel
theorem dX11_isAddress_32 : decode cX11_isAddress 32 = .ok (.if_icmp .gt 7, 3) := by decide +kernel
theorem dX11_isAddress_35 : decode cX11_isAddress 35 = .ok (.iconst 0, 1) := by decide +kernel
theorem dX11_isAddress_36 : decode cX11_isAddress 36 = .ok (.goto 7, 3) := by decide +kernel
theorem dX11_isAddress_39 : decode cX11_isAddress 39 = .ok (.bipush 32, 2) := by decide +kernel
theorem dX11_isAddress_41 : decode cX11_isAddress 41 = .ok (.iload_n 2, 1) := by decide +kernel
theorem dX11_isAddress_42 : decode cX11_isAddress 42 = .ok (.isub, 1) := by decide +kernel
theorem dX11_isAddress_43 : decode cX11_isAddress 43 = .ok (.invokestatic 65, 3) := by decide +kernel
theorem dX11_isAddress_46 : decode cX11_isAddress 46 = .ok (.ireturn, 1) := by decide +kernel
theorem dX11_clear_0 : decode cX11_clear 0 = .ok (.aload_n 0, 1) := by decide +kernel
theorem dX11_clear_1 : decode cX11_clear 1 = .ok (.getfield 35, 3) := by decide +kernel
theorem dX11_clear_4 : decode cX11_clear 4 = .ok (.iload_n 1, 1) := by decide +kernel
theorem dX11_clear_5 : decode cX11_clear 5 = .ok (.invokevirtual 166, 3) := by decide +kernel
theorem dX11_clear_8 : decode cX11_clear 8 = .ok (.astore_n 2, 1) := by decide +kernel
theorem dX11_clear_9 : decode cX11_clear 9 = .ok (.aload_n 2, 1) := by decide +kernel
theorem dX11_clear_10 : decode cX11_clear 10 = .ok (.ifnonnull 5, 3) := by decide +kernel
theorem dX11_clear_13 : decode cX11_clear 13 = .ok (.iconst (-1), 1) := by decide +kernel
theorem dX11_clear_14 : decode cX11_clear 14 = .ok (.ireturn, 1) := by decide +kernel
theorem dX11_clear_15 : decode cX11_clear 15 = .ok (.aload_n 2, 1) := by decide +kernel
theorem dX11_clear_16 : decode cX11_clear 16 = .ok (.getfield 172, 3) := by decide +kernel
theorem dX11_clear_19 : decode cX11_clear 19 = .ok (.ifCond .ne 6, 3) := by decide +kernel
theorem dX11_clear_22 : decode cX11_clear 22 = .ok (.bipush (-2), 2) := by decide +kernel
theorem dX11_clear_24 : decode cX11_clear 24 = .ok (.ireturn, 1) := by decide +kernel
theorem dX11_clear_25 : decode cX11_clear 25 = .ok (.aload_n 2, 1) := by decide +kernel
theorem dX11_clear_26 : decode cX11_clear 26 = .ok (.getfield 172, 3) := by decide +kernel
theorem dX11_clear_29 : decode cX11_clear 29 = .ok (.istore_n 3, 1) := by decide +kernel
theorem dX11_clear_30 : decode cX11_clear 30 = .ok (.aload_n 2, 1) := by decide +kernel
theorem dX11_clear_31 : decode cX11_clear 31 = .ok (.iconst 0, 1) := by decide +kernel
theorem dX11_clear_32 : decode cX11_clear 32 = .ok (.putfield 172, 3) := by decide +kernel
theorem dX11_clear_35 : decode cX11_clear 35 = .ok (.iload_n 3, 1) := by decide +kernel
theorem dX11_clear_36 : decode cX11_clear 36 = .ok (.ireturn, 1) := by decide +kernel
theorem dX11_put_0 : decode cX11_put 0 = .ok (.aload_n 0, 1) := by decide +kernel
theorem dX11_put_1 : decode cX11_put 1 = .ok (.getfield 35, 3) := by decide +kernel
theorem dX11_put_4 : decode cX11_put 4 = .ok (.iload_n 1, 1) := by decide +kernel
theorem dX11_put_5 : decode cX11_put 5 = .ok (.invokevirtual 166, 3) := by decide +kernel
theorem dX11_put_8 : decode cX11_put 8 = .ok (.astore 4, 2) := by decide +kernel
theorem dX11_put_10 : decode cX11_put 10 = .ok (.aload 4, 2) := by decide +kernel
theorem dX11_put_12 : decode cX11_put 12 = .ok (.ifnull 20, 3) := by decide +kernel
theorem dX11_put_15 : decode cX11_put 15 = .ok (.iload_n 2, 1) := by decide +kernel
theorem dX11_put_16 : decode cX11_put 16 = .ok (.iconst 0, 1) := by decide +kernel
theorem dX11_put_17 : decode cX11_put 17 = .ok (.bipush 7, 2) := by decide +kernel
theorem dX11_put_19 : decode cX11_put 19 = .ok (.invokestatic 65, 3) := by decide +kernel
theorem dX11_put_22 : decode cX11_put 22 = .ok (.ifCond .eq 10, 3) := by decide +kernel
theorem dX11_put_25 : decode cX11_put 25 = .ok (.iload_n 3, 1) := by decide +kernel
theorem dX11_put_26 : decode cX11_put 26 = .ok (.invokestatic 116, 3) := by decide +kernel
theorem dX11_put_29 : decode cX11_put 29 = .ok (.ifCond .ne 5, 3) := by decide +kernel
theorem dX11_put_32 : decode cX11_put 32 = .ok (.iconst (-1), 1) := by decide +kernel
theorem dX11_put_33 : decode cX11_put 33 = .ok (.ireturn, 1) := by decide +kernel
theorem dX11_put_34 : decode cX11_put 34 = .ok (.aload 4, 2) := by decide +kernel
theorem dX11_put_36 : decode cX11_put 36 = .ok (.getfield 181, 3) := by decide +kernel
theorem dX11_put_39 : decode cX11_put 39 = .ok (.iload_n 2, 1) := by decide +kernel
theorem dX11_put_40 : decode cX11_put 40 = .ok (.iaload, 1) := by decide +kernel
theorem dX11_put_41 : decode cX11_put 41 = .ok (.istore 5, 2) := by decide +kernel
theorem dX11_put_43 : decode cX11_put 43 = .ok (.aload 4, 2) := by decide +kernel
theorem dX11_put_45 : decode cX11_put 45 = .ok (.getfield 181, 3) := by decide +kernel
theorem dX11_put_48 : decode cX11_put 48 = .ok (.iload_n 2, 1) := by decide +kernel
theorem dX11_put_49 : decode cX11_put 49 = .ok (.iload_n 3, 1) := by decide +kernel
theorem dX11_put_50 : decode cX11_put 50 = .ok (.iastore, 1) := by decide +kernel
theorem dX11_put_51 : decode cX11_put 51 = .ok (.iload 5, 2) := by decide +kernel
theorem dX11_put_53 : decode cX11_put 53 = .ok (.ireturn, 1) := by decide +kernel
theorem dX11_send_0 : decode cX11_send 0 = .ok (.aload_n 0, 1) := by decide +kernel
theorem dX11_send_1 : decode cX11_send 1 = .ok (.getfield 35, 3) := by decide +kernel
theorem dX11_send_4 : decode cX11_send 4 = .ok (.invokevirtual 182, 3) := by decide +kernel
theorem dX11_send_7 : decode cX11_send 7 = .ok (.ifCond .eq 13, 3) := by decide +kernel
theorem dX11_send_10 : decode cX11_send 10 = .ok (.aload_n 0, 1) := by decide +kernel
theorem dX11_send_11 : decode cX11_send 11 = .ok (.getfield 35, 3) := by decide +kernel
theorem dX11_send_14 : decode cX11_send 14 = .ok (.invokevirtual 185, 3) := by decide +kernel
theorem dX11_send_17 : decode cX11_send 17 = .ok (.goto 5, 3) := by decide +kernel
theorem dX11_send_20 : decode cX11_send 20 = .ok (.bipush (-2), 2) := by decide +kernel
theorem dX11_send_22 : decode cX11_send 22 = .ok (.ireturn, 1) := by decide +kernel
theorem dX11_home_0 : decode cX11_home 0 = .ok (.aload_n 0, 1) := by decide +kernel
theorem dX11_home_1 : decode cX11_home 1 = .ok (.getfield 35, 3) := by decide +kernel
theorem dX11_home_4 : decode cX11_home 4 = .ok (.iload_n 1, 1) := by decide +kernel
theorem dX11_home_5 : decode cX11_home 5 = .ok (.invokevirtual 166, 3) := by decide +kernel
theorem dX11_home_8 : decode cX11_home 8 = .ok (.astore_n 3, 1) := by decide +kernel
theorem dX11_home_9 : decode cX11_home 9 = .ok (.aload_n 3, 1) := by decide +kernel
theorem dX11_home_10 : decode cX11_home 10 = .ok (.ifnull 13, 3) := by decide +kernel
theorem dX11_home_13 : decode cX11_home 13 = .ok (.iload_n 2, 1) := by decide +kernel
theorem dX11_home_14 : decode cX11_home 14 = .ok (.iconst (-1), 1) := by decide +kernel
theorem dX11_home_15 : decode cX11_home 15 = .ok (.bipush 7, 2) := by decide +kernel
theorem dX11_home_17 : decode cX11_home 17 = .ok (.invokestatic 65, 3) := by decide +kernel
theorem dX11_home_20 : decode cX11_home 20 = .ok (.ifCond .ne 5, 3) := by decide +kernel
theorem dX11_home_23 : decode cX11_home 23 = .ok (.iconst (-1), 1) := by decide +kernel
theorem dX11_home_24 : decode cX11_home 24 = .ok (.ireturn, 1) := by decide +kernel
theorem dX11_home_25 : decode cX11_home 25 = .ok (.aload_n 3, 1) := by decide +kernel
theorem dX11_home_26 : decode cX11_home 26 = .ok (.getfield 188, 3) := by decide +kernel
theorem dX11_home_29 : decode cX11_home 29 = .ok (.ifCond .eq 11, 3) := by decide +kernel
theorem dX11_home_32 : decode cX11_home 32 = .ok (.iload_n 2, 1) := by decide +kernel
theorem dX11_home_33 : decode cX11_home 33 = .ok (.aload_n 3, 1) := by decide +kernel
theorem dX11_home_34 : decode cX11_home 34 = .ok (.getfield 188, 3) := by decide +kernel
theorem dX11_home_37 : decode cX11_home 37 = .ok (.if_icmp .lt 6, 3) := by decide +kernel
theorem dX11_home_40 : decode cX11_home 40 = .ok (.bipush (-4), 2) := by decide +kernel
theorem dX11_home_42 : decode cX11_home 42 = .ok (.ireturn, 1) := by decide +kernel
theorem dX11_home_43 : decode cX11_home 43 = .ok (.iload_n 2, 1) := by decide +kernel
theorem dX11_home_44 : decode cX11_home 44 = .ok (.ifCond .ge 10, 3) := by decide +kernel
theorem dX11_home_47 : decode cX11_home 47 = .ok (.aload_n 3, 1) := by decide +kernel
theorem dX11_home_48 : decode cX11_home 48 = .ok (.getfield 191, 3) := by decide +kernel
theorem dX11_home_51 : decode cX11_home 51 = .ok (.goto 9, 3) := by decide +kernel
theorem dX11_home_54 : decode cX11_home 54 = .ok (.aload_n 3, 1) := by decide +kernel
theorem dX11_home_55 : decode cX11_home 55 = .ok (.getfield 194, 3) := by decide +kernel
theorem dX11_home_58 : decode cX11_home 58 = .ok (.iload_n 2, 1) := by decide +kernel
theorem dX11_home_59 : decode cX11_home 59 = .ok (.iaload, 1) := by decide +kernel
theorem dX11_home_60 : decode cX11_home 60 = .ok (.ireturn, 1) := by decide +kernel
theorem dX11_expected_0 : decode cX11_expected 0 = .ok (.aload_n 0, 1) := by decide +kernel
theorem dX11_expected_1 : decode cX11_expected 1 = .ok (.getfield 35, 3) := by decide +kernel
theorem dX11_expected_4 : decode cX11_expected 4 = .ok (.iload_n 1, 1) := by decide +kernel
theorem dX11_expected_5 : decode cX11_expected 5 = .ok (.invokevirtual 166, 3) := by decide +kernel
theorem dX11_expected_8 : decode cX11_expected 8 = .ok (.astore_n 2, 1) := by decide +kernel
theorem dX11_expected_9 : decode cX11_expected 9 = .ok (.aload_n 2, 1) := by decide +kernel
theorem dX11_expected_10 : decode cX11_expected 10 = .ok (.ifnonnull 5, 3) := by decide +kernel
theorem dX11_expected_13 : decode cX11_expected 13 = .ok (.iconst (-1), 1) := by decide +kernel
theorem dX11_expected_14 : decode cX11_expected 14 = .ok (.ireturn, 1) := by decide +kernel
theorem dX11_expected_15 : decode cX11_expected 15 = .ok (.aload_n 2, 1) := by decide +kernel
theorem dX11_expected_16 : decode cX11_expected 16 = .ok (.getfield 172, 3) := by decide +kernel
theorem dX11_expected_19 : decode cX11_expected 19 = .ok (.ifCond .ne 8, 3) := by decide +kernel
theorem dX11_expected_22 : decode cX11_expected 22 = .ok (.bipush (-4), 2) := by decide +kernel
theorem dX11_expected_24 : decode cX11_expected 24 = .ok (.goto 11, 3) := by decide +kernel
theorem dX11_expected_27 : decode cX11_expected 27 = .ok (.aload_n 0, 1) := by decide +kernel
theorem dX11_expected_28 : decode cX11_expected 28 = .ok (.getfield 35, 3) := by decide +kernel
theorem dX11_expected_31 : decode cX11_expected 31 = .ok (.aload_n 2, 1) := by decide +kernel
theorem dX11_expected_32 : decode cX11_expected 32 = .ok (.invokevirtual 197, 3) := by decide +kernel
theorem dX11_expected_35 : decode cX11_expected 35 = .ok (.ireturn, 1) := by decide +kernel
theorem dX11_tell_0 : decode cX11_tell 0 = .ok (.aload_n 0, 1) := by decide +kernel
theorem dX11_tell_1 : decode cX11_tell 1 = .ok (.getfield 19, 3) := by decide +kernel
theorem dX11_tell_4 : decode cX11_tell 4 = .ok (.iload_n 1, 1) := by decide +kernel
theorem dX11_tell_5 : decode cX11_tell 5 = .ok (.invokevirtual 79, 3) := by decide +kernel
theorem dX11_tell_8 : decode cX11_tell 8 = .ok (.astore_n 3, 1) := by decide +kernel
theorem dX11_tell_9 : decode cX11_tell 9 = .ok (.aload_n 3, 1) := by decide +kernel
theorem dX11_tell_10 : decode cX11_tell 10 = .ok (.ifnull 10, 3) := by decide +kernel
theorem dX11_tell_13 : decode cX11_tell 13 = .ok (.iload_n 2, 1) := by decide +kernel
theorem dX11_tell_14 : decode cX11_tell 14 = .ok (.invokestatic 201, 3) := by decide +kernel
theorem dX11_tell_17 : decode cX11_tell 17 = .ok (.ifCond .ne 5, 3) := by decide +kernel
theorem dX11_tell_20 : decode cX11_tell 20 = .ok (.iconst (-1), 1) := by decide +kernel
theorem dX11_tell_21 : decode cX11_tell 21 = .ok (.ireturn, 1) := by decide +kernel
theorem dX11_tell_22 : decode cX11_tell 22 = .ok (.aload_n 3, 1) := by decide +kernel
theorem dX11_tell_23 : decode cX11_tell 23 = .ok (.getfield 204, 3) := by decide +kernel
theorem dX11_tell_26 : decode cX11_tell 26 = .ok (.getfield 208, 3) := by decide +kernel
theorem dX11_tell_29 : decode cX11_tell 29 = .ok (.iload_n 2, 1) := by decide +kernel
theorem dX11_tell_30 : decode cX11_tell 30 = .ok (.invokevirtual 214, 3) := by decide +kernel
theorem dX11_tell_33 : decode cX11_tell 33 = .ok (.ifCond .eq 16, 3) := by decide +kernel
theorem dX11_tell_36 : decode cX11_tell 36 = .ok (.aload_n 3, 1) := by decide +kernel
theorem dX11_tell_37 : decode cX11_tell 37 = .ok (.getfield 204, 3) := by decide +kernel
theorem dX11_tell_40 : decode cX11_tell 40 = .ok (.getfield 208, 3) := by decide +kernel
theorem dX11_tell_43 : decode cX11_tell 43 = .ok (.invokevirtual 218, 3) := by decide +kernel
theorem dX11_tell_46 : decode cX11_tell 46 = .ok (.goto 5, 3) := by decide +kernel
theorem dX11_tell_49 : decode cX11_tell 49 = .ok (.bipush (-3), 2) := by decide +kernel
theorem dX11_tell_51 : decode cX11_tell 51 = .ok (.ireturn, 1) := by decide +kernel
theorem dX11_take_0 : decode cX11_take 0 = .ok (.aload_n 0, 1) := by decide +kernel
theorem dX11_take_1 : decode cX11_take 1 = .ok (.getfield 19, 3) := by decide +kernel
theorem dX11_take_4 : decode cX11_take 4 = .ok (.iload_n 1, 1) := by decide +kernel
theorem dX11_take_5 : decode cX11_take 5 = .ok (.invokevirtual 79, 3) := by decide +kernel
theorem dX11_take_8 : decode cX11_take 8 = .ok (.astore_n 2, 1) := by decide +kernel
theorem dX11_take_9 : decode cX11_take 9 = .ok (.aload_n 2, 1) := by decide +kernel
theorem dX11_take_10 : decode cX11_take 10 = .ok (.ifnonnull 5, 3) := by decide +kernel
theorem dX11_take_13 : decode cX11_take 13 = .ok (.iconst (-1), 1) := by decide +kernel
theorem dX11_take_14 : decode cX11_take 14 = .ok (.ireturn, 1) := by decide +kernel
theorem dX11_take_15 : decode cX11_take 15 = .ok (.aload_n 2, 1) := by decide +kernel
theorem dX11_take_16 : decode cX11_take 16 = .ok (.getfield 204, 3) := by decide +kernel
theorem dX11_take_19 : decode cX11_take 19 = .ok (.getfield 219, 3) := by decide +kernel
theorem dX11_take_22 : decode cX11_take 22 = .ok (.invokevirtual 222, 3) := by decide +kernel
theorem dX11_take_25 : decode cX11_take 25 = .ok (.istore_n 3, 1) := by decide +kernel
theorem dX11_take_26 : decode cX11_take 26 = .ok (.iload_n 3, 1) := by decide +kernel
theorem dX11_take_27 : decode cX11_take 27 = .ok (.ifCond .ne 8, 3) := by decide +kernel
theorem dX11_take_30 : decode cX11_take 30 = .ok (.bipush (-4), 2) := by decide +kernel
theorem dX11_take_32 : decode cX11_take 32 = .ok (.goto 4, 3) := by decide +kernel
theorem dX11_take_35 : decode cX11_take 35 = .ok (.iload_n 3, 1) := by decide +kernel
theorem dX11_take_36 : decode cX11_take 36 = .ok (.ireturn, 1) := by decide +kernel
theorem dX11_fetch_0 : decode cX11_fetch 0 = .ok (.aload_n 0, 1) := by decide +kernel
theorem dX11_fetch_1 : decode cX11_fetch 1 = .ok (.getfield 19, 3) := by decide +kernel
theorem dX11_fetch_4 : decode cX11_fetch 4 = .ok (.iload_n 1, 1) := by decide +kernel
theorem dX11_fetch_5 : decode cX11_fetch 5 = .ok (.invokevirtual 79, 3) := by decide +kernel
theorem dX11_fetch_8 : decode cX11_fetch 8 = .ok (.astore_n 2, 1) := by decide +kernel
theorem dX11_fetch_9 : decode cX11_fetch 9 = .ok (.aload_n 2, 1) := by decide +kernel
theorem dX11_fetch_10 : decode cX11_fetch 10 = .ok (.ifnonnull 5, 3) := by decide +kernel
theorem dX11_fetch_13 : decode cX11_fetch 13 = .ok (.iconst (-1), 1) := by decide +kernel
theorem dX11_fetch_14 : decode cX11_fetch 14 = .ok (.ireturn, 1) := by decide +kernel
theorem dX11_fetch_15 : decode cX11_fetch 15 = .ok (.aload_n 0, 1) := by decide +kernel
theorem dX11_fetch_16 : decode cX11_fetch 16 = .ok (.getfield 19, 3) := by decide +kernel
theorem dX11_fetch_19 : decode cX11_fetch 19 = .ok (.iload_n 1, 1) := by decide +kernel
theorem dX11_fetch_20 : decode cX11_fetch 20 = .ok (.invokevirtual 225, 3) := by decide +kernel
theorem dX11_fetch_23 : decode cX11_fetch 23 = .ok (.ifCond .ne 6, 3) := by decide +kernel
theorem dX11_fetch_26 : decode cX11_fetch 26 = .ok (.bipush (-2), 2) := by decide +kernel
theorem dX11_fetch_28 : decode cX11_fetch 28 = .ok (.ireturn, 1) := by decide +kernel
theorem dX11_fetch_29 : decode cX11_fetch 29 = .ok (.aload_n 2, 1) := by decide +kernel
theorem dX11_fetch_30 : decode cX11_fetch 30 = .ok (.getfield 204, 3) := by decide +kernel
theorem dX11_fetch_33 : decode cX11_fetch 33 = .ok (.invokevirtual 228, 3) := by decide +kernel
theorem dX11_fetch_36 : decode cX11_fetch 36 = .ok (.istore_n 3, 1) := by decide +kernel
theorem dX11_fetch_37 : decode cX11_fetch 37 = .ok (.aload_n 0, 1) := by decide +kernel
theorem dX11_fetch_38 : decode cX11_fetch 38 = .ok (.getfield 35, 3) := by decide +kernel
theorem dX11_fetch_41 : decode cX11_fetch 41 = .ok (.invokevirtual 231, 3) := by decide +kernel
theorem dX11_fetch_44 : decode cX11_fetch 44 = .ok (.ifCond .ne 6, 3) := by decide +kernel
theorem dX11_fetch_47 : decode cX11_fetch 47 = .ok (.bipush (-5), 2) := by decide +kernel
theorem dX11_fetch_49 : decode cX11_fetch 49 = .ok (.ireturn, 1) := by decide +kernel
theorem dX11_fetch_50 : decode cX11_fetch 50 = .ok (.iload_n 3, 1) := by decide +kernel
theorem dX11_fetch_51 : decode cX11_fetch 51 = .ok (.ifCond .ne 6, 3) := by decide +kernel
theorem dX11_fetch_54 : decode cX11_fetch 54 = .ok (.bipush (-4), 2) := by decide +kernel
theorem dX11_fetch_56 : decode cX11_fetch 56 = .ok (.ireturn, 1) := by decide +kernel
theorem dX11_fetch_57 : decode cX11_fetch 57 = .ok (.aload_n 2, 1) := by decide +kernel
theorem dX11_fetch_58 : decode cX11_fetch 58 = .ok (.getfield 204, 3) := by decide +kernel
theorem dX11_fetch_61 : decode cX11_fetch 61 = .ok (.invokevirtual 234, 3) := by decide +kernel
theorem dX11_fetch_64 : decode cX11_fetch 64 = .ok (.iload_n 3, 1) := by decide +kernel
theorem dX11_fetch_65 : decode cX11_fetch 65 = .ok (.ireturn, 1) := by decide +kernel
theorem dX11_push_0 : decode cX11_push 0 = .ok (.aload_n 0, 1) := by decide +kernel
theorem dX11_push_1 : decode cX11_push 1 = .ok (.getfield 19, 3) := by decide +kernel
theorem dX11_push_4 : decode cX11_push 4 = .ok (.iload_n 1, 1) := by decide +kernel
theorem dX11_push_5 : decode cX11_push 5 = .ok (.invokevirtual 79, 3) := by decide +kernel
theorem dX11_push_8 : decode cX11_push 8 = .ok (.astore_n 3, 1) := by decide +kernel
theorem dX11_push_9 : decode cX11_push 9 = .ok (.aload_n 3, 1) := by decide +kernel
theorem dX11_push_10 : decode cX11_push 10 = .ok (.ifnull 10, 3) := by decide +kernel
theorem dX11_push_13 : decode cX11_push 13 = .ok (.iload_n 2, 1) := by decide +kernel
theorem dX11_push_14 : decode cX11_push 14 = .ok (.invokestatic 201, 3) := by decide +kernel
theorem dX11_push_17 : decode cX11_push 17 = .ok (.ifCond .ne 5, 3) := by decide +kernel
theorem dX11_push_20 : decode cX11_push 20 = .ok (.iconst (-1), 1) := by decide +kernel
theorem dX11_push_21 : decode cX11_push 21 = .ok (.ireturn, 1) := by decide +kernel
theorem dX11_push_22 : decode cX11_push 22 = .ok (.aload_n 0, 1) := by decide +kernel
theorem dX11_push_23 : decode cX11_push 23 = .ok (.getfield 19, 3) := by decide +kernel
theorem dX11_push_26 : decode cX11_push 26 = .ok (.iload_n 1, 1) := by decide +kernel
theorem dX11_push_27 : decode cX11_push 27 = .ok (.invokevirtual 225, 3) := by decide +kernel
theorem dX11_push_30 : decode cX11_push 30 = .ok (.ifCond .eq 13, 3) := by decide +kernel
theorem dX11_push_33 : decode cX11_push 33 = .ok (.aload_n 3, 1) := by decide +kernel
theorem dX11_push_34 : decode cX11_push 34 = .ok (.getfield 204, 3) := by decide +kernel
theorem dX11_push_37 : decode cX11_push 37 = .ok (.getfield 237, 3) := by decide +kernel
theorem dX11_push_40 : decode cX11_push 40 = .ok (.ifCond .eq 6, 3) := by decide +kernel
theorem dX11_push_43 : decode cX11_push 43 = .ok (.bipush (-2), 2) := by decide +kernel
theorem dX11_push_45 : decode cX11_push 45 = .ok (.ireturn, 1) := by decide +kernel
theorem dX11_push_46 : decode cX11_push 46 = .ok (.aload_n 0, 1) := by decide +kernel
theorem dX11_push_47 : decode cX11_push 47 = .ok (.aload_n 3, 1) := by decide +kernel
theorem dX11_push_48 : decode cX11_push 48 = .ok (.getfield 204, 3) := by decide +kernel
theorem dX11_push_51 : decode cX11_push 51 = .ok (.iload_n 2, 1) := by decide +kernel
theorem dX11_push_52 : decode cX11_push 52 = .ok (.invokevirtual 240, 3) := by decide +kernel
theorem dX11_push_55 : decode cX11_push 55 = .ok (.ireturn, 1) := by decide +kernel
theorem dX11_again_0 : decode cX11_again 0 = .ok (.aload_n 0, 1) := by decide +kernel
theorem dX11_again_1 : decode cX11_again 1 = .ok (.getfield 19, 3) := by decide +kernel
theorem dX11_again_4 : decode cX11_again 4 = .ok (.iload_n 1, 1) := by decide +kernel
theorem dX11_again_5 : decode cX11_again 5 = .ok (.invokevirtual 79, 3) := by decide +kernel
theorem dX11_again_8 : decode cX11_again 8 = .ok (.astore_n 2, 1) := by decide +kernel
theorem dX11_again_9 : decode cX11_again 9 = .ok (.aload_n 2, 1) := by decide +kernel
theorem dX11_again_10 : decode cX11_again 10 = .ok (.ifnonnull 5, 3) := by decide +kernel
theorem dX11_again_13 : decode cX11_again 13 = .ok (.iconst (-1), 1) := by decide +kernel
theorem dX11_again_14 : decode cX11_again 14 = .ok (.ireturn, 1) := by decide +kernel
theorem dX11_again_15 : decode cX11_again 15 = .ok (.aload_n 0, 1) := by decide +kernel
theorem dX11_again_16 : decode cX11_again 16 = .ok (.getfield 19, 3) := by decide +kernel
theorem dX11_again_19 : decode cX11_again 19 = .ok (.iload_n 1, 1) := by decide +kernel
theorem dX11_again_20 : decode cX11_again 20 = .ok (.invokevirtual 225, 3) := by decide +kernel
theorem dX11_again_23 : decode cX11_again 23 = .ok (.ifCond .eq 13, 3) := by decide +kernel
theorem dX11_again_26 : decode cX11_again 26 = .ok (.aload_n 2, 1) := by decide +kernel
theorem dX11_again_27 : decode cX11_again 27 = .ok (.getfield 204, 3) := by decide +kernel
theorem dX11_again_30 : decode cX11_again 30 = .ok (.getfield 237, 3) := by decide +kernel
theorem dX11_again_33 : decode cX11_again 33 = .ok (.ifCond .ne 6, 3) := by decide +kernel
theorem dX11_again_36 : decode cX11_again 36 = .ok (.bipush (-2), 2) := by decide +kernel
theorem dX11_again_38 : decode cX11_again 38 = .ok (.ireturn, 1) := by decide +kernel
theorem dX11_again_39 : decode cX11_again 39 = .ok (.aload_n 0, 1) := by decide +kernel
theorem dX11_again_40 : decode cX11_again 40 = .ok (.aload_n 2, 1) := by decide +kernel
theorem dX11_again_41 : decode cX11_again 41 = .ok (.getfield 204, 3) := by decide +kernel
theorem dX11_again_44 : decode cX11_again 44 = .ok (.aload_n 2, 1) := by decide +kernel
theorem dX11_again_45 : decode cX11_again 45 = .ok (.getfield 204, 3) := by decide +kernel
theorem dX11_again_48 : decode cX11_again 48 = .ok (.getfield 237, 3) := by decide +kernel
theorem dX11_again_51 : decode cX11_again 51 = .ok (.invokevirtual 240, 3) := by decide +kernel
theorem dX11_again_54 : decode cX11_again 54 = .ok (.ireturn, 1) := by decide +kernel
theorem dX11_deliver_0 : decode cX11_deliver 0 = .ok (.aload_n 1, 1) := by decide +kernel
theorem dX11_deliver_1 : decode cX11_deliver 1 = .ok (.iload_n 2, 1) := by decide +kernel
theorem dX11_deliver_2 : decode cX11_deliver 2 = .ok (.invokevirtual 244, 3) := by decide +kernel
theorem dX11_deliver_5 : decode cX11_deliver 5 = .ok (.istore_n 3, 1) := by decide +kernel
theorem dX11_deliver_6 : decode cX11_deliver 6 = .ok (.aload_n 0, 1) := by decide +kernel
theorem dX11_deliver_7 : decode cX11_deliver 7 = .ok (.getfield 35, 3) := by decide +kernel
theorem dX11_deliver_10 : decode cX11_deliver 10 = .ok (.invokevirtual 231, 3) := by decide +kernel
theorem dX11_deliver_13 : decode cX11_deliver 13 = .ok (.ifCond .ne 11, 3) := by decide +kernel
theorem dX11_deliver_16 : decode cX11_deliver 16 = .ok (.aload_n 1, 1) := by decide +kernel
theorem dX11_deliver_17 : decode cX11_deliver 17 = .ok (.iload_n 2, 1) := by decide +kernel
theorem dX11_deliver_18 : decode cX11_deliver 18 = .ok (.putfield 237, 3) := by decide +kernel
theorem dX11_deliver_21 : decode cX11_deliver 21 = .ok (.bipush (-5), 2) := by decide +kernel
theorem dX11_deliver_23 : decode cX11_deliver 23 = .ok (.ireturn, 1) := by decide +kernel
theorem dX11_deliver_24 : decode cX11_deliver 24 = .ok (.iload_n 3, 1) := by decide +kernel
theorem dX11_deliver_25 : decode cX11_deliver 25 = .ok (.ifCond .ne 6, 3) := by decide +kernel
theorem dX11_deliver_28 : decode cX11_deliver 28 = .ok (.bipush (-3), 2) := by decide +kernel
theorem dX11_deliver_30 : decode cX11_deliver 30 = .ok (.ireturn, 1) := by decide +kernel
theorem dX11_deliver_31 : decode cX11_deliver 31 = .ok (.aload_n 1, 1) := by decide +kernel
theorem dX11_deliver_32 : decode cX11_deliver 32 = .ok (.invokevirtual 247, 3) := by decide +kernel
theorem dX11_deliver_35 : decode cX11_deliver 35 = .ok (.aload_n 1, 1) := by decide +kernel
theorem dX11_deliver_36 : decode cX11_deliver 36 = .ok (.getfield 219, 3) := by decide +kernel
theorem dX11_deliver_39 : decode cX11_deliver 39 = .ok (.invokevirtual 218, 3) := by decide +kernel
theorem dX11_deliver_42 : decode cX11_deliver 42 = .ok (.ireturn, 1) := by decide +kernel
theorem dX11_box_0 : decode cX11_box 0 = .ok (.aload_n 0, 1) := by decide +kernel
theorem dX11_box_1 : decode cX11_box 1 = .ok (.getfield 19, 3) := by decide +kernel
theorem dX11_box_4 : decode cX11_box 4 = .ok (.iload_n 1, 1) := by decide +kernel
theorem dX11_box_5 : decode cX11_box 5 = .ok (.invokevirtual 79, 3) := by decide +kernel
theorem dX11_box_8 : decode cX11_box 8 = .ok (.astore_n 3, 1) := by decide +kernel
theorem dX11_box_9 : decode cX11_box 9 = .ok (.aload_n 3, 1) := by decide +kernel
theorem dX11_box_10 : decode cX11_box 10 = .ok (.ifnull 13, 3) := by decide +kernel
theorem dX11_box_13 : decode cX11_box 13 = .ok (.iload_n 2, 1) := by decide +kernel
theorem dX11_box_14 : decode cX11_box 14 = .ok (.iconst 0, 1) := by decide +kernel
theorem dX11_box_15 : decode cX11_box 15 = .ok (.bipush 7, 2) := by decide +kernel
theorem dX11_box_17 : decode cX11_box 17 = .ok (.invokestatic 65, 3) := by decide +kernel
theorem dX11_box_20 : decode cX11_box 20 = .ok (.ifCond .ne 5, 3) := by decide +kernel
theorem dX11_box_23 : decode cX11_box 23 = .ok (.iconst (-1), 1) := by decide +kernel
theorem dX11_box_24 : decode cX11_box 24 = .ok (.ireturn, 1) := by decide +kernel
theorem dX11_box_25 : decode cX11_box 25 = .ok (.aload_n 3, 1) := by decide +kernel
theorem dX11_box_26 : decode cX11_box 26 = .ok (.getfield 204, 3) := by decide +kernel
theorem dX11_box_29 : decode cX11_box 29 = .ok (.iload_n 2, 1) := by decide +kernel
theorem dX11_box_30 : decode cX11_box 30 = .ok (.invokevirtual 250, 3) := by decide +kernel
theorem dX11_box_33 : decode cX11_box 33 = .ok (.ireturn, 1) := by decide +kernel
theorem dX11_later_0 : decode cX11_later 0 = .ok (.iload_n 1, 1) := by decide +kernel
theorem dX11_later_1 : decode cX11_later 1 = .ok (.iconst 1, 1) := by decide +kernel
theorem dX11_later_2 : decode cX11_later 2 = .ok (.sipush 9999, 3) := by decide +kernel
theorem dX11_later_5 : decode cX11_later 5 = .ok (.invokestatic 65, 3) := by decide +kernel
theorem dX11_later_8 : decode cX11_later 8 = .ok (.ifCond .ne 5, 3) := by decide +kernel
theorem dX11_later_11 : decode cX11_later 11 = .ok (.iconst (-1), 1) := by decide +kernel
theorem dX11_later_12 : decode cX11_later 12 = .ok (.ireturn, 1) := by decide +kernel
theorem dX11_later_13 : decode cX11_later 13 = .ok (.aload_n 0, 1) := by decide +kernel
theorem dX11_later_14 : decode cX11_later 14 = .ok (.getfield 19, 3) := by decide +kernel
theorem dX11_later_17 : decode cX11_later 17 = .ok (.iload_n 1, 1) := by decide +kernel
theorem dX11_later_18 : decode cX11_later 18 = .ok (.invokevirtual 253, 3) := by decide +kernel
theorem dX11_later_21 : decode cX11_later 21 = .ok (.aload_n 0, 1) := by decide +kernel
theorem dX11_later_22 : decode cX11_later 22 = .ok (.getfield 19, 3) := by decide +kernel
theorem dX11_later_25 : decode cX11_later 25 = .ok (.invokevirtual 105, 3) := by decide +kernel
theorem dX11_later_28 : decode cX11_later 28 = .ok (.ireturn, 1) := by decide +kernel
theorem dX11_level_0 : decode cX11_level 0 = .ok (.aload_n 0, 1) := by decide +kernel
theorem dX11_level_1 : decode cX11_level 1 = .ok (.getfield 28, 3) := by decide +kernel
theorem dX11_level_4 : decode cX11_level 4 = .ok (.invokevirtual 256, 3) := by decide +kernel
theorem dX11_level_7 : decode cX11_level 7 = .ok (.ireturn, 1) := by decide +kernel
theorem dX11_steer_0 : decode cX11_steer 0 = .ok (.iload_n 1, 1) := by decide +kernel
theorem dX11_steer_1 : decode cX11_steer 1 = .ok (.iconst 1, 1) := by decide +kernel
theorem dX11_steer_2 : decode cX11_steer 2 = .ok (.bipush 99, 2) := by decide +kernel
theorem dX11_steer_4 : decode cX11_steer 4 = .ok (.invokestatic 65, 3) := by decide +kernel
theorem dX11_steer_7 : decode cX11_steer 7 = .ok (.ifCond .eq 14, 3) := by decide +kernel
theorem dX11_steer_10 : decode cX11_steer 10 = .ok (.aload_n 0, 1) := by decide +kernel
theorem dX11_steer_11 : decode cX11_steer 11 = .ok (.getfield 28, 3) := by decide +kernel
theorem dX11_steer_14 : decode cX11_steer 14 = .ok (.iload_n 1, 1) := by decide +kernel
theorem dX11_steer_15 : decode cX11_steer 15 = .ok (.invokevirtual 259, 3) := by decide +kernel
theorem dX11_steer_18 : decode cX11_steer 18 = .ok (.goto 4, 3) := by decide +kernel
theorem dX11_steer_21 : decode cX11_steer 21 = .ok (.iconst (-1), 1) := by decide +kernel
theorem dX11_steer_22 : decode cX11_steer 22 = .ok (.ireturn, 1) := by decide +kernel
theorem dX11_clock_0 : decode cX11_clock 0 = .ok (.aload_n 0, 1) := by decide +kernel
theorem dX11_clock_1 : decode cX11_clock 1 = .ok (.getfield 19, 3) := by decide +kernel
theorem dX11_clock_4 : decode cX11_clock 4 = .ok (.iload_n 1, 1) := by decide +kernel
theorem dX11_clock_5 : decode cX11_clock 5 = .ok (.invokevirtual 79, 3) := by decide +kernel
theorem dX11_clock_8 : decode cX11_clock 8 = .ok (.astore_n 3, 1) := by decide +kernel
theorem dX11_clock_9 : decode cX11_clock 9 = .ok (.aload_n 3, 1) := by decide +kernel
theorem dX11_clock_10 : decode cX11_clock 10 = .ok (.ifnonnull 5, 3) := by decide +kernel
theorem dX11_clock_13 : decode cX11_clock 13 = .ok (.iconst (-1), 1) := by decide +kernel
theorem dX11_clock_14 : decode cX11_clock 14 = .ok (.ireturn, 1) := by decide +kernel
theorem dX11_clock_15 : decode cX11_clock 15 = .ok (.iload_n 2, 1) := by decide +kernel
theorem dX11_clock_16 : decode cX11_clock 16 = .ok (.tableswitch 78 0 3 #[32, 48, 64, 73], 32) := by decide +kernel
theorem dX11_clock_48 : decode cX11_clock 48 = .ok (.aload_n 3, 1) := by decide +kernel
theorem dX11_clock_49 : decode cX11_clock 49 = .ok (.aload_n 0, 1) := by decide +kernel
theorem dX11_clock_50 : decode cX11_clock 50 = .ok (.getfield 19, 3) := by decide +kernel
theorem dX11_clock_53 : decode cX11_clock 53 = .ok (.invokevirtual 105, 3) := by decide +kernel
theorem dX11_clock_56 : decode cX11_clock 56 = .ok (.invokevirtual 262, 3) := by decide +kernel
theorem dX11_clock_59 : decode cX11_clock 59 = .ok (.ldc_w 265, 3) := by decide +kernel
theorem dX11_clock_62 : decode cX11_clock 62 = .ok (.iadd, 1) := by decide +kernel
theorem dX11_clock_63 : decode cX11_clock 63 = .ok (.ireturn, 1) := by decide +kernel
theorem dX11_clock_64 : decode cX11_clock 64 = .ok (.aload_n 3, 1) := by decide +kernel
theorem dX11_clock_65 : decode cX11_clock 65 = .ok (.aload_n 0, 1) := by decide +kernel
theorem dX11_clock_66 : decode cX11_clock 66 = .ok (.getfield 19, 3) := by decide +kernel
theorem dX11_clock_69 : decode cX11_clock 69 = .ok (.invokevirtual 105, 3) := by decide +kernel
theorem dX11_clock_72 : decode cX11_clock 72 = .ok (.invokevirtual 266, 3) := by decide +kernel
theorem dX11_clock_75 : decode cX11_clock 75 = .ok (.ldc_w 265, 3) := by decide +kernel
theorem dX11_clock_78 : decode cX11_clock 78 = .ok (.iadd, 1) := by decide +kernel
theorem dX11_clock_79 : decode cX11_clock 79 = .ok (.ireturn, 1) := by decide +kernel
theorem dX11_clock_80 : decode cX11_clock 80 = .ok (.aload_n 3, 1) := by decide +kernel
theorem dX11_clock_81 : decode cX11_clock 81 = .ok (.getfield 269, 3) := by decide +kernel
theorem dX11_clock_84 : decode cX11_clock 84 = .ok (.ldc_w 265, 3) := by decide +kernel
theorem dX11_clock_87 : decode cX11_clock 87 = .ok (.iadd, 1) := by decide +kernel
theorem dX11_clock_88 : decode cX11_clock 88 = .ok (.ireturn, 1) := by decide +kernel
theorem dX11_clock_89 : decode cX11_clock 89 = .ok (.aload_n 3, 1) := by decide +kernel
theorem dX11_clock_90 : decode cX11_clock 90 = .ok (.getfield 272, 3) := by decide +kernel
theorem dX11_clock_93 : decode cX11_clock 93 = .ok (.ireturn, 1) := by decide +kernel
theorem dX11_clock_94 : decode cX11_clock 94 = .ok (.iconst (-1), 1) := by decide +kernel
theorem dX11_clock_95 : decode cX11_clock 95 = .ok (.ireturn, 1) := by decide +kernel
theorem dX11_apart_0 : decode cX11_apart 0 = .ok (.aload_n 0, 1) := by decide +kernel
theorem dX11_apart_1 : decode cX11_apart 1 = .ok (.getfield 28, 3) := by decide +kernel
theorem dX11_apart_4 : decode cX11_apart 4 = .ok (.invokevirtual 275, 3) := by decide +kernel
theorem dX11_apart_7 : decode cX11_apart 7 = .ok (.ireturn, 1) := by decide +kernel
theorem dX11_count_0 : decode cX11_count 0 = .ok (.iload_n 1, 1) := by decide +kernel
theorem dX11_count_1 : decode cX11_count 1 = .ok (.tableswitch 178 0 12 #[67, 75, 83, 91, 99, 107, 115, 123, 131, 139, 154, 162, 170], 67) := by decide +kernel
theorem dX11_count_68 : decode cX11_count 68 = .ok (.aload_n 0, 1) := by decide +kernel
theorem dX11_count_69 : decode cX11_count 69 = .ok (.getfield 19, 3) := by decide +kernel
theorem dX11_count_72 : decode cX11_count 72 = .ok (.invokevirtual 76, 3) := by decide +kernel
theorem dX11_count_75 : decode cX11_count 75 = .ok (.ireturn, 1) := by decide +kernel
theorem dX11_count_76 : decode cX11_count 76 = .ok (.aload_n 0, 1) := by decide +kernel
theorem dX11_count_77 : decode cX11_count 77 = .ok (.getfield 19, 3) := by decide +kernel
theorem dX11_count_80 : decode cX11_count 80 = .ok (.invokevirtual 105, 3) := by decide +kernel
theorem dX11_count_83 : decode cX11_count 83 = .ok (.ireturn, 1) := by decide +kernel
theorem dX11_count_84 : decode cX11_count 84 = .ok (.aload_n 0, 1) := by decide +kernel
theorem dX11_count_85 : decode cX11_count 85 = .ok (.getfield 19, 3) := by decide +kernel
theorem dX11_count_88 : decode cX11_count 88 = .ok (.invokevirtual 124, 3) := by decide +kernel
theorem dX11_count_91 : decode cX11_count 91 = .ok (.ireturn, 1) := by decide +kernel
theorem dX11_count_92 : decode cX11_count 92 = .ok (.aload_n 0, 1) := by decide +kernel
theorem dX11_count_93 : decode cX11_count 93 = .ok (.getfield 19, 3) := by decide +kernel
theorem dX11_count_96 : decode cX11_count 96 = .ok (.invokevirtual 278, 3) := by decide +kernel
theorem dX11_count_99 : decode cX11_count 99 = .ok (.ireturn, 1) := by decide +kernel
theorem dX11_count_100 : decode cX11_count 100 = .ok (.aload_n 0, 1) := by decide +kernel
theorem dX11_count_101 : decode cX11_count 101 = .ok (.getfield 19, 3) := by decide +kernel
theorem dX11_count_104 : decode cX11_count 104 = .ok (.invokevirtual 281, 3) := by decide +kernel
theorem dX11_count_107 : decode cX11_count 107 = .ok (.ireturn, 1) := by decide +kernel
theorem dX11_count_108 : decode cX11_count 108 = .ok (.aload_n 0, 1) := by decide +kernel
theorem dX11_count_109 : decode cX11_count 109 = .ok (.getfield 35, 3) := by decide +kernel
theorem dX11_count_112 : decode cX11_count 112 = .ok (.invokevirtual 284, 3) := by decide +kernel
theorem dX11_count_115 : decode cX11_count 115 = .ok (.ireturn, 1) := by decide +kernel
theorem dX11_count_116 : decode cX11_count 116 = .ok (.aload_n 0, 1) := by decide +kernel
theorem dX11_count_117 : decode cX11_count 117 = .ok (.getfield 35, 3) := by decide +kernel
theorem dX11_count_120 : decode cX11_count 120 = .ok (.invokevirtual 287, 3) := by decide +kernel
theorem dX11_count_123 : decode cX11_count 123 = .ok (.ireturn, 1) := by decide +kernel
theorem dX11_count_124 : decode cX11_count 124 = .ok (.aload_n 0, 1) := by decide +kernel
theorem dX11_count_125 : decode cX11_count 125 = .ok (.getfield 35, 3) := by decide +kernel
theorem dX11_count_128 : decode cX11_count 128 = .ok (.invokevirtual 290, 3) := by decide +kernel
theorem dX11_count_131 : decode cX11_count 131 = .ok (.ireturn, 1) := by decide +kernel
theorem dX11_count_132 : decode cX11_count 132 = .ok (.aload_n 0, 1) := by decide +kernel
theorem dX11_count_133 : decode cX11_count 133 = .ok (.getfield 10, 3) := by decide +kernel
theorem dX11_count_136 : decode cX11_count 136 = .ok (.invokevirtual 69, 3) := by decide +kernel
theorem dX11_count_139 : decode cX11_count 139 = .ok (.ireturn, 1) := by decide +kernel
theorem dX11_count_140 : decode cX11_count 140 = .ok (.aload_n 0, 1) := by decide +kernel
theorem dX11_count_141 : decode cX11_count 141 = .ok (.getfield 19, 3) := by decide +kernel
theorem dX11_count_144 : decode cX11_count 144 = .ok (.aload_n 0, 1) := by decide +kernel
theorem dX11_count_145 : decode cX11_count 145 = .ok (.getfield 19, 3) := by decide +kernel
theorem dX11_count_148 : decode cX11_count 148 = .ok (.invokevirtual 76, 3) := by decide +kernel
theorem dX11_count_151 : decode cX11_count 151 = .ok (.invokevirtual 89, 3) := by decide +kernel
theorem dX11_count_154 : decode cX11_count 154 = .ok (.ireturn, 1) := by decide +kernel
theorem dX11_count_155 : decode cX11_count 155 = .ok (.aload_n 0, 1) := by decide +kernel
theorem dX11_count_156 : decode cX11_count 156 = .ok (.getfield 19, 3) := by decide +kernel
theorem dX11_count_159 : decode cX11_count 159 = .ok (.invokevirtual 293, 3) := by decide +kernel
theorem dX11_count_162 : decode cX11_count 162 = .ok (.ireturn, 1) := by decide +kernel
theorem dX11_count_163 : decode cX11_count 163 = .ok (.aload_n 0, 1) := by decide +kernel
theorem dX11_count_164 : decode cX11_count 164 = .ok (.getfield 19, 3) := by decide +kernel
theorem dX11_count_167 : decode cX11_count 167 = .ok (.invokevirtual 296, 3) := by decide +kernel
theorem dX11_count_170 : decode cX11_count 170 = .ok (.ireturn, 1) := by decide +kernel
theorem dX11_count_171 : decode cX11_count 171 = .ok (.aload_n 0, 1) := by decide +kernel
theorem dX11_count_172 : decode cX11_count 172 = .ok (.getfield 19, 3) := by decide +kernel
theorem dX11_count_175 : decode cX11_count 175 = .ok (.invokevirtual 299, 3) := by decide +kernel
theorem dX11_count_178 : decode cX11_count 178 = .ok (.ireturn, 1) := by decide +kernel
theorem dX11_count_179 : decode cX11_count 179 = .ok (.iconst (-1), 1) := by decide +kernel
theorem dX11_count_180 : decode cX11_count 180 = .ok (.ireturn, 1) := by decide +kernel
theorem dX11_isWithin_0 : decode cX11_isWithin 0 = .ok (.iload_n 0, 1) := by decide +kernel
theorem dX11_isWithin_1 : decode cX11_isWithin 1 = .ok (.iload_n 1, 1) := by decide +kernel
theorem dX11_isWithin_2 : decode cX11_isWithin 2 = .ok (.if_icmp .lt 12, 3) := by decide +kernel
theorem dX11_isWithin_5 : decode cX11_isWithin 5 = .ok (.iload_n 0, 1) := by decide +kernel
theorem dX11_isWithin_6 : decode cX11_isWithin 6 = .ok (.iload_n 2, 1) := by decide +kernel
theorem dX11_isWithin_7 : decode cX11_isWithin 7 = .ok (.if_icmp .gt 7, 3) := by decide +kernel
theorem dX11_isWithin_10 : decode cX11_isWithin 10 = .ok (.iconst 1, 1) := by decide +kernel
theorem dX11_isWithin_11 : decode cX11_isWithin 11 = .ok (.goto 4, 3) := by decide +kernel
theorem dX11_isWithin_14 : decode cX11_isWithin 14 = .ok (.iconst 0, 1) := by decide +kernel
theorem dX11_isWithin_15 : decode cX11_isWithin 15 = .ok (.ireturn, 1) := by decide +kernel
theorem dX11_isByte_0 : decode cX11_isByte 0 = .ok (.iload_n 0, 1) := by decide +kernel
theorem dX11_isByte_1 : decode cX11_isByte 1 = .ok (.iconst 0, 1) := by decide +kernel
theorem dX11_isByte_2 : decode cX11_isByte 2 = .ok (.sipush 255, 3) := by decide +kernel
theorem dX11_isByte_5 : decode cX11_isByte 5 = .ok (.invokestatic 65, 3) := by decide +kernel
theorem dX11_isByte_8 : decode cX11_isByte 8 = .ok (.ireturn, 1) := by decide +kernel
theorem dX11_isMessage_0 : decode cX11_isMessage 0 = .ok (.iload_n 0, 1) := by decide +kernel
theorem dX11_isMessage_1 : decode cX11_isMessage 1 = .ok (.iconst 1, 1) := by decide +kernel
theorem dX11_isMessage_2 : decode cX11_isMessage 2 = .ok (.sipush 255, 3) := by decide +kernel
theorem dX11_isMessage_5 : decode cX11_isMessage 5 = .ok (.invokestatic 65, 3) := by decide +kernel
theorem dX11_isMessage_8 : decode cX11_isMessage 8 = .ok (.ireturn, 1) := by decide +kernel
theorem dX12_init_0 : decode cX12_init 0 = .ok (.aload_n 0, 1) := by decide +kernel
theorem dX12_init_1 : decode cX12_init 1 = .ok (.invokespecial 1, 3) := by decide +kernel
theorem dX12_init_4 : decode cX12_init 4 = .ok (.aload_n 0, 1) := by decide +kernel
theorem dX12_init_5 : decode cX12_init 5 = .ok (.sipush 200, 3) := by decide +kernel
theorem dX12_init_8 : decode cX12_init 8 = .ok (.newarray .int, 2) := by decide +kernel
theorem dX12_init_10 : decode cX12_init 10 = .ok (.putfield 7, 3) := by decide +kernel
theorem dX12_init_13 : decode cX12_init 13 = .ok (.aload_n 0, 1) := by decide +kernel
theorem dX12_init_14 : decode cX12_init 14 = .ok (.bipush 8, 2) := by decide +kernel
theorem dX12_init_16 : decode cX12_init 16 = .ok (.newarray .int, 2) := by decide +kernel
theorem dX12_init_18 : decode cX12_init 18 = .ok (.putfield 13, 3) := by decide +kernel
theorem dX12_init_21 : decode cX12_init 21 = .ok (.aload_n 0, 1) := by decide +kernel
theorem dX12_init_22 : decode cX12_init 22 = .ok (.bipush 9, 2) := by decide +kernel
theorem dX12_init_24 : decode cX12_init 24 = .ok (.newarray .int, 2) := by decide +kernel
theorem dX12_init_26 : decode cX12_init 26 = .ok (.putfield 16, 3) := by decide +kernel
theorem dX12_init_29 : decode cX12_init 29 = .ok (.aload_n 0, 1) := by decide +kernel
theorem dX12_init_30 : decode cX12_init 30 = .ok (.bipush 8, 2) := by decide +kernel
theorem dX12_init_32 : decode cX12_init 32 = .ok (.newarray .int, 2) := by decide +kernel
theorem dX12_init_34 : decode cX12_init 34 = .ok (.putfield 19, 3) := by decide +kernel
theorem dX12_init_37 : decode cX12_init 37 = .ok (.aload_n 0, 1) := by decide +kernel
theorem dX12_init_38 : decode cX12_init 38 = .ok (.bipush 8, 2) := by decide +kernel
theorem dX12_init_40 : decode cX12_init 40 = .ok (.newarray .int, 2) := by decide +kernel
theorem dX12_init_42 : decode cX12_init 42 = .ok (.putfield 22, 3) := by decide +kernel
theorem dX12_init_45 : decode cX12_init 45 = .ok (.aload_n 0, 1) := by decide +kernel
theorem dX12_init_46 : decode cX12_init 46 = .ok (.bipush 8, 2) := by decide +kernel
theorem dX12_init_48 : decode cX12_init 48 = .ok (.newarray .int, 2) := by decide +kernel
theorem dX12_init_50 : decode cX12_init 50 = .ok (.putfield 25, 3) := by decide +kernel
theorem dX12_init_53 : decode cX12_init 53 = .ok (.aload_n 0, 1) := by decide +kernel
theorem dX12_init_54 : decode cX12_init 54 = .ok (.bipush 9, 2) := by decide +kernel
theorem dX12_init_56 : decode cX12_init 56 = .ok (.newarray .int, 2) := by decide +kernel
theorem dX12_init_58 : decode cX12_init 58 = .ok (.putfield 28, 3) := by decide +kernel
theorem dX12_init_61 : decode cX12_init 61 = .ok (.aload_n 0, 1) := by decide +kernel
theorem dX12_init_62 : decode cX12_init 62 = .ok (.bipush 8, 2) := by decide +kernel
theorem dX12_init_64 : decode cX12_init 64 = .ok (.newarray .int, 2) := by decide +kernel
theorem dX12_init_66 : decode cX12_init 66 = .ok (.putfield 31, 3) := by decide +kernel
theorem dX12_init_69 : decode cX12_init 69 = .ok (.aload_n 0, 1) := by decide +kernel
theorem dX12_init_70 : decode cX12_init 70 = .ok (.bipush 8, 2) := by decide +kernel
theorem dX12_init_72 : decode cX12_init 72 = .ok (.newarray .int, 2) := by decide +kernel
theorem dX12_init_74 : decode cX12_init 74 = .ok (.putfield 34, 3) := by decide +kernel
theorem dX12_init_77 : decode cX12_init 77 = .ok (.aload_n 0, 1) := by decide +kernel
theorem dX12_init_78 : decode cX12_init 78 = .ok (.bipush 9, 2) := by decide +kernel
theorem dX12_init_80 : decode cX12_init 80 = .ok (.newarray .int, 2) := by decide +kernel
theorem dX12_init_82 : decode cX12_init 82 = .ok (.putfield 37, 3) := by decide +kernel
theorem dX12_init_85 : decode cX12_init 85 = .ok (.aload_n 0, 1) := by decide +kernel
theorem dX12_init_86 : decode cX12_init 86 = .ok (.bipush 8, 2) := by decide +kernel
theorem dX12_init_88 : decode cX12_init 88 = .ok (.newarray .int, 2) := by decide +kernel
theorem dX12_init_90 : decode cX12_init 90 = .ok (.putfield 40, 3) := by decide +kernel
theorem dX12_init_93 : decode cX12_init 93 = .ok (.aload_n 0, 1) := by decide +kernel
theorem dX12_init_94 : decode cX12_init 94 = .ok (.sipush 128, 3) := by decide +kernel
theorem dX12_init_97 : decode cX12_init 97 = .ok (.newarray .int, 2) := by decide +kernel
theorem dX12_init_99 : decode cX12_init 99 = .ok (.putfield 43, 3) := by decide +kernel
theorem dX12_init_102 : decode cX12_init 102 = .ok (.aload_n 0, 1) := by decide +kernel
theorem dX12_init_103 : decode cX12_init 103 = .ok (.bipush 8, 2) := by decide +kernel
theorem dX12_init_105 : decode cX12_init 105 = .ok (.newarray .int, 2) := by decide +kernel
theorem dX12_init_107 : decode cX12_init 107 = .ok (.putfield 46, 3) := by decide +kernel
theorem dX12_init_110 : decode cX12_init 110 = .ok (.aload_n 0, 1) := by decide +kernel
theorem dX12_init_111 : decode cX12_init 111 = .ok (.bipush 8, 2) := by decide +kernel
theorem dX12_init_113 : decode cX12_init 113 = .ok (.newarray .int, 2) := by decide +kernel
theorem dX12_init_115 : decode cX12_init 115 = .ok (.putfield 49, 3) := by decide +kernel
theorem dX12_init_118 : decode cX12_init 118 = .ok (.aload_n 0, 1) := by decide +kernel
theorem dX12_init_119 : decode cX12_init 119 = .ok (.bipush 16, 2) := by decide +kernel
theorem dX12_init_121 : decode cX12_init 121 = .ok (.newarray .int, 2) := by decide +kernel
theorem dX12_init_123 : decode cX12_init 123 = .ok (.putfield 52, 3) := by decide +kernel
theorem dX12_init_126 : decode cX12_init 126 = .ok (.aload_n 0, 1) := by decide +kernel
theorem dX12_init_127 : decode cX12_init 127 = .ok (.bipush 16, 2) := by decide +kernel
theorem dX12_init_129 : decode cX12_init 129 = .ok (.newarray .int, 2) := by decide +kernel
theorem dX12_init_131 : decode cX12_init 131 = .ok (.putfield 55, 3) := by decide +kernel
theorem dX12_init_134 : decode cX12_init 134 = .ok (.aload_n 0, 1) := by decide +kernel
theorem dX12_init_135 : decode cX12_init 135 = .ok (.bipush 16, 2) := by decide +kernel
theorem dX12_init_137 : decode cX12_init 137 = .ok (.newarray .int, 2) := by decide +kernel
theorem dX12_init_139 : decode cX12_init 139 = .ok (.putfield 58, 3) := by decide +kernel
theorem dX12_init_142 : decode cX12_init 142 = .ok (.aload_n 0, 1) := by decide +kernel
theorem dX12_init_143 : decode cX12_init 143 = .ok (.bipush 64, 2) := by decide +kernel
theorem dX12_init_145 : decode cX12_init 145 = .ok (.newarray .int, 2) := by decide +kernel
theorem dX12_init_147 : decode cX12_init 147 = .ok (.putfield 61, 3) := by decide +kernel
theorem dX12_init_150 : decode cX12_init 150 = .ok (.aload_n 0, 1) := by decide +kernel
theorem dX12_init_151 : decode cX12_init 151 = .ok (.bipush 16, 2) := by decide +kernel
theorem dX12_init_153 : decode cX12_init 153 = .ok (.newarray .int, 2) := by decide +kernel
theorem dX12_init_155 : decode cX12_init 155 = .ok (.putfield 64, 3) := by decide +kernel
theorem dX12_init_158 : decode cX12_init 158 = .ok (.aload_n 0, 1) := by decide +kernel
theorem dX12_init_159 : decode cX12_init 159 = .ok (.bipush 16, 2) := by decide +kernel
theorem dX12_init_161 : decode cX12_init 161 = .ok (.newarray .int, 2) := by decide +kernel
theorem dX12_init_163 : decode cX12_init 163 = .ok (.putfield 67, 3) := by decide +kernel
theorem dX12_init_166 : decode cX12_init 166 = .ok (.aload_n 0, 1) := by decide +kernel
theorem dX12_init_167 : decode cX12_init 167 = .ok (.bipush 16, 2) := by decide +kernel
theorem dX12_init_169 : decode cX12_init 169 = .ok (.newarray .int, 2) := by decide +kernel
theorem dX12_init_171 : decode cX12_init 171 = .ok (.putfield 70, 3) := by decide +kernel
theorem dX12_init_174 : decode cX12_init 174 = .ok (.aload_n 0, 1) := by decide +kernel
theorem dX12_init_175 : decode cX12_init 175 = .ok (.bipush 8, 2) := by decide +kernel
theorem dX12_init_177 : decode cX12_init 177 = .ok (.newarray .int, 2) := by decide +kernel
theorem dX12_init_179 : decode cX12_init 179 = .ok (.putfield 73, 3) := by decide +kernel
theorem dX12_init_182 : decode cX12_init 182 = .ok (.aload_n 0, 1) := by decide +kernel
theorem dX12_init_183 : decode cX12_init 183 = .ok (.bipush 8, 2) := by decide +kernel
theorem dX12_init_185 : decode cX12_init 185 = .ok (.newarray .int, 2) := by decide +kernel
theorem dX12_init_187 : decode cX12_init 187 = .ok (.putfield 76, 3) := by decide +kernel
theorem dX12_init_190 : decode cX12_init 190 = .ok (.aload_n 0, 1) := by decide +kernel
theorem dX12_init_191 : decode cX12_init 191 = .ok (.iconst 4, 1) := by decide +kernel
theorem dX12_init_192 : decode cX12_init 192 = .ok (.newarray .int, 2) := by decide +kernel
theorem dX12_init_194 : decode cX12_init 194 = .ok (.putfield 79, 3) := by decide +kernel
theorem dX12_init_197 : decode cX12_init 197 = .ok (.aload_n 0, 1) := by decide +kernel
theorem dX12_init_198 : decode cX12_init 198 = .ok (.iconst 4, 1) := by decide +kernel
theorem dX12_init_199 : decode cX12_init 199 = .ok (.newarray .int, 2) := by decide +kernel
theorem dX12_init_201 : decode cX12_init 201 = .ok (.putfield 82, 3) := by decide +kernel
theorem dX12_init_204 : decode cX12_init 204 = .ok (.aload_n 0, 1) := by decide +kernel
theorem dX12_init_205 : decode cX12_init 205 = .ok (.iconst 4, 1) := by decide +kernel
theorem dX12_init_206 : decode cX12_init 206 = .ok (.newarray .int, 2) := by decide +kernel
theorem dX12_init_208 : decode cX12_init 208 = .ok (.putfield 85, 3) := by decide +kernel
theorem dX12_init_211 : decode cX12_init 211 = .ok (.aload_n 0, 1) := by decide +kernel
theorem dX12_init_212 : decode cX12_init 212 = .ok (.iconst 4, 1) := by decide +kernel
theorem dX12_init_213 : decode cX12_init 213 = .ok (.newarray .int, 2) := by decide +kernel
theorem dX12_init_215 : decode cX12_init 215 = .ok (.putfield 88, 3) := by decide +kernel
theorem dX12_init_218 : decode cX12_init 218 = .ok (.aload_n 0, 1) := by decide +kernel
theorem dX12_init_219 : decode cX12_init 219 = .ok (.bipush 32, 2) := by decide +kernel
theorem dX12_init_221 : decode cX12_init 221 = .ok (.newarray .int, 2) := by decide +kernel
theorem dX12_init_223 : decode cX12_init 223 = .ok (.putfield 91, 3) := by decide +kernel
theorem dX12_init_226 : decode cX12_init 226 = .ok (.aload_n 0, 1) := by decide +kernel
theorem dX12_init_227 : decode cX12_init 227 = .ok (.bipush 64, 2) := by decide +kernel
theorem dX12_init_229 : decode cX12_init 229 = .ok (.newarray .int, 2) := by decide +kernel
theorem dX12_init_231 : decode cX12_init 231 = .ok (.putfield 94, 3) := by decide +kernel
theorem dX12_init_234 : decode cX12_init 234 = .ok (.aload_n 0, 1) := by decide +kernel
theorem dX12_init_235 : decode cX12_init 235 = .ok (.bipush 8, 2) := by decide +kernel
theorem dX12_init_237 : decode cX12_init 237 = .ok (.newarray .int, 2) := by decide +kernel
theorem dX12_init_239 : decode cX12_init 239 = .ok (.putfield 97, 3) := by decide +kernel
theorem dX12_init_242 : decode cX12_init 242 = .ok (.aload_n 0, 1) := by decide +kernel
theorem dX12_init_243 : decode cX12_init 243 = .ok (.iconst 4, 1) := by decide +kernel
theorem dX12_init_244 : decode cX12_init 244 = .ok (.newarray .int, 2) := by decide +kernel
theorem dX12_init_246 : decode cX12_init 246 = .ok (.putfield 100, 3) := by decide +kernel
theorem dX12_init_249 : decode cX12_init 249 = .ok (.aload_n 0, 1) := by decide +kernel
theorem dX12_init_250 : decode cX12_init 250 = .ok (.iconst 4, 1) := by decide +kernel
theorem dX12_init_251 : decode cX12_init 251 = .ok (.newarray .int, 2) := by decide +kernel
theorem dX12_init_253 : decode cX12_init 253 = .ok (.putfield 103, 3) := by decide +kernel
theorem dX12_init_256 : decode cX12_init 256 = .ok (.aload_n 0, 1) := by decide +kernel
theorem dX12_init_257 : decode cX12_init 257 = .ok (.bipush 32, 2) := by decide +kernel
theorem dX12_init_259 : decode cX12_init 259 = .ok (.newarray .int, 2) := by decide +kernel
theorem dX12_init_261 : decode cX12_init 261 = .ok (.putfield 106, 3) := by decide +kernel
theorem dX12_init_264 : decode cX12_init 264 = .ok (.aload_n 0, 1) := by decide +kernel
theorem dX12_init_265 : decode cX12_init 265 = .ok (.bipush 30, 2) := by decide +kernel
theorem dX12_init_267 : decode cX12_init 267 = .ok (.newarray .int, 2) := by decide +kernel
theorem dX12_init_269 : decode cX12_init 269 = .ok (.putfield 109, 3) := by decide +kernel
theorem dX12_init_272 : decode cX12_init 272 = .ok (.aload_n 0, 1) := by decide +kernel
theorem dX12_init_273 : decode cX12_init 273 = .ok (.bipush 8, 2) := by decide +kernel
theorem dX12_init_275 : decode cX12_init 275 = .ok (.newarray .int, 2) := by decide +kernel
theorem dX12_init_277 : decode cX12_init 277 = .ok (.putfield 112, 3) := by decide +kernel
theorem dX12_init_280 : decode cX12_init 280 = .ok (.aload_n 0, 1) := by decide +kernel
theorem dX12_init_281 : decode cX12_init 281 = .ok (.bipush 8, 2) := by decide +kernel
theorem dX12_init_283 : decode cX12_init 283 = .ok (.newarray .int, 2) := by decide +kernel
theorem dX12_init_285 : decode cX12_init 285 = .ok (.putfield 115, 3) := by decide +kernel
theorem dX12_init_288 : decode cX12_init 288 = .ok (.aload_n 0, 1) := by decide +kernel
theorem dX12_init_289 : decode cX12_init 289 = .ok (.bipush 8, 2) := by decide +kernel
theorem dX12_init_291 : decode cX12_init 291 = .ok (.newarray .int, 2) := by decide +kernel
theorem dX12_init_293 : decode cX12_init 293 = .ok (.putfield 118, 3) := by decide +kernel
theorem dX12_init_296 : decode cX12_init 296 = .ok (.aload_n 0, 1) := by decide +kernel
theorem dX12_init_297 : decode cX12_init 297 = .ok (.invokevirtual 121, 3) := by decide +kernel
theorem dX12_init_300 : decode cX12_init 300 = .ok (.aload_n 0, 1) := by decide +kernel
theorem dX12_init_301 : decode cX12_init 301 = .ok (.bipush 11, 2) := by decide +kernel
theorem dX12_init_303 : decode cX12_init 303 = .ok (.iconst 3, 1) := by decide +kernel
theorem dX12_init_304 : decode cX12_init 304 = .ok (.iconst 0, 1) := by decide +kernel
theorem dX12_init_305 : decode cX12_init 305 = .ok (.iconst 5, 1) := by decide +kernel
theorem dX12_init_306 : decode cX12_init 306 = .ok (.invokevirtual 124, 3) := by decide +kernel
theorem dX12_init_309 : decode cX12_init 309 = .ok (.aload_n 0, 1) := by decide +kernel
theorem dX12_init_310 : decode cX12_init 310 = .ok (.bipush 22, 2) := by decide +kernel
theorem dX12_init_312 : decode cX12_init 312 = .ok (.iconst 5, 1) := by decide +kernel
theorem dX12_init_313 : decode cX12_init 313 = .ok (.bipush 20, 2) := by decide +kernel
theorem dX12_init_315 : decode cX12_init 315 = .ok (.iconst 4, 1) := by decide +kernel
theorem dX12_init_316 : decode cX12_init 316 = .ok (.invokevirtual 124, 3) := by decide +kernel
theorem dX12_init_319 : decode cX12_init 319 = .ok (.aload_n 0, 1) := by decide +kernel
theorem dX12_init_320 : decode cX12_init 320 = .ok (.bipush 33, 2) := by decide +kernel
theorem dX12_init_322 : decode cX12_init 322 = .ok (.iconst 4, 1) := by decide +kernel
theorem dX12_init_323 : decode cX12_init 323 = .ok (.bipush 100, 2) := by decide +kernel
theorem dX12_init_325 : decode cX12_init 325 = .ok (.iconst 3, 1) := by decide +kernel
theorem dX12_init_326 : decode cX12_init 326 = .ok (.invokevirtual 124, 3) := by decide +kernel
theorem dX12_init_329 : decode cX12_init 329 = .ok (.aload_n 0, 1) := by decide +kernel
theorem dX12_init_330 : decode cX12_init 330 = .ok (.bipush 7, 2) := by decide +kernel
theorem dX12_init_332 : decode cX12_init 332 = .ok (.iconst 2, 1) := by decide +kernel
theorem dX12_init_333 : decode cX12_init 333 = .ok (.bipush 50, 2) := by decide +kernel
theorem dX12_init_335 : decode cX12_init 335 = .ok (.iconst 4, 1) := by decide +kernel
theorem dX12_init_336 : decode cX12_init 336 = .ok (.invokevirtual 124, 3) := by decide +kernel
theorem dX12_init_339 : decode cX12_init 339 = .ok (.aload_n 0, 1) := by decide +kernel
theorem dX12_init_340 : decode cX12_init 340 = .ok (.getfield 16, 3) := by decide +kernel
theorem dX12_init_343 : decode cX12_init 343 = .ok (.bipush 8, 2) := by decide +kernel
theorem dX12_init_345 : decode cX12_init 345 = .ok (.iconst 4, 1) := by decide +kernel
theorem dX12_init_346 : decode cX12_init 346 = .ok (.iastore, 1) := by decide +kernel
theorem dX12_init_347 : decode cX12_init 347 = .ok (.aload_n 0, 1) := by decide +kernel
theorem dX12_init_348 : decode cX12_init 348 = .ok (.iconst 3, 1) := by decide +kernel
theorem dX12_init_349 : decode cX12_init 349 = .ok (.putfield 128, 3) := by decide +kernel
theorem dX12_init_352 : decode cX12_init 352 = .ok (.aload_n 0, 1) := by decide +kernel
theorem dX12_init_353 : decode cX12_init 353 = .ok (.iconst 2, 1) := by decide +kernel
theorem dX12_init_354 : decode cX12_init 354 = .ok (.putfield 132, 3) := by decide +kernel
theorem dX12_init_357 : decode cX12_init 357 = .ok (.aload_n 0, 1) := by decide +kernel
theorem dX12_init_358 : decode cX12_init 358 = .ok (.invokevirtual 135, 3) := by decide +kernel
theorem dX12_init_361 : decode cX12_init 361 = .ok (.return_, 1) := by decide +kernel
theorem dX12_in_0 : decode cX12_in 0 = .ok (.lload_n 0, 1) := by decide +kernel
theorem dX12_in_1 : decode cX12_in 1 = .ok (.lload_n 2, 1) := by decide +kernel
theorem dX12_in_2 : decode cX12_in 2 = .ok (.lcmp, 1) := by decide +kernel
theorem dX12_in_3 : decode cX12_in 3 = .ok (.ifCond .lt 14, 3) := by decide +kernel
theorem dX12_in_6 : decode cX12_in 6 = .ok (.lload_n 0, 1) := by decide +kernel
theorem dX12_in_7 : decode cX12_in 7 = .ok (.lload 4, 2) := by decide +kernel
theorem dX12_in_9 : decode cX12_in 9 = .ok (.lcmp, 1) := by decide +kernel
theorem dX12_in_10 : decode cX12_in 10 = .ok (.ifCond .gt 7, 3) := by decide +kernel
theorem dX12_in_13 : decode cX12_in 13 = .ok (.iconst 1, 1) := by decide +kernel
theorem dX12_in_14 : decode cX12_in 14 = .ok (.goto 4, 3) := by decide +kernel
theorem dX12_in_17 : decode cX12_in 17 = .ok (.iconst 0, 1) := by decide +kernel
theorem dX12_in_18 : decode cX12_in 18 = .ok (.ireturn, 1) := by decide +kernel
theorem dX12_empty_0 : decode cX12_empty 0 = .ok (.aload_n 0, 1) := by decide +kernel
theorem dX12_empty_1 : decode cX12_empty 1 = .ok (.iconst 0, 1) := by decide +kernel
theorem dX12_empty_2 : decode cX12_empty 2 = .ok (.putfield 138, 3) := by decide +kernel
theorem dX12_empty_5 : decode cX12_empty 5 = .ok (.aload_n 0, 1) := by decide +kernel
theorem dX12_empty_6 : decode cX12_empty 6 = .ok (.getfield 16, 3) := by decide +kernel
theorem dX12_empty_9 : decode cX12_empty 9 = .ok (.bipush 8, 2) := by decide +kernel
theorem dX12_empty_11 : decode cX12_empty 11 = .ok (.iconst 1, 1) := by decide +kernel
theorem dX12_empty_12 : decode cX12_empty 12 = .ok (.iastore, 1) := by decide +kernel
theorem dX12_empty_13 : decode cX12_empty 13 = .ok (.aload_n 0, 1) := by decide +kernel
theorem dX12_empty_14 : decode cX12_empty 14 = .ok (.iconst 2, 1) := by decide +kernel
theorem dX12_empty_15 : decode cX12_empty 15 = .ok (.putfield 128, 3) := by decide +kernel
theorem dX12_empty_18 : decode cX12_empty 18 = .ok (.aload_n 0, 1) := by decide +kernel
theorem dX12_empty_19 : decode cX12_empty 19 = .ok (.iconst 1, 1) := by decide +kernel
theorem dX12_empty_20 : decode cX12_empty 20 = .ok (.putfield 132, 3) := by decide +kernel
theorem dX12_empty_23 : decode cX12_empty 23 = .ok (.return_, 1) := by decide +kernel
theorem dX12_deviceIs_0 : decode cX12_deviceIs 0 = .ok (.aload_n 0, 1) := by decide +kernel
theorem dX12_deviceIs_1 : decode cX12_deviceIs 1 = .ok (.getfield 13, 3) := by decide +kernel
theorem dX12_deviceIs_4 : decode cX12_deviceIs 4 = .ok (.aload_n 0, 1) := by decide +kernel
theorem dX12_deviceIs_5 : decode cX12_deviceIs 5 = .ok (.getfield 138, 3) := by decide +kernel
theorem dX12_deviceIs_8 : decode cX12_deviceIs 8 = .ok (.iload_n 1, 1) := by decide +kernel
theorem dX12_deviceIs_9 : decode cX12_deviceIs 9 = .ok (.iastore, 1) := by decide +kernel
theorem dX12_deviceIs_10 : decode cX12_deviceIs 10 = .ok (.aload_n 0, 1) := by decide +kernel
theorem dX12_deviceIs_11 : decode cX12_deviceIs 11 = .ok (.getfield 16, 3) := by decide +kernel
theorem dX12_deviceIs_14 : decode cX12_deviceIs 14 = .ok (.aload_n 0, 1) := by decide +kernel
theorem dX12_deviceIs_15 : decode cX12_deviceIs 15 = .ok (.getfield 138, 3) := by decide +kernel
theorem dX12_deviceIs_18 : decode cX12_deviceIs 18 = .ok (.iload_n 2, 1) := by decide +kernel
theorem dX12_deviceIs_19 : decode cX12_deviceIs 19 = .ok (.iastore, 1) := by decide +kernel
theorem dX12_deviceIs_20 : decode cX12_deviceIs 20 = .ok (.aload_n 0, 1) := by decide +kernel
theorem dX12_deviceIs_21 : decode cX12_deviceIs 21 = .ok (.getfield 19, 3) := by decide +kernel
theorem dX12_deviceIs_24 : decode cX12_deviceIs 24 = .ok (.aload_n 0, 1) := by decide +kernel
theorem dX12_deviceIs_25 : decode cX12_deviceIs 25 = .ok (.getfield 138, 3) := by decide +kernel
theorem dX12_deviceIs_28 : decode cX12_deviceIs 28 = .ok (.iload_n 3, 1) := by decide +kernel
theorem dX12_deviceIs_29 : decode cX12_deviceIs 29 = .ok (.iastore, 1) := by decide +kernel
theorem dX12_deviceIs_30 : decode cX12_deviceIs 30 = .ok (.aload_n 0, 1) := by decide +kernel
theorem dX12_deviceIs_31 : decode cX12_deviceIs 31 = .ok (.getfield 22, 3) := by decide +kernel
theorem dX12_deviceIs_34 : decode cX12_deviceIs 34 = .ok (.aload_n 0, 1) := by decide +kernel
theorem dX12_deviceIs_35 : decode cX12_deviceIs 35 = .ok (.getfield 138, 3) := by decide +kernel
theorem dX12_deviceIs_38 : decode cX12_deviceIs 38 = .ok (.iload 4, 2) := by decide +kernel
theorem dX12_deviceIs_40 : decode cX12_deviceIs 40 = .ok (.iastore, 1) := by decide +kernel
theorem dX12_deviceIs_41 : decode cX12_deviceIs 41 = .ok (.aload_n 0, 1) := by decide +kernel
theorem dX12_deviceIs_42 : decode cX12_deviceIs 42 = .ok (.dup, 1) := by decide +kernel
theorem dX12_deviceIs_43 : decode cX12_deviceIs 43 = .ok (.getfield 138, 3) := by decide +kernel
theorem dX12_deviceIs_46 : decode cX12_deviceIs 46 = .ok (.iconst 1, 1) := by decide +kernel
theorem dX12_deviceIs_47 : decode cX12_deviceIs 47 = .ok (.iadd, 1) := by decide +kernel
theorem dX12_deviceIs_48 : decode cX12_deviceIs 48 = .ok (.putfield 138, 3) := by decide +kernel
theorem dX12_deviceIs_51 : decode cX12_deviceIs 51 = .ok (.return_, 1) := by decide +kernel
theorem dX12_write_0 : decode cX12_write 0 = .ok (.iload_n 1, 1) := by decide +kernel
theorem dX12_write_1 : decode cX12_write 1 = .ok (.i2l, 1) := by decide +kernel
theorem dX12_write_2 : decode cX12_write 2 = .ok (.ldc2_w 141, 3) := by decide +kernel
theorem dX12_write_5 : decode cX12_write 5 = .ok (.ldc2_w 143, 3) := by decide +kernel
theorem dX12_write_8 : decode cX12_write 8 = .ok (.invokestatic 145, 3) := by decide +kernel
theorem dX12_write_11 : decode cX12_write 11 = .ok (.ifCond .ne 5, 3) := by decide +kernel
theorem dX12_write_14 : decode cX12_write 14 = .ok (.iconst (-1), 1) := by decide +kernel
theorem dX12_write_15 : decode cX12_write 15 = .ok (.ireturn, 1) := by decide +kernel
theorem dX12_write_16 : decode cX12_write 16 = .ok (.aload_n 0, 1) := by decide +kernel
theorem dX12_write_17 : decode cX12_write 17 = .ok (.getfield 149, 3) := by decide +kernel
theorem dX12_write_20 : decode cX12_write 20 = .ok (.sipush 200, 3) := by decide +kernel
theorem dX12_write_23 : decode cX12_write 23 = .ok (.if_icmp .ne 6, 3) := by decide +kernel
theorem dX12_write_26 : decode cX12_write 26 = .ok (.bipush (-3), 2) := by decide +kernel
theorem dX12_write_28 : decode cX12_write 28 = .ok (.ireturn, 1) := by decide +kernel
theorem dX12_write_29 : decode cX12_write 29 = .ok (.aload_n 0, 1) := by decide +kernel
theorem dX12_write_30 : decode cX12_write 30 = .ok (.getfield 7, 3) := by decide +kernel
theorem dX12_write_33 : decode cX12_write 33 = .ok (.aload_n 0, 1) := by decide +kernel
theorem dX12_write_34 : decode cX12_write 34 = .ok (.getfield 149, 3) := by decide +kernel
theorem dX12_write_37 : decode cX12_write 37 = .ok (.iload_n 1, 1) := by decide +kernel
theorem dX12_write_38 : decode cX12_write 38 = .ok (.iastore, 1) := by decide +kernel
theorem dX12_write_39 : decode cX12_write 39 = .ok (.aload_n 0, 1) := by decide +kernel
theorem dX12_write_40 : decode cX12_write 40 = .ok (.dup, 1) := by decide +kernel
theorem dX12_write_41 : decode cX12_write 41 = .ok (.getfield 149, 3) := by decide +kernel
theorem dX12_write_44 : decode cX12_write 44 = .ok (.iconst 1, 1) := by decide +kernel
theorem dX12_write_45 : decode cX12_write 45 = .ok (.iadd, 1) := by decide +kernel
theorem dX12_write_46 : decode cX12_write 46 = .ok (.putfield 149, 3) := by decide +kernel
theorem dX12_write_49 : decode cX12_write 49 = .ok (.aload_n 0, 1) := by decide +kernel
theorem dX12_write_50 : decode cX12_write 50 = .ok (.getfield 149, 3) := by decide +kernel
theorem dX12_write_53 : decode cX12_write 53 = .ok (.ireturn, 1) := by decide +kernel
theorem dX12_wipe_0 : decode cX12_wipe 0 = .ok (.aload_n 0, 1) := by decide +kernel
theorem dX12_wipe_1 : decode cX12_wipe 1 = .ok (.getfield 149, 3) := by decide +kernel
theorem dX12_wipe_4 : decode cX12_wipe 4 = .ok (.istore_n 1, 1) := by decide +kernel
theorem dX12_wipe_5 : decode cX12_wipe 5 = .ok (.aload_n 0, 1) := by decide +kernel
theorem dX12_wipe_6 : decode cX12_wipe 6 = .ok (.iconst 0, 1) := by decide +kernel
theorem dX12_wipe_7 : decode cX12_wipe 7 = .ok (.putfield 149, 3) := by decide +kernel
theorem dX12_wipe_10 : decode cX12_wipe 10 = .ok (.iload_n 1, 1) := by decide +kernel
theorem dX12_wipe_11 : decode cX12_wipe 11 = .ok (.ireturn, 1) := by decide +kernel
theorem dX12_letterAt_0 : decode cX12_letterAt 0 = .ok (.iload_n 1, 1) := by decide +kernel
theorem dX12_letterAt_1 : decode cX12_letterAt 1 = .ok (.aload_n 0, 1) := by decide +kernel
theorem dX12_letterAt_2 : decode cX12_letterAt 2 = .ok (.getfield 149, 3) := by decide +kernel
theorem dX12_letterAt_5 : decode cX12_letterAt 5 = .ok (.if_icmp .ge 12, 3) := by decide +kernel
theorem dX12_letterAt_8 : decode cX12_letterAt 8 = .ok (.aload_n 0, 1) := by decide +kernel
theorem dX12_letterAt_9 : decode cX12_letterAt 9 = .ok (.getfield 7, 3) := by decide +kernel
theorem dX12_letterAt_12 : decode cX12_letterAt 12 = .ok (.iload_n 1, 1) := by decide +kernel
theorem dX12_letterAt_13 : decode cX12_letterAt 13 = .ok (.iaload, 1) := by decide +kernel
theorem dX12_letterAt_14 : decode cX12_letterAt 14 = .ok (.goto 4, 3) := by decide +kernel
theorem dX12_letterAt_17 : decode cX12_letterAt 17 = .ok (.iconst 0, 1) := by decide +kernel
theorem dX12_letterAt_18 : decode cX12_letterAt 18 = .ok (.ireturn, 1) := by decide +kernel
theorem dX12_figures_0 : decode cX12_figures 0 = .ok (.iconst 0, 1) := by decide +kernel
theorem dX12_figures_1 : decode cX12_figures 1 = .ok (.istore_n 2, 1) := by decide +kernel
theorem dX12_figures_2 : decode cX12_figures 2 = .ok (.iconst 0, 1) := by decide +kernel
theorem dX12_figures_3 : decode cX12_figures 3 = .ok (.istore_n 3, 1) := by decide +kernel
theorem dX12_figures_4 : decode cX12_figures 4 = .ok (.iload_n 3, 1) := by decide +kernel
theorem dX12_figures_5 : decode cX12_figures 5 = .ok (.iload_n 1, 1) := by decide +kernel
theorem dX12_figures_6 : decode cX12_figures 6 = .ok (.if_icmp .ge 60, 3) := by decide +kernel
theorem dX12_figures_9 : decode cX12_figures 9 = .ok (.aload_n 0, 1) := by decide +kernel
theorem dX12_figures_10 : decode cX12_figures 10 = .ok (.aload_n 0, 1) := by decide +kernel
theorem dX12_figures_11 : decode cX12_figures 11 = .ok (.getfield 152, 3) := by decide +kernel
theorem dX12_figures_14 : decode cX12_figures 14 = .ok (.invokevirtual 155, 3) := by decide +kernel
theorem dX12_figures_17 : decode cX12_figures 17 = .ok (.i2l, 1) := by decide +kernel
theorem dX12_figures_18 : decode cX12_figures 18 = .ok (.ldc2_w 159, 3) := by decide +kernel
theorem dX12_figures_21 : decode cX12_figures 21 = .ok (.ldc2_w 161, 3) := by decide +kernel
theorem dX12_figures_24 : decode cX12_figures 24 = .ok (.invokestatic 145, 3) := by decide +kernel
theorem dX12_figures_27 : decode cX12_figures 27 = .ok (.ifCond .ne 6, 3) := by decide +kernel
theorem dX12_figures_30 : decode cX12_figures 30 = .ok (.bipush (-4), 2) := by decide +kernel
theorem dX12_figures_32 : decode cX12_figures 32 = .ok (.ireturn, 1) := by decide +kernel
theorem dX12_figures_33 : decode cX12_figures 33 = .ok (.bipush 10, 2) := by decide +kernel
theorem dX12_figures_35 : decode cX12_figures 35 = .ok (.iload_n 2, 1) := by decide +kernel
theorem dX12_figures_36 : decode cX12_figures 36 = .ok (.imul, 1) := by decide +kernel
theorem dX12_figures_37 : decode cX12_figures 37 = .ok (.aload_n 0, 1) := by decide +kernel
theorem dX12_figures_38 : decode cX12_figures 38 = .ok (.aload_n 0, 1) := by decide +kernel
theorem dX12_figures_39 : decode cX12_figures 39 = .ok (.getfield 152, 3) := by decide +kernel
theorem dX12_figures_42 : decode cX12_figures 42 = .ok (.invokevirtual 155, 3) := by decide +kernel
theorem dX12_figures_45 : decode cX12_figures 45 = .ok (.iadd, 1) := by decide +kernel
theorem dX12_figures_46 : decode cX12_figures 46 = .ok (.bipush 48, 2) := by decide +kernel
theorem dX12_figures_48 : decode cX12_figures 48 = .ok (.isub, 1) := by decide +kernel
theorem dX12_figures_49 : decode cX12_figures 49 = .ok (.istore_n 2, 1) := by decide +kernel
theorem dX12_figures_50 : decode cX12_figures 50 = .ok (.aload_n 0, 1) := by decide +kernel
theorem dX12_figures_51 : decode cX12_figures 51 = .ok (.dup, 1) := by decide +kernel
theorem dX12_figures_52 : decode cX12_figures 52 = .ok (.getfield 152, 3) := by decide +kernel
theorem dX12_figures_55 : decode cX12_figures 55 = .ok (.iconst 1, 1) := by decide +kernel
theorem dX12_figures_56 : decode cX12_figures 56 = .ok (.iadd, 1) := by decide +kernel
theorem dX12_figures_57 : decode cX12_figures 57 = .ok (.putfield 152, 3) := by decide +kernel
theorem dX12_figures_60 : decode cX12_figures 60 = .ok (.iinc 3 1, 3) := by decide +kernel
theorem dX12_figures_63 : decode cX12_figures 63 = .ok (.goto (-59), 3) := by decide +kernel
theorem dX12_figures_66 : decode cX12_figures 66 = .ok (.iload_n 2, 1) := by decide +kernel
theorem dX12_figures_67 : decode cX12_figures 67 = .ok (.ireturn, 1) := by decide +kernel
theorem dX12_ends_0 : decode cX12_ends 0 = .ok (.aload_n 0, 1) := by decide +kernel
theorem dX12_ends_1 : decode cX12_ends 1 = .ok (.dup, 1) := by decide +kernel
theorem dX12_ends_2 : decode cX12_ends 2 = .ok (.getfield 152, 3) := by decide +kernel
theorem dX12_ends_5 : decode cX12_ends 5 = .ok (.iconst 1, 1) := by decide +kernel
theorem dX12_ends_6 : decode cX12_ends 6 = .ok (.iadd, 1) := by decide +kernel
theorem dX12_ends_7 : decode cX12_ends 7 = .ok (.putfield 152, 3) := by decide +kernel
theorem dX12_ends_10 : decode cX12_ends 10 = .ok (.aload_n 0, 1) := by decide +kernel
theorem dX12_ends_11 : decode cX12_ends 11 = .ok (.aload_n 0, 1) := by decide +kernel
theorem dX12_ends_12 : decode cX12_ends 12 = .ok (.getfield 152, 3) := by decide +kernel
theorem dX12_ends_15 : decode cX12_ends 15 = .ok (.iconst 1, 1) := by decide +kernel
theorem dX12_ends_16 : decode cX12_ends 16 = .ok (.isub, 1) := by decide +kernel
theorem dX12_ends_17 : decode cX12_ends 17 = .ok (.invokevirtual 155, 3) := by decide +kernel
theorem dX12_ends_20 : decode cX12_ends 20 = .ok (.bipush 59, 2) := by decide +kernel
theorem dX12_ends_22 : decode cX12_ends 22 = .ok (.if_icmp .ne 7, 3) := by decide +kernel
theorem dX12_ends_25 : decode cX12_ends 25 = .ok (.iconst 1, 1) := by decide +kernel
theorem dX12_ends_26 : decode cX12_ends 26 = .ok (.goto 4, 3) := by decide +kernel
theorem dX12_ends_29 : decode cX12_ends 29 = .ok (.iconst 0, 1) := by decide +kernel
theorem dX12_ends_30 : decode cX12_ends 30 = .ok (.ireturn, 1) := by decide +kernel
theorem dX12_deviceItem_0 : decode cX12_deviceItem 0 = .ok (.aload_n 0, 1) := by decide +kernel
theorem dX12_deviceItem_1 : decode cX12_deviceItem 1 = .ok (.iconst 2, 1) := by decide +kernel
theorem dX12_deviceItem_2 : decode cX12_deviceItem 2 = .ok (.invokevirtual 163, 3) := by decide +kernel
theorem dX12_deviceItem_5 : decode cX12_deviceItem 5 = .ok (.istore_n 1, 1) := by decide +kernel
theorem dX12_deviceItem_6 : decode cX12_deviceItem 6 = .ok (.iload_n 1, 1) := by decide +kernel
theorem dX12_deviceItem_7 : decode cX12_deviceItem 7 = .ok (.bipush (-4), 2) := by decide +kernel
theorem dX12_deviceItem_9 : decode cX12_deviceItem 9 = .ok (.if_icmp .ne 8, 3) := by decide +kernel
theorem dX12_deviceItem_12 : decode cX12_deviceItem 12 = .ok (.bipush (-4), 2) := by decide +kernel
theorem dX12_deviceItem_14 : decode cX12_deviceItem 14 = .ok (.goto 8, 3) := by decide +kernel
theorem dX12_deviceItem_17 : decode cX12_deviceItem 17 = .ok (.aload_n 0, 1) := by decide +kernel
theorem dX12_deviceItem_18 : decode cX12_deviceItem 18 = .ok (.iconst 1, 1) := by decide +kernel
theorem dX12_deviceItem_19 : decode cX12_deviceItem 19 = .ok (.invokevirtual 163, 3) := by decide +kernel
theorem dX12_deviceItem_22 : decode cX12_deviceItem 22 = .ok (.istore_n 2, 1) := by decide +kernel
theorem dX12_deviceItem_23 : decode cX12_deviceItem 23 = .ok (.iload_n 2, 1) := by decide +kernel
theorem dX12_deviceItem_24 : decode cX12_deviceItem 24 = .ok (.bipush (-4), 2) := by decide +kernel
theorem dX12_deviceItem_26 : decode cX12_deviceItem 26 = .ok (.if_icmp .ne 8, 3) := by decide +kernel
theorem dX12_deviceItem_29 : decode cX12_deviceItem 29 = .ok (.bipush (-4), 2) := by decide +kernel
theorem dX12_deviceItem_31 : decode cX12_deviceItem 31 = .ok (.goto 8, 3) := by decide +kernel
theorem dX12_deviceItem_34 : decode cX12_deviceItem 34 = .ok (.aload_n 0, 1) := by decide +kernel
theorem dX12_deviceItem_35 : decode cX12_deviceItem 35 = .ok (.iconst 3, 1) := by decide +kernel
theorem dX12_deviceItem_36 : decode cX12_deviceItem 36 = .ok (.invokevirtual 163, 3) := by decide +kernel
theorem dX12_deviceItem_39 : decode cX12_deviceItem 39 = .ok (.istore_n 3, 1) := by decide +kernel
theorem dX12_deviceItem_40 : decode cX12_deviceItem 40 = .ok (.iload_n 3, 1) := by decide +kernel
theorem dX12_deviceItem_41 : decode cX12_deviceItem 41 = .ok (.bipush (-4), 2) := by decide +kernel
theorem dX12_deviceItem_43 : decode cX12_deviceItem 43 = .ok (.if_icmp .ne 8, 3) := by decide +kernel
theorem dX12_deviceItem_46 : decode cX12_deviceItem 46 = .ok (.bipush (-4), 2) := by decide +kernel
theorem dX12_deviceItem_48 : decode cX12_deviceItem 48 = .ok (.goto 8, 3) := by decide +kernel
theorem dX12_deviceItem_51 : decode cX12_deviceItem 51 = .ok (.aload_n 0, 1) := by decide +kernel
theorem dX12_deviceItem_52 : decode cX12_deviceItem 52 = .ok (.iconst 1, 1) := by decide +kernel
theorem dX12_deviceItem_53 : decode cX12_deviceItem 53 = .ok (.invokevirtual 163, 3) := by decide +kernel
theorem dX12_deviceItem_56 : decode cX12_deviceItem 56 = .ok (.istore 4, 2) := by decide +kernel
theorem dX12_deviceItem_58 : decode cX12_deviceItem 58 = .ok (.iload 4, 2) := by decide +kernel
theorem dX12_deviceItem_60 : decode cX12_deviceItem 60 = .ok (.bipush (-4), 2) := by decide +kernel
theorem dX12_deviceItem_62 : decode cX12_deviceItem 62 = .ok (.if_icmp .eq 27, 3) := by decide +kernel
theorem dX12_deviceItem_65 : decode cX12_deviceItem 65 = .ok (.aload_n 0, 1) := by decide +kernel
theorem dX12_deviceItem_66 : decode cX12_deviceItem 66 = .ok (.getfield 138, 3) := by decide +kernel
theorem dX12_deviceItem_69 : decode cX12_deviceItem 69 = .ok (.bipush 8, 2) := by decide +kernel
theorem dX12_deviceItem_71 : decode cX12_deviceItem 71 = .ok (.if_icmp .eq 18, 3) := by decide +kernel
theorem dX12_deviceItem_74 : decode cX12_deviceItem 74 = .ok (.iload_n 1, 1) := by decide +kernel
theorem dX12_deviceItem_75 : decode cX12_deviceItem 75 = .ok (.ifCond .eq 14, 3) := by decide +kernel
theorem dX12_deviceItem_78 : decode cX12_deviceItem 78 = .ok (.iload_n 2, 1) := by decide +kernel
theorem dX12_deviceItem_79 : decode cX12_deviceItem 79 = .ok (.ifCond .eq 10, 3) := by decide +kernel
theorem dX12_deviceItem_82 : decode cX12_deviceItem 82 = .ok (.iload 4, 2) := by decide +kernel
theorem dX12_deviceItem_84 : decode cX12_deviceItem 84 = .ok (.bipush 8, 2) := by decide +kernel
theorem dX12_deviceItem_86 : decode cX12_deviceItem 86 = .ok (.if_icmp .le 5, 3) := by decide +kernel
theorem dX12_deviceItem_89 : decode cX12_deviceItem 89 = .ok (.iconst 0, 1) := by decide +kernel
theorem dX12_deviceItem_90 : decode cX12_deviceItem 90 = .ok (.ireturn, 1) := by decide +kernel
theorem dX12_deviceItem_91 : decode cX12_deviceItem 91 = .ok (.iconst 0, 1) := by decide +kernel
theorem dX12_deviceItem_92 : decode cX12_deviceItem 92 = .ok (.istore 5, 2) := by decide +kernel
theorem dX12_deviceItem_94 : decode cX12_deviceItem 94 = .ok (.iload 5, 2) := by decide +kernel
theorem dX12_deviceItem_96 : decode cX12_deviceItem 96 = .ok (.aload_n 0, 1) := by decide +kernel
theorem dX12_deviceItem_97 : decode cX12_deviceItem 97 = .ok (.getfield 138, 3) := by decide +kernel
theorem dX12_deviceItem_100 : decode cX12_deviceItem 100 = .ok (.if_icmp .ge 22, 3) := by decide +kernel
theorem dX12_deviceItem_103 : decode cX12_deviceItem 103 = .ok (.aload_n 0, 1) := by decide +kernel
theorem dX12_deviceItem_104 : decode cX12_deviceItem 104 = .ok (.getfield 13, 3) := by decide +kernel
theorem dX12_deviceItem_107 : decode cX12_deviceItem 107 = .ok (.iload 5, 2) := by decide +kernel
theorem dX12_deviceItem_109 : decode cX12_deviceItem 109 = .ok (.iaload, 1) := by decide +kernel
theorem dX12_deviceItem_110 : decode cX12_deviceItem 110 = .ok (.iload_n 1, 1) := by decide +kernel
theorem dX12_deviceItem_111 : decode cX12_deviceItem 111 = .ok (.if_icmp .ne 5, 3) := by decide +kernel
theorem dX12_deviceItem_114 : decode cX12_deviceItem 114 = .ok (.iconst 0, 1) := by decide +kernel
theorem dX12_deviceItem_115 : decode cX12_deviceItem 115 = .ok (.ireturn, 1) := by decide +kernel
theorem dX12_deviceItem_116 : decode cX12_deviceItem 116 = .ok (.iinc 5 1, 3) := by decide +kernel
theorem dX12_deviceItem_119 : decode cX12_deviceItem 119 = .ok (.goto (-25), 3) := by decide +kernel
theorem dX12_deviceItem_122 : decode cX12_deviceItem 122 = .ok (.aload_n 0, 1) := by decide +kernel
theorem dX12_deviceItem_123 : decode cX12_deviceItem 123 = .ok (.iload_n 1, 1) := by decide +kernel
theorem dX12_deviceItem_124 : decode cX12_deviceItem 124 = .ok (.iload_n 2, 1) := by decide +kernel
theorem dX12_deviceItem_125 : decode cX12_deviceItem 125 = .ok (.iload_n 3, 1) := by decide +kernel
theorem dX12_deviceItem_126 : decode cX12_deviceItem 126 = .ok (.iload 4, 2) := by decide +kernel
theorem dX12_deviceItem_128 : decode cX12_deviceItem 128 = .ok (.invokevirtual 124, 3) := by decide +kernel
theorem dX12_deviceItem_131 : decode cX12_deviceItem 131 = .ok (.aload_n 0, 1) := by decide +kernel
theorem dX12_deviceItem_132 : decode cX12_deviceItem 132 = .ok (.invokevirtual 166, 3) := by decide +kernel
theorem dX12_deviceItem_135 : decode cX12_deviceItem 135 = .ok (.ireturn, 1) := by decide +kernel
theorem dX12_endItem_0 : decode cX12_endItem 0 = .ok (.aload_n 0, 1) := by decide +kernel
theorem dX12_endItem_1 : decode cX12_endItem 1 = .ok (.iconst 1, 1) := by decide +kernel
theorem dX12_endItem_2 : decode cX12_endItem 2 = .ok (.invokevirtual 163, 3) := by decide +kernel
theorem dX12_endItem_5 : decode cX12_endItem 5 = .ok (.istore_n 1, 1) := by decide +kernel
theorem dX12_endItem_6 : decode cX12_endItem 6 = .ok (.iload_n 1, 1) := by decide +kernel
theorem dX12_endItem_7 : decode cX12_endItem 7 = .ok (.bipush (-4), 2) := by decide +kernel
theorem dX12_endItem_9 : decode cX12_endItem 9 = .ok (.if_icmp .ne 8, 3) := by decide +kernel
theorem dX12_endItem_12 : decode cX12_endItem 12 = .ok (.bipush (-4), 2) := by decide +kernel
theorem dX12_endItem_14 : decode cX12_endItem 14 = .ok (.goto 8, 3) := by decide +kernel
theorem dX12_endItem_17 : decode cX12_endItem 17 = .ok (.aload_n 0, 1) := by decide +kernel
theorem dX12_endItem_18 : decode cX12_endItem 18 = .ok (.iconst 1, 1) := by decide +kernel
theorem dX12_endItem_19 : decode cX12_endItem 19 = .ok (.invokevirtual 163, 3) := by decide +kernel
theorem dX12_endItem_22 : decode cX12_endItem 22 = .ok (.istore_n 2, 1) := by decide +kernel
theorem dX12_endItem_23 : decode cX12_endItem 23 = .ok (.iload_n 2, 1) := by decide +kernel
theorem dX12_endItem_24 : decode cX12_endItem 24 = .ok (.bipush (-4), 2) := by decide +kernel
theorem dX12_endItem_26 : decode cX12_endItem 26 = .ok (.if_icmp .ne 8, 3) := by decide +kernel
theorem dX12_endItem_29 : decode cX12_endItem 29 = .ok (.bipush (-4), 2) := by decide +kernel
theorem dX12_endItem_31 : decode cX12_endItem 31 = .ok (.goto 8, 3) := by decide +kernel
theorem dX12_endItem_34 : decode cX12_endItem 34 = .ok (.aload_n 0, 1) := by decide +kernel
theorem dX12_endItem_35 : decode cX12_endItem 35 = .ok (.iconst 1, 1) := by decide +kernel
theorem dX12_endItem_36 : decode cX12_endItem 36 = .ok (.invokevirtual 163, 3) := by decide +kernel
theorem dX12_endItem_39 : decode cX12_endItem 39 = .ok (.istore_n 3, 1) := by decide +kernel
theorem dX12_endItem_40 : decode cX12_endItem 40 = .ok (.iload_n 3, 1) := by decide +kernel
theorem dX12_endItem_41 : decode cX12_endItem 41 = .ok (.bipush (-4), 2) := by decide +kernel
theorem dX12_endItem_43 : decode cX12_endItem 43 = .ok (.if_icmp .eq 7, 3) := by decide +kernel
theorem dX12_endItem_46 : decode cX12_endItem 46 = .ok (.iload_n 1, 1) := by decide +kernel
theorem dX12_endItem_47 : decode cX12_endItem 47 = .ok (.ifCond .ne 5, 3) := by decide +kernel
theorem dX12_endItem_50 : decode cX12_endItem 50 = .ok (.iconst 0, 1) := by decide +kernel
theorem dX12_endItem_51 : decode cX12_endItem 51 = .ok (.ireturn, 1) := by decide +kernel
theorem dX12_endItem_52 : decode cX12_endItem 52 = .ok (.aload_n 0, 1) := by decide +kernel
theorem dX12_endItem_53 : decode cX12_endItem 53 = .ok (.getfield 16, 3) := by decide +kernel
theorem dX12_endItem_56 : decode cX12_endItem 56 = .ok (.bipush 8, 2) := by decide +kernel
theorem dX12_endItem_58 : decode cX12_endItem 58 = .ok (.iload_n 1, 1) := by decide +kernel
theorem dX12_endItem_59 : decode cX12_endItem 59 = .ok (.iastore, 1) := by decide +kernel
theorem dX12_endItem_60 : decode cX12_endItem 60 = .ok (.aload_n 0, 1) := by decide +kernel
theorem dX12_endItem_61 : decode cX12_endItem 61 = .ok (.iload_n 2, 1) := by decide +kernel
theorem dX12_endItem_62 : decode cX12_endItem 62 = .ok (.putfield 128, 3) := by decide +kernel
theorem dX12_endItem_65 : decode cX12_endItem 65 = .ok (.aload_n 0, 1) := by decide +kernel
theorem dX12_endItem_66 : decode cX12_endItem 66 = .ok (.iload_n 3, 1) := by decide +kernel
theorem dX12_endItem_67 : decode cX12_endItem 67 = .ok (.putfield 132, 3) := by decide +kernel
theorem dX12_endItem_70 : decode cX12_endItem 70 = .ok (.aload_n 0, 1) := by decide +kernel
theorem dX12_endItem_71 : decode cX12_endItem 71 = .ok (.invokevirtual 166, 3) := by decide +kernel
theorem dX12_endItem_74 : decode cX12_endItem 74 = .ok (.ireturn, 1) := by decide +kernel
theorem dX12_readAll_0 : decode cX12_readAll 0 = .ok (.aload_n 0, 1) := by decide +kernel
theorem dX12_readAll_1 : decode cX12_readAll 1 = .ok (.invokevirtual 121, 3) := by decide +kernel
theorem dX12_readAll_4 : decode cX12_readAll 4 = .ok (.aload_n 0, 1) := by decide +kernel
theorem dX12_readAll_5 : decode cX12_readAll 5 = .ok (.iconst 0, 1) := by decide +kernel
theorem dX12_readAll_6 : decode cX12_readAll 6 = .ok (.putfield 152, 3) := by decide +kernel
theorem dX12_readAll_9 : decode cX12_readAll 9 = .ok (.aload_n 0, 1) := by decide +kernel
theorem dX12_readAll_10 : decode cX12_readAll 10 = .ok (.getfield 152, 3) := by decide +kernel
theorem dX12_readAll_13 : decode cX12_readAll 13 = .ok (.aload_n 0, 1) := by decide +kernel
theorem dX12_readAll_14 : decode cX12_readAll 14 = .ok (.getfield 149, 3) := by decide +kernel
theorem dX12_readAll_17 : decode cX12_readAll 17 = .ok (.if_icmp .ge 68, 3) := by decide +kernel
theorem dX12_readAll_20 : decode cX12_readAll 20 = .ok (.aload_n 0, 1) := by decide +kernel
theorem dX12_readAll_21 : decode cX12_readAll 21 = .ok (.getfield 152, 3) := by decide +kernel
theorem dX12_readAll_24 : decode cX12_readAll 24 = .ok (.istore_n 1, 1) := by decide +kernel
theorem dX12_readAll_25 : decode cX12_readAll 25 = .ok (.aload_n 0, 1) := by decide +kernel
theorem dX12_readAll_26 : decode cX12_readAll 26 = .ok (.aload_n 0, 1) := by decide +kernel
theorem dX12_readAll_27 : decode cX12_readAll 27 = .ok (.getfield 152, 3) := by decide +kernel
theorem dX12_readAll_30 : decode cX12_readAll 30 = .ok (.invokevirtual 155, 3) := by decide +kernel
theorem dX12_readAll_33 : decode cX12_readAll 33 = .ok (.istore_n 2, 1) := by decide +kernel
theorem dX12_readAll_34 : decode cX12_readAll 34 = .ok (.aload_n 0, 1) := by decide +kernel
theorem dX12_readAll_35 : decode cX12_readAll 35 = .ok (.dup, 1) := by decide +kernel
theorem dX12_readAll_36 : decode cX12_readAll 36 = .ok (.getfield 152, 3) := by decide +kernel
theorem dX12_readAll_39 : decode cX12_readAll 39 = .ok (.iconst 1, 1) := by decide +kernel
theorem dX12_readAll_40 : decode cX12_readAll 40 = .ok (.iadd, 1) := by decide +kernel
theorem dX12_readAll_41 : decode cX12_readAll 41 = .ok (.putfield 152, 3) := by decide +kernel
theorem dX12_readAll_44 : decode cX12_readAll 44 = .ok (.iload_n 2, 1) := by decide +kernel
theorem dX12_readAll_45 : decode cX12_readAll 45 = .ok (.bipush 100, 2) := by decide +kernel
theorem dX12_readAll_47 : decode cX12_readAll 47 = .ok (.if_icmp .ne 10, 3) := by decide +kernel
theorem dX12_readAll_50 : decode cX12_readAll 50 = .ok (.aload_n 0, 1) := by decide +kernel
theorem dX12_readAll_51 : decode cX12_readAll 51 = .ok (.invokevirtual 170, 3) := by decide +kernel
theorem dX12_readAll_54 : decode cX12_readAll 54 = .ok (.goto 21, 3) := by decide +kernel
theorem dX12_readAll_57 : decode cX12_readAll 57 = .ok (.iload_n 2, 1) := by decide +kernel
theorem dX12_readAll_58 : decode cX12_readAll 58 = .ok (.bipush 101, 2) := by decide +kernel
theorem dX12_readAll_60 : decode cX12_readAll 60 = .ok (.if_icmp .ne 14, 3) := by decide +kernel
theorem dX12_readAll_63 : decode cX12_readAll 63 = .ok (.aload_n 0, 1) := by decide +kernel
theorem dX12_readAll_64 : decode cX12_readAll 64 = .ok (.invokevirtual 173, 3) := by decide +kernel
theorem dX12_readAll_67 : decode cX12_readAll 67 = .ok (.ifCond .eq 7, 3) := by decide +kernel
theorem dX12_readAll_70 : decode cX12_readAll 70 = .ok (.iconst 1, 1) := by decide +kernel
theorem dX12_readAll_71 : decode cX12_readAll 71 = .ok (.goto 4, 3) := by decide +kernel
theorem dX12_readAll_74 : decode cX12_readAll 74 = .ok (.iconst 0, 1) := by decide +kernel
theorem dX12_readAll_75 : decode cX12_readAll 75 = .ok (.istore_n 3, 1) := by decide +kernel
theorem dX12_readAll_76 : decode cX12_readAll 76 = .ok (.iload_n 3, 1) := by decide +kernel
theorem dX12_readAll_77 : decode cX12_readAll 77 = .ok (.ifCond .ne 5, 3) := by decide +kernel
theorem dX12_readAll_80 : decode cX12_readAll 80 = .ok (.iload_n 1, 1) := by decide +kernel
theorem dX12_readAll_81 : decode cX12_readAll 81 = .ok (.ireturn, 1) := by decide +kernel
theorem dX12_readAll_82 : decode cX12_readAll 82 = .ok (.goto (-73), 3) := by decide +kernel
theorem dX12_readAll_85 : decode cX12_readAll 85 = .ok (.bipush (-4), 2) := by decide +kernel
theorem dX12_readAll_87 : decode cX12_readAll 87 = .ok (.ireturn, 1) := by decide +kernel
theorem dX12_fault_0 : decode cX12_fault 0 = .ok (.aload_n 0, 1) := by decide +kernel
theorem dX12_fault_1 : decode cX12_fault 1 = .ok (.invokevirtual 176, 3) := by decide +kernel
theorem dX12_fault_4 : decode cX12_fault 4 = .ok (.ireturn, 1) := by decide +kernel
theorem dX12_lay_0 : decode cX12_lay 0 = .ok (.aload_n 0, 1) := by decide +kernel
theorem dX12_lay_1 : decode cX12_lay 1 = .ok (.invokevirtual 176, 3) := by decide +kernel
theorem dX12_lay_4 : decode cX12_lay 4 = .ok (.bipush (-4), 2) := by decide +kernel
theorem dX12_lay_6 : decode cX12_lay 6 = .ok (.if_icmp .ne 10, 3) := by decide +kernel
theorem dX12_lay_9 : decode cX12_lay 9 = .ok (.aload_n 0, 1) := by decide +kernel
theorem dX12_lay_10 : decode cX12_lay 10 = .ok (.getfield 138, 3) := by decide +kernel
theorem dX12_lay_13 : decode cX12_lay 13 = .ok (.ifCond .ne 6, 3) := by decide +kernel
theorem dX12_lay_16 : decode cX12_lay 16 = .ok (.bipush (-2), 2) := by decide +kernel
theorem dX12_lay_18 : decode cX12_lay 18 = .ok (.ireturn, 1) := by decide +kernel
theorem dX12_lay_19 : decode cX12_lay 19 = .ok (.aload_n 0, 1) := by decide +kernel
theorem dX12_lay_20 : decode cX12_lay 20 = .ok (.invokevirtual 135, 3) := by decide +kernel
theorem dX12_lay_23 : decode cX12_lay 23 = .ok (.aload_n 0, 1) := by decide +kernel
theorem dX12_lay_24 : decode cX12_lay 24 = .ok (.getfield 180, 3) := by decide +kernel
theorem dX12_lay_27 : decode cX12_lay 27 = .ok (.ireturn, 1) := by decide +kernel
theorem dX12_begin_0 : decode cX12_begin 0 = .ok (.aload_n 0, 1) := by decide +kernel
theorem dX12_begin_1 : decode cX12_begin 1 = .ok (.aload_n 0, 1) := by decide +kernel
theorem dX12_begin_2 : decode cX12_begin 2 = .ok (.getfield 138, 3) := by decide +kernel
theorem dX12_begin_5 : decode cX12_begin 5 = .ok (.putfield 180, 3) := by decide +kernel
theorem dX12_begin_8 : decode cX12_begin 8 = .ok (.aload_n 0, 1) := by decide +kernel
theorem dX12_begin_9 : decode cX12_begin 9 = .ok (.aload_n 0, 1) := by decide +kernel
theorem dX12_begin_10 : decode cX12_begin 10 = .ok (.getfield 128, 3) := by decide +kernel
theorem dX12_begin_13 : decode cX12_begin 13 = .ok (.putfield 183, 3) := by decide +kernel
theorem dX12_begin_16 : decode cX12_begin 16 = .ok (.aload_n 0, 1) := by decide +kernel
theorem dX12_begin_17 : decode cX12_begin 17 = .ok (.aload_n 0, 1) := by decide +kernel
theorem dX12_begin_18 : decode cX12_begin 18 = .ok (.getfield 132, 3) := by decide +kernel
theorem dX12_begin_21 : decode cX12_begin 21 = .ok (.putfield 186, 3) := by decide +kernel
theorem dX12_begin_24 : decode cX12_begin 24 = .ok (.iconst 0, 1) := by decide +kernel
theorem dX12_begin_25 : decode cX12_begin 25 = .ok (.istore_n 1, 1) := by decide +kernel
theorem dX12_begin_26 : decode cX12_begin 26 = .ok (.iload_n 1, 1) := by decide +kernel
theorem dX12_begin_27 : decode cX12_begin 27 = .ok (.bipush 8, 2) := by decide +kernel
theorem dX12_begin_29 : decode cX12_begin 29 = .ok (.if_icmp .ge 76, 3) := by decide +kernel
theorem dX12_begin_32 : decode cX12_begin 32 = .ok (.aload_n 0, 1) := by decide +kernel
theorem dX12_begin_33 : decode cX12_begin 33 = .ok (.getfield 25, 3) := by decide +kernel
theorem dX12_begin_36 : decode cX12_begin 36 = .ok (.iload_n 1, 1) := by decide +kernel
theorem dX12_begin_37 : decode cX12_begin 37 = .ok (.aload_n 0, 1) := by decide +kernel
theorem dX12_begin_38 : decode cX12_begin 38 = .ok (.getfield 13, 3) := by decide +kernel
theorem dX12_begin_41 : decode cX12_begin 41 = .ok (.iload_n 1, 1) := by decide +kernel
theorem dX12_begin_42 : decode cX12_begin 42 = .ok (.iaload, 1) := by decide +kernel
theorem dX12_begin_43 : decode cX12_begin 43 = .ok (.iastore, 1) := by decide +kernel
theorem dX12_begin_44 : decode cX12_begin 44 = .ok (.aload_n 0, 1) := by decide +kernel
theorem dX12_begin_45 : decode cX12_begin 45 = .ok (.getfield 28, 3) := by decide +kernel
theorem dX12_begin_48 : decode cX12_begin 48 = .ok (.iload_n 1, 1) := by decide +kernel
theorem dX12_begin_49 : decode cX12_begin 49 = .ok (.aload_n 0, 1) := by decide +kernel
theorem dX12_begin_50 : decode cX12_begin 50 = .ok (.getfield 16, 3) := by decide +kernel
theorem dX12_begin_53 : decode cX12_begin 53 = .ok (.iload_n 1, 1) := by decide +kernel
theorem dX12_begin_54 : decode cX12_begin 54 = .ok (.iaload, 1) := by decide +kernel
theorem dX12_begin_55 : decode cX12_begin 55 = .ok (.iastore, 1) := by decide +kernel
theorem dX12_begin_56 : decode cX12_begin 56 = .ok (.aload_n 0, 1) := by decide +kernel
theorem dX12_begin_57 : decode cX12_begin 57 = .ok (.getfield 31, 3) := by decide +kernel
theorem dX12_begin_60 : decode cX12_begin 60 = .ok (.iload_n 1, 1) := by decide +kernel
theorem dX12_begin_61 : decode cX12_begin 61 = .ok (.aload_n 0, 1) := by decide +kernel
theorem dX12_begin_62 : decode cX12_begin 62 = .ok (.getfield 19, 3) := by decide +kernel
theorem dX12_begin_65 : decode cX12_begin 65 = .ok (.iload_n 1, 1) := by decide +kernel
theorem dX12_begin_66 : decode cX12_begin 66 = .ok (.iaload, 1) := by decide +kernel
theorem dX12_begin_67 : decode cX12_begin 67 = .ok (.iastore, 1) := by decide +kernel
theorem dX12_begin_68 : decode cX12_begin 68 = .ok (.aload_n 0, 1) := by decide +kernel
theorem dX12_begin_69 : decode cX12_begin 69 = .ok (.getfield 34, 3) := by decide +kernel
theorem dX12_begin_72 : decode cX12_begin 72 = .ok (.iload_n 1, 1) := by decide +kernel
theorem dX12_begin_73 : decode cX12_begin 73 = .ok (.aload_n 0, 1) := by decide +kernel
theorem dX12_begin_74 : decode cX12_begin 74 = .ok (.getfield 22, 3) := by decide +kernel
theorem dX12_begin_77 : decode cX12_begin 77 = .ok (.iload_n 1, 1) := by decide +kernel
theorem dX12_begin_78 : decode cX12_begin 78 = .ok (.iaload, 1) := by decide +kernel
theorem dX12_begin_79 : decode cX12_begin 79 = .ok (.iastore, 1) := by decide +kernel
theorem dX12_begin_80 : decode cX12_begin 80 = .ok (.aload_n 0, 1) := by decide +kernel
theorem dX12_begin_81 : decode cX12_begin 81 = .ok (.getfield 46, 3) := by decide +kernel
theorem dX12_begin_84 : decode cX12_begin 84 = .ok (.iload_n 1, 1) := by decide +kernel
theorem dX12_begin_85 : decode cX12_begin 85 = .ok (.iconst 0, 1) := by decide +kernel
theorem dX12_begin_86 : decode cX12_begin 86 = .ok (.iastore, 1) := by decide +kernel
theorem dX12_begin_87 : decode cX12_begin 87 = .ok (.aload_n 0, 1) := by decide +kernel
theorem dX12_begin_88 : decode cX12_begin 88 = .ok (.getfield 49, 3) := by decide +kernel
theorem dX12_begin_91 : decode cX12_begin 91 = .ok (.iload_n 1, 1) := by decide +kernel
theorem dX12_begin_92 : decode cX12_begin 92 = .ok (.iconst 0, 1) := by decide +kernel
theorem dX12_begin_93 : decode cX12_begin 93 = .ok (.iastore, 1) := by decide +kernel
theorem dX12_begin_94 : decode cX12_begin 94 = .ok (.aload_n 0, 1) := by decide +kernel
theorem dX12_begin_95 : decode cX12_begin 95 = .ok (.iload_n 1, 1) := by decide +kernel
theorem dX12_begin_96 : decode cX12_begin 96 = .ok (.invokevirtual 189, 3) := by decide +kernel
theorem dX12_begin_99 : decode cX12_begin 99 = .ok (.iinc 1 1, 3) := by decide +kernel
theorem dX12_begin_102 : decode cX12_begin 102 = .ok (.goto (-76), 3) := by decide +kernel
theorem dX12_begin_105 : decode cX12_begin 105 = .ok (.aload_n 0, 1) := by decide +kernel
theorem dX12_begin_106 : decode cX12_begin 106 = .ok (.getfield 28, 3) := by decide +kernel
theorem dX12_begin_109 : decode cX12_begin 109 = .ok (.aload_n 0, 1) := by decide +kernel
theorem dX12_begin_110 : decode cX12_begin 110 = .ok (.getfield 180, 3) := by decide +kernel
theorem dX12_begin_113 : decode cX12_begin 113 = .ok (.aload_n 0, 1) := by decide +kernel
theorem dX12_begin_114 : decode cX12_begin 114 = .ok (.getfield 16, 3) := by decide +kernel
theorem dX12_begin_117 : decode cX12_begin 117 = .ok (.bipush 8, 2) := by decide +kernel
theorem dX12_begin_119 : decode cX12_begin 119 = .ok (.iaload, 1) := by decide +kernel
theorem dX12_begin_120 : decode cX12_begin 120 = .ok (.iastore, 1) := by decide +kernel
theorem dX12_begin_121 : decode cX12_begin 121 = .ok (.iconst 0, 1) := by decide +kernel
theorem dX12_begin_122 : decode cX12_begin 122 = .ok (.istore_n 1, 1) := by decide +kernel
theorem dX12_begin_123 : decode cX12_begin 123 = .ok (.iload_n 1, 1) := by decide +kernel
theorem dX12_begin_124 : decode cX12_begin 124 = .ok (.bipush 9, 2) := by decide +kernel
theorem dX12_begin_126 : decode cX12_begin 126 = .ok (.if_icmp .ge 16, 3) := by decide +kernel
theorem dX12_begin_129 : decode cX12_begin 129 = .ok (.aload_n 0, 1) := by decide +kernel
theorem dX12_begin_130 : decode cX12_begin 130 = .ok (.getfield 37, 3) := by decide +kernel
theorem dX12_begin_133 : decode cX12_begin 133 = .ok (.iload_n 1, 1) := by decide +kernel
theorem dX12_begin_134 : decode cX12_begin 134 = .ok (.iconst 0, 1) := by decide +kernel
theorem dX12_begin_135 : decode cX12_begin 135 = .ok (.iastore, 1) := by decide +kernel
theorem dX12_begin_136 : decode cX12_begin 136 = .ok (.iinc 1 1, 3) := by decide +kernel
theorem dX12_begin_139 : decode cX12_begin 139 = .ok (.goto (-16), 3) := by decide +kernel
theorem dX12_begin_142 : decode cX12_begin 142 = .ok (.iconst 0, 1) := by decide +kernel
theorem dX12_begin_143 : decode cX12_begin 143 = .ok (.istore_n 1, 1) := by decide +kernel
theorem dX12_begin_144 : decode cX12_begin 144 = .ok (.iload_n 1, 1) := by decide +kernel
theorem dX12_begin_145 : decode cX12_begin 145 = .ok (.sipush 128, 3) := by decide +kernel
theorem dX12_begin_148 : decode cX12_begin 148 = .ok (.if_icmp .ge 16, 3) := by decide +kernel
theorem dX12_begin_151 : decode cX12_begin 151 = .ok (.aload_n 0, 1) := by decide +kernel
theorem dX12_begin_152 : decode cX12_begin 152 = .ok (.getfield 43, 3) := by decide +kernel
theorem dX12_begin_155 : decode cX12_begin 155 = .ok (.iload_n 1, 1) := by decide +kernel
theorem dX12_begin_156 : decode cX12_begin 156 = .ok (.iconst 0, 1) := by decide +kernel
theorem dX12_begin_157 : decode cX12_begin 157 = .ok (.iastore, 1) := by decide +kernel
theorem dX12_begin_158 : decode cX12_begin 158 = .ok (.iinc 1 1, 3) := by decide +kernel
theorem dX12_begin_161 : decode cX12_begin 161 = .ok (.goto (-17), 3) := by decide +kernel
theorem dX12_begin_164 : decode cX12_begin 164 = .ok (.iconst 0, 1) := by decide +kernel
theorem dX12_begin_165 : decode cX12_begin 165 = .ok (.istore_n 1, 1) := by decide +kernel
theorem dX12_begin_166 : decode cX12_begin 166 = .ok (.iload_n 1, 1) := by decide +kernel
theorem dX12_begin_167 : decode cX12_begin 167 = .ok (.bipush 16, 2) := by decide +kernel
theorem dX12_begin_169 : decode cX12_begin 169 = .ok (.if_icmp .ge 16, 3) := by decide +kernel
theorem dX12_begin_172 : decode cX12_begin 172 = .ok (.aload_n 0, 1) := by decide +kernel
theorem dX12_begin_173 : decode cX12_begin 173 = .ok (.getfield 55, 3) := by decide +kernel
theorem dX12_begin_176 : decode cX12_begin 176 = .ok (.iload_n 1, 1) := by decide +kernel
theorem dX12_begin_177 : decode cX12_begin 177 = .ok (.iconst 0, 1) := by decide +kernel
theorem dX12_begin_178 : decode cX12_begin 178 = .ok (.iastore, 1) := by decide +kernel
theorem dX12_begin_179 : decode cX12_begin 179 = .ok (.iinc 1 1, 3) := by decide +kernel
theorem dX12_begin_182 : decode cX12_begin 182 = .ok (.goto (-16), 3) := by decide +kernel
theorem dX12_begin_185 : decode cX12_begin 185 = .ok (.iconst 0, 1) := by decide +kernel
theorem dX12_begin_186 : decode cX12_begin 186 = .ok (.istore_n 1, 1) := by decide +kernel
theorem dX12_begin_187 : decode cX12_begin 187 = .ok (.iload_n 1, 1) := by decide +kernel
theorem dX12_begin_188 : decode cX12_begin 188 = .ok (.bipush 32, 2) := by decide +kernel
theorem dX12_begin_190 : decode cX12_begin 190 = .ok (.if_icmp .ge 16, 3) := by decide +kernel
theorem dX12_begin_193 : decode cX12_begin 193 = .ok (.aload_n 0, 1) := by decide +kernel
theorem dX12_begin_194 : decode cX12_begin 194 = .ok (.getfield 91, 3) := by decide +kernel
theorem dX12_begin_197 : decode cX12_begin 197 = .ok (.iload_n 1, 1) := by decide +kernel
theorem dX12_begin_198 : decode cX12_begin 198 = .ok (.iconst 0, 1) := by decide +kernel
theorem dX12_begin_199 : decode cX12_begin 199 = .ok (.iastore, 1) := by decide +kernel
theorem dX12_begin_200 : decode cX12_begin 200 = .ok (.iinc 1 1, 3) := by decide +kernel
theorem dX12_begin_203 : decode cX12_begin 203 = .ok (.goto (-16), 3) := by decide +kernel
theorem dX12_begin_206 : decode cX12_begin 206 = .ok (.iconst 0, 1) := by decide +kernel
theorem dX12_begin_207 : decode cX12_begin 207 = .ok (.istore_n 1, 1) := by decide +kernel
theorem dX12_begin_208 : decode cX12_begin 208 = .ok (.iload_n 1, 1) := by decide +kernel
theorem dX12_begin_209 : decode cX12_begin 209 = .ok (.iconst 4, 1) := by decide +kernel
theorem dX12_begin_210 : decode cX12_begin 210 = .ok (.if_icmp .ge 16, 3) := by decide +kernel
theorem dX12_begin_213 : decode cX12_begin 213 = .ok (.aload_n 0, 1) := by decide +kernel
theorem dX12_begin_214 : decode cX12_begin 214 = .ok (.getfield 79, 3) := by decide +kernel
theorem dX12_begin_217 : decode cX12_begin 217 = .ok (.iload_n 1, 1) := by decide +kernel
theorem dX12_begin_218 : decode cX12_begin 218 = .ok (.iconst 0, 1) := by decide +kernel
theorem dX12_begin_219 : decode cX12_begin 219 = .ok (.iastore, 1) := by decide +kernel
theorem dX12_begin_220 : decode cX12_begin 220 = .ok (.iinc 1 1, 3) := by decide +kernel
theorem dX12_begin_223 : decode cX12_begin 223 = .ok (.goto (-15), 3) := by decide +kernel
theorem dX12_begin_226 : decode cX12_begin 226 = .ok (.aload_n 0, 1) := by decide +kernel
theorem dX12_begin_227 : decode cX12_begin 227 = .ok (.iconst 0, 1) := by decide +kernel
theorem dX12_begin_228 : decode cX12_begin 228 = .ok (.putfield 193, 3) := by decide +kernel
theorem dX12_begin_231 : decode cX12_begin 231 = .ok (.aload_n 0, 1) := by decide +kernel
theorem dX12_begin_232 : decode cX12_begin 232 = .ok (.iconst 0, 1) := by decide +kernel
theorem dX12_begin_233 : decode cX12_begin 233 = .ok (.putfield 196, 3) := by decide +kernel
theorem dX12_begin_236 : decode cX12_begin 236 = .ok (.aload_n 0, 1) := by decide +kernel
theorem dX12_begin_237 : decode cX12_begin 237 = .ok (.iconst 0, 1) := by decide +kernel
theorem dX12_begin_238 : decode cX12_begin 238 = .ok (.putfield 199, 3) := by decide +kernel
theorem dX12_begin_241 : decode cX12_begin 241 = .ok (.aload_n 0, 1) := by decide +kernel
theorem dX12_begin_242 : decode cX12_begin 242 = .ok (.iconst 0, 1) := by decide +kernel
theorem dX12_begin_243 : decode cX12_begin 243 = .ok (.putfield 203, 3) := by decide +kernel
theorem dX12_begin_246 : decode cX12_begin 246 = .ok (.aload_n 0, 1) := by decide +kernel
theorem dX12_begin_247 : decode cX12_begin 247 = .ok (.iconst 0, 1) := by decide +kernel
theorem dX12_begin_248 : decode cX12_begin 248 = .ok (.putfield 206, 3) := by decide +kernel
theorem dX12_begin_251 : decode cX12_begin 251 = .ok (.return_, 1) := by decide +kernel
theorem dX12_becomeInit_0 : decode cX12_becomeInit 0 = .ok (.aload_n 0, 1) := by decide +kernel
theorem dX12_becomeInit_1 : decode cX12_becomeInit 1 = .ok (.getfield 40, 3) := by decide +kernel
theorem dX12_becomeInit_4 : decode cX12_becomeInit 4 = .ok (.iload_n 1, 1) := by decide +kernel
theorem dX12_becomeInit_5 : decode cX12_becomeInit 5 = .ok (.iconst 0, 1) := by decide +kernel
theorem dX12_becomeInit_6 : decode cX12_becomeInit 6 = .ok (.iastore, 1) := by decide +kernel
theorem dX12_becomeInit_7 : decode cX12_becomeInit 7 = .ok (.aload_n 0, 1) := by decide +kernel
theorem dX12_becomeInit_8 : decode cX12_becomeInit 8 = .ok (.getfield 73, 3) := by decide +kernel
theorem dX12_becomeInit_11 : decode cX12_becomeInit 11 = .ok (.iload_n 1, 1) := by decide +kernel
theorem dX12_becomeInit_12 : decode cX12_becomeInit 12 = .ok (.bipush (-4), 2) := by decide +kernel
theorem dX12_becomeInit_14 : decode cX12_becomeInit 14 = .ok (.iastore, 1) := by decide +kernel
theorem dX12_becomeInit_15 : decode cX12_becomeInit 15 = .ok (.aload_n 0, 1) := by decide +kernel
theorem dX12_becomeInit_16 : decode cX12_becomeInit 16 = .ok (.getfield 76, 3) := by decide +kernel
theorem dX12_becomeInit_19 : decode cX12_becomeInit 19 = .ok (.iload_n 1, 1) := by decide +kernel
theorem dX12_becomeInit_20 : decode cX12_becomeInit 20 = .ok (.bipush (-4), 2) := by decide +kernel
theorem dX12_becomeInit_22 : decode cX12_becomeInit 22 = .ok (.iastore, 1) := by decide +kernel
theorem dX12_becomeInit_23 : decode cX12_becomeInit 23 = .ok (.iconst 0, 1) := by decide +kernel
theorem dX12_becomeInit_24 : decode cX12_becomeInit 24 = .ok (.istore_n 2, 1) := by decide +kernel
theorem dX12_becomeInit_25 : decode cX12_becomeInit 25 = .ok (.iload_n 2, 1) := by decide +kernel
theorem dX12_becomeInit_26 : decode cX12_becomeInit 26 = .ok (.iconst 2, 1) := by decide +kernel
theorem dX12_becomeInit_27 : decode cX12_becomeInit 27 = .ok (.if_icmp .ge 42, 3) := by decide +kernel
theorem dX12_becomeInit_30 : decode cX12_becomeInit 30 = .ok (.aload_n 0, 1) := by decide +kernel
theorem dX12_becomeInit_31 : decode cX12_becomeInit 31 = .ok (.getfield 64, 3) := by decide +kernel
theorem dX12_becomeInit_34 : decode cX12_becomeInit 34 = .ok (.iconst 2, 1) := by decide +kernel
theorem dX12_becomeInit_35 : decode cX12_becomeInit 35 = .ok (.iload_n 1, 1) := by decide +kernel
theorem dX12_becomeInit_36 : decode cX12_becomeInit 36 = .ok (.imul, 1) := by decide +kernel
theorem dX12_becomeInit_37 : decode cX12_becomeInit 37 = .ok (.iload_n 2, 1) := by decide +kernel
theorem dX12_becomeInit_38 : decode cX12_becomeInit 38 = .ok (.iadd, 1) := by decide +kernel
theorem dX12_becomeInit_39 : decode cX12_becomeInit 39 = .ok (.iconst 0, 1) := by decide +kernel
theorem dX12_becomeInit_40 : decode cX12_becomeInit 40 = .ok (.iastore, 1) := by decide +kernel
theorem dX12_becomeInit_41 : decode cX12_becomeInit 41 = .ok (.aload_n 0, 1) := by decide +kernel
theorem dX12_becomeInit_42 : decode cX12_becomeInit 42 = .ok (.getfield 67, 3) := by decide +kernel
theorem dX12_becomeInit_45 : decode cX12_becomeInit 45 = .ok (.iconst 2, 1) := by decide +kernel
theorem dX12_becomeInit_46 : decode cX12_becomeInit 46 = .ok (.iload_n 1, 1) := by decide +kernel
theorem dX12_becomeInit_47 : decode cX12_becomeInit 47 = .ok (.imul, 1) := by decide +kernel
theorem dX12_becomeInit_48 : decode cX12_becomeInit 48 = .ok (.iload_n 2, 1) := by decide +kernel
theorem dX12_becomeInit_49 : decode cX12_becomeInit 49 = .ok (.iadd, 1) := by decide +kernel
theorem dX12_becomeInit_50 : decode cX12_becomeInit 50 = .ok (.iconst 0, 1) := by decide +kernel
theorem dX12_becomeInit_51 : decode cX12_becomeInit 51 = .ok (.iastore, 1) := by decide +kernel
theorem dX12_becomeInit_52 : decode cX12_becomeInit 52 = .ok (.aload_n 0, 1) := by decide +kernel
theorem dX12_becomeInit_53 : decode cX12_becomeInit 53 = .ok (.getfield 70, 3) := by decide +kernel
theorem dX12_becomeInit_56 : decode cX12_becomeInit 56 = .ok (.iconst 2, 1) := by decide +kernel
theorem dX12_becomeInit_57 : decode cX12_becomeInit 57 = .ok (.iload_n 1, 1) := by decide +kernel
theorem dX12_becomeInit_58 : decode cX12_becomeInit 58 = .ok (.imul, 1) := by decide +kernel
theorem dX12_becomeInit_59 : decode cX12_becomeInit 59 = .ok (.iload_n 2, 1) := by decide +kernel
theorem dX12_becomeInit_60 : decode cX12_becomeInit 60 = .ok (.iadd, 1) := by decide +kernel
theorem dX12_becomeInit_61 : decode cX12_becomeInit 61 = .ok (.iconst 1, 1) := by decide +kernel
theorem dX12_becomeInit_62 : decode cX12_becomeInit 62 = .ok (.iastore, 1) := by decide +kernel
theorem dX12_becomeInit_63 : decode cX12_becomeInit 63 = .ok (.iinc 2 1, 3) := by decide +kernel
theorem dX12_becomeInit_66 : decode cX12_becomeInit 66 = .ok (.goto (-41), 3) := by decide +kernel
theorem dX12_becomeInit_69 : decode cX12_becomeInit 69 = .ok (.return_, 1) := by decide +kernel
theorem dX12_isDevice_0 : decode cX12_isDevice 0 = .ok (.iload_n 1, 1) := by decide +kernel
theorem dX12_isDevice_1 : decode cX12_isDevice 1 = .ok (.i2l, 1) := by decide +kernel
theorem dX12_isDevice_2 : decode cX12_isDevice 2 = .ok (.lconst 0, 1) := by decide +kernel
theorem dX12_isDevice_3 : decode cX12_isDevice 3 = .ok (.aload_n 0, 1) := by decide +kernel
theorem dX12_isDevice_4 : decode cX12_isDevice 4 = .ok (.getfield 180, 3) := by decide +kernel
theorem dX12_isDevice_7 : decode cX12_isDevice 7 = .ok (.iconst 1, 1) := by decide +kernel
theorem dX12_isDevice_8 : decode cX12_isDevice 8 = .ok (.isub, 1) := by decide +kernel
theorem dX12_isDevice_9 : decode cX12_isDevice 9 = .ok (.i2l, 1) := by decide +kernel
theorem dX12_isDevice_10 : decode cX12_isDevice 10 = .ok (.invokestatic 145, 3) := by decide +kernel
theorem dX12_isDevice_13 : decode cX12_isDevice 13 = .ok (.ireturn, 1) := by decide +kernel
theorem dX12_sideA_0 : decode cX12_sideA 0 = .ok (.iconst 0, 1) := by decide +kernel
theorem dX12_sideA_1 : decode cX12_sideA 1 = .ok (.istore_n 1, 1) := by decide +kernel
theorem dX12_sideA_2 : decode cX12_sideA 2 = .ok (.iload_n 1, 1) := by decide +kernel
theorem dX12_sideA_3 : decode cX12_sideA 3 = .ok (.aload_n 0, 1) := by decide +kernel
theorem dX12_sideA_4 : decode cX12_sideA 4 = .ok (.getfield 180, 3) := by decide +kernel
theorem dX12_sideA_7 : decode cX12_sideA 7 = .ok (.if_icmp .gt 21, 3) := by decide +kernel
theorem dX12_sideA_10 : decode cX12_sideA 10 = .ok (.aload_n 0, 1) := by decide +kernel
theorem dX12_sideA_11 : decode cX12_sideA 11 = .ok (.getfield 37, 3) := by decide +kernel
theorem dX12_sideA_14 : decode cX12_sideA 14 = .ok (.iload_n 1, 1) := by decide +kernel
theorem dX12_sideA_15 : decode cX12_sideA 15 = .ok (.iaload, 1) := by decide +kernel
theorem dX12_sideA_16 : decode cX12_sideA 16 = .ok (.iconst 1, 1) := by decide +kernel
theorem dX12_sideA_17 : decode cX12_sideA 17 = .ok (.if_icmp .ne 5, 3) := by decide +kernel
theorem dX12_sideA_20 : decode cX12_sideA 20 = .ok (.iload_n 1, 1) := by decide +kernel
theorem dX12_sideA_21 : decode cX12_sideA 21 = .ok (.ireturn, 1) := by decide +kernel
theorem dX12_sideA_22 : decode cX12_sideA 22 = .ok (.iinc 1 1, 3) := by decide +kernel
theorem dX12_sideA_25 : decode cX12_sideA 25 = .ok (.goto (-23), 3) := by decide +kernel
theorem dX12_sideA_28 : decode cX12_sideA 28 = .ok (.aload_n 0, 1) := by decide +kernel
theorem dX12_sideA_29 : decode cX12_sideA 29 = .ok (.getfield 180, 3) := by decide +kernel
theorem dX12_sideA_32 : decode cX12_sideA 32 = .ok (.ireturn, 1) := by decide +kernel
theorem dX12_isCut_0 : decode cX12_isCut 0 = .ok (.iconst 0, 1) := by decide +kernel
theorem dX12_isCut_1 : decode cX12_isCut 1 = .ok (.istore_n 1, 1) := by decide +kernel
theorem dX12_isCut_2 : decode cX12_isCut 2 = .ok (.iconst 0, 1) := by decide +kernel
theorem dX12_isCut_3 : decode cX12_isCut 3 = .ok (.istore_n 2, 1) := by decide +kernel
theorem dX12_isCut_4 : decode cX12_isCut 4 = .ok (.iload_n 2, 1) := by decide +kernel
theorem dX12_isCut_5 : decode cX12_isCut 5 = .ok (.aload_n 0, 1) := by decide +kernel
theorem dX12_isCut_6 : decode cX12_isCut 6 = .ok (.getfield 180, 3) := by decide +kernel
theorem dX12_isCut_9 : decode cX12_isCut 9 = .ok (.if_icmp .gt 29, 3) := by decide +kernel
theorem dX12_isCut_12 : decode cX12_isCut 12 = .ok (.iload_n 1, 1) := by decide +kernel
theorem dX12_isCut_13 : decode cX12_isCut 13 = .ok (.ifCond .ne 13, 3) := by decide +kernel
theorem dX12_isCut_16 : decode cX12_isCut 16 = .ok (.aload_n 0, 1) := by decide +kernel
theorem dX12_isCut_17 : decode cX12_isCut 17 = .ok (.getfield 37, 3) := by decide +kernel
theorem dX12_isCut_20 : decode cX12_isCut 20 = .ok (.iload_n 2, 1) := by decide +kernel
theorem dX12_isCut_21 : decode cX12_isCut 21 = .ok (.iaload, 1) := by decide +kernel
theorem dX12_isCut_22 : decode cX12_isCut 22 = .ok (.iconst 1, 1) := by decide +kernel
theorem dX12_isCut_23 : decode cX12_isCut 23 = .ok (.if_icmp .ne 7, 3) := by decide +kernel
theorem dX12_isCut_26 : decode cX12_isCut 26 = .ok (.iconst 1, 1) := by decide +kernel
theorem dX12_isCut_27 : decode cX12_isCut 27 = .ok (.goto 4, 3) := by decide +kernel
theorem dX12_isCut_30 : decode cX12_isCut 30 = .ok (.iconst 0, 1) := by decide +kernel
theorem dX12_isCut_31 : decode cX12_isCut 31 = .ok (.istore_n 1, 1) := by decide +kernel
theorem dX12_isCut_32 : decode cX12_isCut 32 = .ok (.iinc 2 1, 3) := by decide +kernel
theorem dX12_isCut_35 : decode cX12_isCut 35 = .ok (.goto (-31), 3) := by decide +kernel
theorem dX12_isCut_38 : decode cX12_isCut 38 = .ok (.iload_n 1, 1) := by decide +kernel
theorem dX12_isCut_39 : decode cX12_isCut 39 = .ok (.ireturn, 1) := by decide +kernel
theorem dX12_firstB_0 : decode cX12_firstB 0 = .ok (.aload_n 0, 1) := by decide +kernel
theorem dX12_firstB_1 : decode cX12_firstB 1 = .ok (.getfield 180, 3) := by decide +kernel
theorem dX12_firstB_4 : decode cX12_firstB 4 = .ok (.istore_n 1, 1) := by decide +kernel
theorem dX12_firstB_5 : decode cX12_firstB 5 = .ok (.iload_n 1, 1) := by decide +kernel
theorem dX12_firstB_6 : decode cX12_firstB 6 = .ok (.ifCond .lt 21, 3) := by decide +kernel
theorem dX12_firstB_9 : decode cX12_firstB 9 = .ok (.aload_n 0, 1) := by decide +kernel
theorem dX12_firstB_10 : decode cX12_firstB 10 = .ok (.getfield 37, 3) := by decide +kernel
theorem dX12_firstB_13 : decode cX12_firstB 13 = .ok (.iload_n 1, 1) := by decide +kernel
theorem dX12_firstB_14 : decode cX12_firstB 14 = .ok (.iaload, 1) := by decide +kernel
theorem dX12_firstB_15 : decode cX12_firstB 15 = .ok (.iconst 1, 1) := by decide +kernel
theorem dX12_firstB_16 : decode cX12_firstB 16 = .ok (.if_icmp .ne 5, 3) := by decide +kernel
theorem dX12_firstB_19 : decode cX12_firstB 19 = .ok (.iload_n 1, 1) := by decide +kernel
theorem dX12_firstB_20 : decode cX12_firstB 20 = .ok (.ireturn, 1) := by decide +kernel
theorem dX12_firstB_21 : decode cX12_firstB 21 = .ok (.iinc 1 (-1), 3) := by decide +kernel
theorem dX12_firstB_24 : decode cX12_firstB 24 = .ok (.goto (-19), 3) := by decide +kernel
theorem dX12_firstB_27 : decode cX12_firstB 27 = .ok (.aload_n 0, 1) := by decide +kernel
theorem dX12_firstB_28 : decode cX12_firstB 28 = .ok (.getfield 180, 3) := by decide +kernel
theorem dX12_firstB_31 : decode cX12_firstB 31 = .ok (.ireturn, 1) := by decide +kernel
theorem dX12_sideOf_0 : decode cX12_sideOf 0 = .ok (.iload_n 1, 1) := by decide +kernel
theorem dX12_sideOf_1 : decode cX12_sideOf 1 = .ok (.aload_n 0, 1) := by decide +kernel
theorem dX12_sideOf_2 : decode cX12_sideOf 2 = .ok (.invokevirtual 209, 3) := by decide +kernel
theorem dX12_sideOf_5 : decode cX12_sideOf 5 = .ok (.if_icmp .ge 7, 3) := by decide +kernel
theorem dX12_sideOf_8 : decode cX12_sideOf 8 = .ok (.iconst 1, 1) := by decide +kernel
theorem dX12_sideOf_9 : decode cX12_sideOf 9 = .ok (.goto 16, 3) := by decide +kernel
theorem dX12_sideOf_12 : decode cX12_sideOf 12 = .ok (.iload_n 1, 1) := by decide +kernel
theorem dX12_sideOf_13 : decode cX12_sideOf 13 = .ok (.aload_n 0, 1) := by decide +kernel
theorem dX12_sideOf_14 : decode cX12_sideOf 14 = .ok (.invokevirtual 212, 3) := by decide +kernel
theorem dX12_sideOf_17 : decode cX12_sideOf 17 = .ok (.if_icmp .lt 7, 3) := by decide +kernel
theorem dX12_sideOf_20 : decode cX12_sideOf 20 = .ok (.iconst 2, 1) := by decide +kernel
theorem dX12_sideOf_21 : decode cX12_sideOf 21 = .ok (.goto 4, 3) := by decide +kernel
theorem dX12_sideOf_24 : decode cX12_sideOf 24 = .ok (.iconst 0, 1) := by decide +kernel
theorem dX12_sideOf_25 : decode cX12_sideOf 25 = .ok (.ireturn, 1) := by decide +kernel
theorem dX12_wires_0 : decode cX12_wires 0 = .ok (.iconst 0, 1) := by decide +kernel
theorem dX12_wires_1 : decode cX12_wires 1 = .ok (.istore_n 3, 1) := by decide +kernel
theorem dX12_wires_2 : decode cX12_wires 2 = .ok (.iload_n 1, 1) := by decide +kernel
theorem dX12_wires_3 : decode cX12_wires 3 = .ok (.istore 4, 2) := by decide +kernel
theorem dX12_wires_5 : decode cX12_wires 5 = .ok (.iload 4, 2) := by decide +kernel
theorem dX12_wires_7 : decode cX12_wires 7 = .ok (.iload_n 2, 1) := by decide +kernel
theorem dX12_wires_8 : decode cX12_wires 8 = .ok (.if_icmp .gt 19, 3) := by decide +kernel
theorem dX12_wires_11 : decode cX12_wires 11 = .ok (.iload_n 3, 1) := by decide +kernel
theorem dX12_wires_12 : decode cX12_wires 12 = .ok (.aload_n 0, 1) := by decide +kernel
theorem dX12_wires_13 : decode cX12_wires 13 = .ok (.getfield 28, 3) := by decide +kernel
theorem dX12_wires_16 : decode cX12_wires 16 = .ok (.iload 4, 2) := by decide +kernel
theorem dX12_wires_18 : decode cX12_wires 18 = .ok (.iaload, 1) := by decide +kernel
theorem dX12_wires_19 : decode cX12_wires 19 = .ok (.iadd, 1) := by decide +kernel
theorem dX12_wires_20 : decode cX12_wires 20 = .ok (.istore_n 3, 1) := by decide +kernel
theorem dX12_wires_21 : decode cX12_wires 21 = .ok (.iinc 4 1, 3) := by decide +kernel
theorem dX12_wires_24 : decode cX12_wires 24 = .ok (.goto (-19), 3) := by decide +kernel
theorem dX12_wires_27 : decode cX12_wires 27 = .ok (.iload_n 3, 1) := by decide +kernel
theorem dX12_wires_28 : decode cX12_wires 28 = .ok (.ireturn, 1) := by decide +kernel
theorem dX12_whenBy_0 : decode cX12_whenBy 0 = .ok (.iload_n 1, 1) := by decide +kernel
theorem dX12_whenBy_1 : decode cX12_whenBy 1 = .ok (.aload_n 0, 1) := by decide +kernel
theorem dX12_whenBy_2 : decode cX12_whenBy 2 = .ok (.invokevirtual 209, 3) := by decide +kernel
theorem dX12_whenBy_5 : decode cX12_whenBy 5 = .ok (.if_icmp .ge 22, 3) := by decide +kernel
theorem dX12_whenBy_8 : decode cX12_whenBy 8 = .ok (.aload_n 0, 1) := by decide +kernel
theorem dX12_whenBy_9 : decode cX12_whenBy 9 = .ok (.getfield 193, 3) := by decide +kernel
theorem dX12_whenBy_12 : decode cX12_whenBy 12 = .ok (.aload_n 0, 1) := by decide +kernel
theorem dX12_whenBy_13 : decode cX12_whenBy 13 = .ok (.iconst 0, 1) := by decide +kernel
theorem dX12_whenBy_14 : decode cX12_whenBy 14 = .ok (.iload_n 1, 1) := by decide +kernel
theorem dX12_whenBy_15 : decode cX12_whenBy 15 = .ok (.invokevirtual 215, 3) := by decide +kernel
theorem dX12_whenBy_18 : decode cX12_whenBy 18 = .ok (.iadd, 1) := by decide +kernel
theorem dX12_whenBy_19 : decode cX12_whenBy 19 = .ok (.iload_n 1, 1) := by decide +kernel
theorem dX12_whenBy_20 : decode cX12_whenBy 20 = .ok (.aload_n 0, 1) := by decide +kernel
theorem dX12_whenBy_21 : decode cX12_whenBy 21 = .ok (.getfield 183, 3) := by decide +kernel
theorem dX12_whenBy_24 : decode cX12_whenBy 24 = .ok (.imul, 1) := by decide +kernel
theorem dX12_whenBy_25 : decode cX12_whenBy 25 = .ok (.iadd, 1) := by decide +kernel
theorem dX12_whenBy_26 : decode cX12_whenBy 26 = .ok (.ireturn, 1) := by decide +kernel
theorem dX12_whenBy_27 : decode cX12_whenBy 27 = .ok (.aload_n 0, 1) := by decide +kernel
theorem dX12_whenBy_28 : decode cX12_whenBy 28 = .ok (.invokevirtual 212, 3) := by decide +kernel
theorem dX12_whenBy_31 : decode cX12_whenBy 31 = .ok (.istore_n 2, 1) := by decide +kernel
theorem dX12_whenBy_32 : decode cX12_whenBy 32 = .ok (.aload_n 0, 1) := by decide +kernel
theorem dX12_whenBy_33 : decode cX12_whenBy 33 = .ok (.getfield 193, 3) := by decide +kernel
theorem dX12_whenBy_36 : decode cX12_whenBy 36 = .ok (.aload_n 0, 1) := by decide +kernel
theorem dX12_whenBy_37 : decode cX12_whenBy 37 = .ok (.iload_n 2, 1) := by decide +kernel
theorem dX12_whenBy_38 : decode cX12_whenBy 38 = .ok (.iconst 1, 1) := by decide +kernel
theorem dX12_whenBy_39 : decode cX12_whenBy 39 = .ok (.iadd, 1) := by decide +kernel
theorem dX12_whenBy_40 : decode cX12_whenBy 40 = .ok (.aload_n 0, 1) := by decide +kernel
theorem dX12_whenBy_41 : decode cX12_whenBy 41 = .ok (.getfield 180, 3) := by decide +kernel
theorem dX12_whenBy_44 : decode cX12_whenBy 44 = .ok (.invokevirtual 215, 3) := by decide +kernel
theorem dX12_whenBy_47 : decode cX12_whenBy 47 = .ok (.iadd, 1) := by decide +kernel
theorem dX12_whenBy_48 : decode cX12_whenBy 48 = .ok (.aload_n 0, 1) := by decide +kernel
theorem dX12_whenBy_49 : decode cX12_whenBy 49 = .ok (.getfield 180, 3) := by decide +kernel
theorem dX12_whenBy_52 : decode cX12_whenBy 52 = .ok (.iload_n 2, 1) := by decide +kernel
theorem dX12_whenBy_53 : decode cX12_whenBy 53 = .ok (.isub, 1) := by decide +kernel
theorem dX12_whenBy_54 : decode cX12_whenBy 54 = .ok (.iconst 1, 1) := by decide +kernel
theorem dX12_whenBy_55 : decode cX12_whenBy 55 = .ok (.isub, 1) := by decide +kernel
theorem dX12_whenBy_56 : decode cX12_whenBy 56 = .ok (.aload_n 0, 1) := by decide +kernel
theorem dX12_whenBy_57 : decode cX12_whenBy 57 = .ok (.getfield 186, 3) := by decide +kernel
theorem dX12_whenBy_60 : decode cX12_whenBy 60 = .ok (.imul, 1) := by decide +kernel
theorem dX12_whenBy_61 : decode cX12_whenBy 61 = .ok (.iadd, 1) := by decide +kernel
theorem dX12_whenBy_62 : decode cX12_whenBy 62 = .ok (.aload_n 0, 1) := by decide +kernel
theorem dX12_whenBy_63 : decode cX12_whenBy 63 = .ok (.iload_n 2, 1) := by decide +kernel
theorem dX12_whenBy_64 : decode cX12_whenBy 64 = .ok (.iconst 1, 1) := by decide +kernel
theorem dX12_whenBy_65 : decode cX12_whenBy 65 = .ok (.iadd, 1) := by decide +kernel
theorem dX12_whenBy_66 : decode cX12_whenBy 66 = .ok (.iload_n 1, 1) := by decide +kernel
theorem dX12_whenBy_67 : decode cX12_whenBy 67 = .ok (.invokevirtual 215, 3) := by decide +kernel
theorem dX12_whenBy_70 : decode cX12_whenBy 70 = .ok (.iadd, 1) := by decide +kernel
theorem dX12_whenBy_71 : decode cX12_whenBy 71 = .ok (.iload_n 1, 1) := by decide +kernel
theorem dX12_whenBy_72 : decode cX12_whenBy 72 = .ok (.iload_n 2, 1) := by decide +kernel
theorem dX12_whenBy_73 : decode cX12_whenBy 73 = .ok (.isub, 1) := by decide +kernel
theorem dX12_whenBy_74 : decode cX12_whenBy 74 = .ok (.aload_n 0, 1) := by decide +kernel
theorem dX12_whenBy_75 : decode cX12_whenBy 75 = .ok (.getfield 183, 3) := by decide +kernel
theorem dX12_whenBy_78 : decode cX12_whenBy 78 = .ok (.imul, 1) := by decide +kernel
theorem dX12_whenBy_79 : decode cX12_whenBy 79 = .ok (.iadd, 1) := by decide +kernel
theorem dX12_whenBy_80 : decode cX12_whenBy 80 = .ok (.ireturn, 1) := by decide +kernel
theorem dX12_tripOf_0 : decode cX12_tripOf 0 = .ok (.iload_n 1, 1) := by decide +kernel
theorem dX12_tripOf_1 : decode cX12_tripOf 1 = .ok (.ifCond .ne 7, 3) := by decide +kernel
theorem dX12_tripOf_4 : decode cX12_tripOf 4 = .ok (.iconst 0, 1) := by decide +kernel
theorem dX12_tripOf_5 : decode cX12_tripOf 5 = .ok (.goto 22, 3) := by decide +kernel
theorem dX12_tripOf_8 : decode cX12_tripOf 8 = .ok (.iconst 2, 1) := by decide +kernel
theorem dX12_tripOf_9 : decode cX12_tripOf 9 = .ok (.iload_n 2, 1) := by decide +kernel
theorem dX12_tripOf_10 : decode cX12_tripOf 10 = .ok (.imul, 1) := by decide +kernel
theorem dX12_tripOf_11 : decode cX12_tripOf 11 = .ok (.iload_n 1, 1) := by decide +kernel
theorem dX12_tripOf_12 : decode cX12_tripOf 12 = .ok (.aload_n 0, 1) := by decide +kernel
theorem dX12_tripOf_13 : decode cX12_tripOf 13 = .ok (.getfield 183, 3) := by decide +kernel
theorem dX12_tripOf_16 : decode cX12_tripOf 16 = .ok (.imul, 1) := by decide +kernel
theorem dX12_tripOf_17 : decode cX12_tripOf 17 = .ok (.iadd, 1) := by decide +kernel
theorem dX12_tripOf_18 : decode cX12_tripOf 18 = .ok (.iload_n 1, 1) := by decide +kernel
theorem dX12_tripOf_19 : decode cX12_tripOf 19 = .ok (.iconst 1, 1) := by decide +kernel
theorem dX12_tripOf_20 : decode cX12_tripOf 20 = .ok (.isub, 1) := by decide +kernel
theorem dX12_tripOf_21 : decode cX12_tripOf 21 = .ok (.aload_n 0, 1) := by decide +kernel
theorem dX12_tripOf_22 : decode cX12_tripOf 22 = .ok (.getfield 186, 3) := by decide +kernel
theorem dX12_tripOf_25 : decode cX12_tripOf 25 = .ok (.imul, 1) := by decide +kernel
theorem dX12_tripOf_26 : decode cX12_tripOf 26 = .ok (.iadd, 1) := by decide +kernel
theorem dX12_tripOf_27 : decode cX12_tripOf 27 = .ok (.ireturn, 1) := by decide +kernel
theorem dX12_trip_0 : decode cX12_trip 0 = .ok (.aload_n 0, 1) := by decide +kernel
theorem dX12_trip_1 : decode cX12_trip 1 = .ok (.invokevirtual 219, 3) := by decide +kernel
theorem dX12_trip_4 : decode cX12_trip 4 = .ok (.ifCond .ne 23, 3) := by decide +kernel
theorem dX12_trip_7 : decode cX12_trip 7 = .ok (.aload_n 0, 1) := by decide +kernel
theorem dX12_trip_8 : decode cX12_trip 8 = .ok (.iconst 0, 1) := by decide +kernel
theorem dX12_trip_9 : decode cX12_trip 9 = .ok (.aload_n 0, 1) := by decide +kernel
theorem dX12_trip_10 : decode cX12_trip 10 = .ok (.getfield 180, 3) := by decide +kernel
theorem dX12_trip_13 : decode cX12_trip 13 = .ok (.invokevirtual 215, 3) := by decide +kernel
theorem dX12_trip_16 : decode cX12_trip 16 = .ok (.aload_n 0, 1) := by decide +kernel
theorem dX12_trip_17 : decode cX12_trip 17 = .ok (.getfield 180, 3) := by decide +kernel
theorem dX12_trip_20 : decode cX12_trip 20 = .ok (.aload_n 0, 1) := by decide +kernel
theorem dX12_trip_21 : decode cX12_trip 21 = .ok (.getfield 183, 3) := by decide +kernel
theorem dX12_trip_24 : decode cX12_trip 24 = .ok (.imul, 1) := by decide +kernel
theorem dX12_trip_25 : decode cX12_trip 25 = .ok (.iadd, 1) := by decide +kernel
theorem dX12_trip_26 : decode cX12_trip 26 = .ok (.ireturn, 1) := by decide +kernel
theorem dX12_trip_27 : decode cX12_trip 27 = .ok (.aload_n 0, 1) := by decide +kernel
theorem dX12_trip_28 : decode cX12_trip 28 = .ok (.aload_n 0, 1) := by decide +kernel
theorem dX12_trip_29 : decode cX12_trip 29 = .ok (.invokevirtual 209, 3) := by decide +kernel
theorem dX12_trip_32 : decode cX12_trip 32 = .ok (.aload_n 0, 1) := by decide +kernel
theorem dX12_trip_33 : decode cX12_trip 33 = .ok (.iconst 0, 1) := by decide +kernel
theorem dX12_trip_34 : decode cX12_trip 34 = .ok (.aload_n 0, 1) := by decide +kernel
theorem dX12_trip_35 : decode cX12_trip 35 = .ok (.invokevirtual 209, 3) := by decide +kernel
theorem dX12_trip_38 : decode cX12_trip 38 = .ok (.iconst 1, 1) := by decide +kernel
theorem dX12_trip_39 : decode cX12_trip 39 = .ok (.isub, 1) := by decide +kernel
theorem dX12_trip_40 : decode cX12_trip 40 = .ok (.invokevirtual 215, 3) := by decide +kernel
theorem dX12_trip_43 : decode cX12_trip 43 = .ok (.invokevirtual 222, 3) := by decide +kernel
theorem dX12_trip_46 : decode cX12_trip 46 = .ok (.istore_n 1, 1) := by decide +kernel
theorem dX12_trip_47 : decode cX12_trip 47 = .ok (.aload_n 0, 1) := by decide +kernel
theorem dX12_trip_48 : decode cX12_trip 48 = .ok (.aload_n 0, 1) := by decide +kernel
theorem dX12_trip_49 : decode cX12_trip 49 = .ok (.getfield 180, 3) := by decide +kernel
theorem dX12_trip_52 : decode cX12_trip 52 = .ok (.aload_n 0, 1) := by decide +kernel
theorem dX12_trip_53 : decode cX12_trip 53 = .ok (.invokevirtual 212, 3) := by decide +kernel
theorem dX12_trip_56 : decode cX12_trip 56 = .ok (.isub, 1) := by decide +kernel
theorem dX12_trip_57 : decode cX12_trip 57 = .ok (.aload_n 0, 1) := by decide +kernel
theorem dX12_trip_58 : decode cX12_trip 58 = .ok (.aload_n 0, 1) := by decide +kernel
theorem dX12_trip_59 : decode cX12_trip 59 = .ok (.invokevirtual 212, 3) := by decide +kernel
theorem dX12_trip_62 : decode cX12_trip 62 = .ok (.iconst 1, 1) := by decide +kernel
theorem dX12_trip_63 : decode cX12_trip 63 = .ok (.iadd, 1) := by decide +kernel
theorem dX12_trip_64 : decode cX12_trip 64 = .ok (.aload_n 0, 1) := by decide +kernel
theorem dX12_trip_65 : decode cX12_trip 65 = .ok (.getfield 180, 3) := by decide +kernel
theorem dX12_trip_68 : decode cX12_trip 68 = .ok (.invokevirtual 215, 3) := by decide +kernel
theorem dX12_trip_71 : decode cX12_trip 71 = .ok (.invokevirtual 222, 3) := by decide +kernel
theorem dX12_trip_74 : decode cX12_trip 74 = .ok (.istore_n 2, 1) := by decide +kernel
theorem dX12_trip_75 : decode cX12_trip 75 = .ok (.iload_n 1, 1) := by decide +kernel
theorem dX12_trip_76 : decode cX12_trip 76 = .ok (.iload_n 2, 1) := by decide +kernel
theorem dX12_trip_77 : decode cX12_trip 77 = .ok (.if_icmp .le 7, 3) := by decide +kernel
theorem dX12_trip_80 : decode cX12_trip 80 = .ok (.iload_n 1, 1) := by decide +kernel
theorem dX12_trip_81 : decode cX12_trip 81 = .ok (.goto 4, 3) := by decide +kernel
theorem dX12_trip_84 : decode cX12_trip 84 = .ok (.iload_n 2, 1) := by decide +kernel
theorem dX12_trip_85 : decode cX12_trip 85 = .ok (.ireturn, 1) := by decide +kernel
theorem dX12_ownAt_0 : decode cX12_ownAt 0 = .ok (.iload_n 2, 1) := by decide +kernel
theorem dX12_ownAt_1 : decode cX12_ownAt 1 = .ok (.i2l, 1) := by decide +kernel
theorem dX12_ownAt_2 : decode cX12_ownAt 2 = .ok (.aload_n 0, 1) := by decide +kernel
theorem dX12_ownAt_3 : decode cX12_ownAt 3 = .ok (.getfield 34, 3) := by decide +kernel
theorem dX12_ownAt_6 : decode cX12_ownAt 6 = .ok (.iload_n 1, 1) := by decide +kernel
theorem dX12_ownAt_7 : decode cX12_ownAt 7 = .ok (.iaload, 1) := by decide +kernel
theorem dX12_ownAt_8 : decode cX12_ownAt 8 = .ok (.iconst 4, 1) := by decide +kernel
theorem dX12_ownAt_9 : decode cX12_ownAt 9 = .ok (.isub, 1) := by decide +kernel
theorem dX12_ownAt_10 : decode cX12_ownAt 10 = .ok (.i2l, 1) := by decide +kernel
theorem dX12_ownAt_11 : decode cX12_ownAt 11 = .ok (.lmul, 1) := by decide +kernel
theorem dX12_ownAt_12 : decode cX12_ownAt 12 = .ok (.lstore_n 3, 1) := by decide +kernel
theorem dX12_ownAt_13 : decode cX12_ownAt 13 = .ok (.lload_n 3, 1) := by decide +kernel
theorem dX12_ownAt_14 : decode cX12_ownAt 14 = .ok (.ldc2_w 225, 3) := by decide +kernel
theorem dX12_ownAt_17 : decode cX12_ownAt 17 = .ok (.ldiv, 1) := by decide +kernel
theorem dX12_ownAt_18 : decode cX12_ownAt 18 = .ok (.lstore 5, 2) := by decide +kernel
theorem dX12_ownAt_20 : decode cX12_ownAt 20 = .ok (.aload_n 0, 1) := by decide +kernel
theorem dX12_ownAt_21 : decode cX12_ownAt 21 = .ok (.getfield 31, 3) := by decide +kernel
theorem dX12_ownAt_24 : decode cX12_ownAt 24 = .ok (.iload_n 1, 1) := by decide +kernel
theorem dX12_ownAt_25 : decode cX12_ownAt 25 = .ok (.iaload, 1) := by decide +kernel
theorem dX12_ownAt_26 : decode cX12_ownAt 26 = .ok (.iload_n 2, 1) := by decide +kernel
theorem dX12_ownAt_27 : decode cX12_ownAt 27 = .ok (.iadd, 1) := by decide +kernel
theorem dX12_ownAt_28 : decode cX12_ownAt 28 = .ok (.i2l, 1) := by decide +kernel
theorem dX12_ownAt_29 : decode cX12_ownAt 29 = .ok (.lload 5, 2) := by decide +kernel
theorem dX12_ownAt_31 : decode cX12_ownAt 31 = .ok (.ldc2_w 225, 3) := by decide +kernel
theorem dX12_ownAt_34 : decode cX12_ownAt 34 = .ok (.lmul, 1) := by decide +kernel
theorem dX12_ownAt_35 : decode cX12_ownAt 35 = .ok (.lload_n 3, 1) := by decide +kernel
theorem dX12_ownAt_36 : decode cX12_ownAt 36 = .ok (.lcmp, 1) := by decide +kernel
theorem dX12_ownAt_37 : decode cX12_ownAt 37 = .ok (.ifCond .le 10, 3) := by decide +kernel
theorem dX12_ownAt_40 : decode cX12_ownAt 40 = .ok (.lload 5, 2) := by decide +kernel
theorem dX12_ownAt_42 : decode cX12_ownAt 42 = .ok (.lconst 1, 1) := by decide +kernel
theorem dX12_ownAt_43 : decode cX12_ownAt 43 = .ok (.lsub, 1) := by decide +kernel
theorem dX12_ownAt_44 : decode cX12_ownAt 44 = .ok (.goto 5, 3) := by decide +kernel
theorem dX12_ownAt_47 : decode cX12_ownAt 47 = .ok (.lload 5, 2) := by decide +kernel
theorem dX12_ownAt_49 : decode cX12_ownAt 49 = .ok (.ladd, 1) := by decide +kernel
theorem dX12_ownAt_50 : decode cX12_ownAt 50 = .ok (.lreturn, 1) := by decide +kernel
theorem dX12_systemAt_0 : decode cX12_systemAt 0 = .ok (.aload_n 0, 1) := by decide +kernel
theorem dX12_systemAt_1 : decode cX12_systemAt 1 = .ok (.iload_n 1, 1) := by decide +kernel
theorem dX12_systemAt_2 : decode cX12_systemAt 2 = .ok (.iload_n 2, 1) := by decide +kernel
theorem dX12_systemAt_3 : decode cX12_systemAt 3 = .ok (.invokevirtual 227, 3) := by decide +kernel
theorem dX12_systemAt_6 : decode cX12_systemAt 6 = .ok (.aload_n 0, 1) := by decide +kernel
theorem dX12_systemAt_7 : decode cX12_systemAt 7 = .ok (.getfield 46, 3) := by decide +kernel
theorem dX12_systemAt_10 : decode cX12_systemAt 10 = .ok (.iload_n 1, 1) := by decide +kernel
theorem dX12_systemAt_11 : decode cX12_systemAt 11 = .ok (.iaload, 1) := by decide +kernel
theorem dX12_systemAt_12 : decode cX12_systemAt 12 = .ok (.i2l, 1) := by decide +kernel
theorem dX12_systemAt_13 : decode cX12_systemAt 13 = .ok (.ladd, 1) := by decide +kernel
theorem dX12_systemAt_14 : decode cX12_systemAt 14 = .ok (.lreturn, 1) := by decide +kernel
theorem dX12_byteAt_0 : decode cX12_byteAt 0 = .ok (.aload_n 0, 1) := by decide +kernel
theorem dX12_byteAt_1 : decode cX12_byteAt 1 = .ok (.iload_n 1, 1) := by decide +kernel
theorem dX12_byteAt_2 : decode cX12_byteAt 2 = .ok (.iload_n 3, 1) := by decide +kernel
theorem dX12_byteAt_3 : decode cX12_byteAt 3 = .ok (.invokevirtual 231, 3) := by decide +kernel
theorem dX12_byteAt_6 : decode cX12_byteAt 6 = .ok (.ldc2_w 234, 3) := by decide +kernel
theorem dX12_byteAt_9 : decode cX12_byteAt 9 = .ok (.lrem, 1) := by decide +kernel
theorem dX12_byteAt_10 : decode cX12_byteAt 10 = .ok (.lstore 4, 2) := by decide +kernel
theorem dX12_byteAt_12 : decode cX12_byteAt 12 = .ok (.lload 4, 2) := by decide +kernel
theorem dX12_byteAt_14 : decode cX12_byteAt 14 = .ok (.lconst 0, 1) := by decide +kernel
theorem dX12_byteAt_15 : decode cX12_byteAt 15 = .ok (.lcmp, 1) := by decide +kernel
theorem dX12_byteAt_16 : decode cX12_byteAt 16 = .ok (.ifCond .ge 12, 3) := by decide +kernel
theorem dX12_byteAt_19 : decode cX12_byteAt 19 = .ok (.lload 4, 2) := by decide +kernel
theorem dX12_byteAt_21 : decode cX12_byteAt 21 = .ok (.ldc2_w 234, 3) := by decide +kernel
theorem dX12_byteAt_24 : decode cX12_byteAt 24 = .ok (.ladd, 1) := by decide +kernel
theorem dX12_byteAt_25 : decode cX12_byteAt 25 = .ok (.goto 5, 3) := by decide +kernel
theorem dX12_byteAt_28 : decode cX12_byteAt 28 = .ok (.lload 4, 2) := by decide +kernel
theorem dX12_byteAt_30 : decode cX12_byteAt 30 = .ok (.l2i, 1) := by decide +kernel
theorem dX12_byteAt_31 : decode cX12_byteAt 31 = .ok (.istore 6, 2) := by decide +kernel
theorem dX12_byteAt_33 : decode cX12_byteAt 33 = .ok (.iload_n 2, 1) := by decide +kernel
theorem dX12_byteAt_34 : decode cX12_byteAt 34 = .ok (.tableswitch 58 0 3 #[30, 37, 44, 51], 30) := by decide +kernel
theorem dX12_byteAt_64 : decode cX12_byteAt 64 = .ok (.aload_n 0, 1) := by decide +kernel
theorem dX12_byteAt_65 : decode cX12_byteAt 65 = .ok (.getfield 25, 3) := by decide +kernel
theorem dX12_byteAt_68 : decode cX12_byteAt 68 = .ok (.iload_n 1, 1) := by decide +kernel
theorem dX12_byteAt_69 : decode cX12_byteAt 69 = .ok (.iaload, 1) := by decide +kernel
theorem dX12_byteAt_70 : decode cX12_byteAt 70 = .ok (.ireturn, 1) := by decide +kernel
theorem dX12_byteAt_71 : decode cX12_byteAt 71 = .ok (.aload_n 0, 1) := by decide +kernel
theorem dX12_byteAt_72 : decode cX12_byteAt 72 = .ok (.getfield 40, 3) := by decide +kernel
theorem dX12_byteAt_75 : decode cX12_byteAt 75 = .ok (.iload_n 1, 1) := by decide +kernel
theorem dX12_byteAt_76 : decode cX12_byteAt 76 = .ok (.iaload, 1) := by decide +kernel
theorem dX12_byteAt_77 : decode cX12_byteAt 77 = .ok (.ireturn, 1) := by decide +kernel
theorem dX12_byteAt_78 : decode cX12_byteAt 78 = .ok (.iload 6, 2) := by decide +kernel
theorem dX12_byteAt_80 : decode cX12_byteAt 80 = .ok (.sipush 256, 3) := by decide +kernel
theorem dX12_byteAt_83 : decode cX12_byteAt 83 = .ok (.irem, 1) := by decide +kernel
theorem dX12_byteAt_84 : decode cX12_byteAt 84 = .ok (.ireturn, 1) := by decide +kernel
theorem dX12_byteAt_85 : decode cX12_byteAt 85 = .ok (.iload 6, 2) := by decide +kernel
theorem dX12_byteAt_87 : decode cX12_byteAt 87 = .ok (.sipush 256, 3) := by decide +kernel
theorem dX12_byteAt_90 : decode cX12_byteAt 90 = .ok (.idiv, 1) := by decide +kernel
theorem dX12_byteAt_91 : decode cX12_byteAt 91 = .ok (.ireturn, 1) := by decide +kernel
theorem dX12_byteAt_92 : decode cX12_byteAt 92 = .ok (.aload_n 0, 1) := by decide +kernel
theorem dX12_byteAt_93 : decode cX12_byteAt 93 = .ok (.getfield 43, 3) := by decide +kernel
theorem dX12_byteAt_96 : decode cX12_byteAt 96 = .ok (.bipush 16, 2) := by decide +kernel
theorem dX12_byteAt_98 : decode cX12_byteAt 98 = .ok (.iload_n 1, 1) := by decide +kernel
theorem dX12_byteAt_99 : decode cX12_byteAt 99 = .ok (.imul, 1) := by decide +kernel
theorem dX12_byteAt_100 : decode cX12_byteAt 100 = .ok (.iload_n 2, 1) := by decide +kernel
theorem dX12_byteAt_101 : decode cX12_byteAt 101 = .ok (.iadd, 1) := by decide +kernel
theorem dX12_byteAt_102 : decode cX12_byteAt 102 = .ok (.iaload, 1) := by decide +kernel
theorem dX12_byteAt_103 : decode cX12_byteAt 103 = .ok (.ireturn, 1) := by decide +kernel
theorem dX12_device_0 : decode cX12_device 0 = .ok (.aload_n 0, 1) := by decide +kernel
theorem dX12_device_1 : decode cX12_device 1 = .ok (.iload_n 1, 1) := by decide +kernel
theorem dX12_device_2 : decode cX12_device 2 = .ok (.invokevirtual 236, 3) := by decide +kernel
theorem dX12_device_5 : decode cX12_device 5 = .ok (.ifCond .eq 15, 3) := by decide +kernel
theorem dX12_device_8 : decode cX12_device 8 = .ok (.iload_n 2, 1) := by decide +kernel
theorem dX12_device_9 : decode cX12_device 9 = .ok (.i2l, 1) := by decide +kernel
theorem dX12_device_10 : decode cX12_device 10 = .ok (.lconst 0, 1) := by decide +kernel
theorem dX12_device_11 : decode cX12_device 11 = .ok (.ldc2_w 240, 3) := by decide +kernel
theorem dX12_device_14 : decode cX12_device 14 = .ok (.invokestatic 145, 3) := by decide +kernel
theorem dX12_device_17 : decode cX12_device 17 = .ok (.ifCond .ne 5, 3) := by decide +kernel
theorem dX12_device_20 : decode cX12_device 20 = .ok (.iconst (-1), 1) := by decide +kernel
theorem dX12_device_21 : decode cX12_device 21 = .ok (.ireturn, 1) := by decide +kernel
theorem dX12_device_22 : decode cX12_device 22 = .ok (.iload_n 2, 1) := by decide +kernel
theorem dX12_device_23 : decode cX12_device 23 = .ok (.tableswitch 68 0 4 #[33, 40, 47, 54, 61], 33) := by decide +kernel
theorem dX12_device_56 : decode cX12_device 56 = .ok (.aload_n 0, 1) := by decide +kernel
theorem dX12_device_57 : decode cX12_device 57 = .ok (.getfield 25, 3) := by decide +kernel
theorem dX12_device_60 : decode cX12_device 60 = .ok (.iload_n 1, 1) := by decide +kernel
theorem dX12_device_61 : decode cX12_device 61 = .ok (.iaload, 1) := by decide +kernel
theorem dX12_device_62 : decode cX12_device 62 = .ok (.ireturn, 1) := by decide +kernel
theorem dX12_device_63 : decode cX12_device 63 = .ok (.aload_n 0, 1) := by decide +kernel
theorem dX12_device_64 : decode cX12_device 64 = .ok (.getfield 28, 3) := by decide +kernel
theorem dX12_device_67 : decode cX12_device 67 = .ok (.iload_n 1, 1) := by decide +kernel
theorem dX12_device_68 : decode cX12_device 68 = .ok (.iaload, 1) := by decide +kernel
theorem dX12_device_69 : decode cX12_device 69 = .ok (.ireturn, 1) := by decide +kernel
theorem dX12_device_70 : decode cX12_device 70 = .ok (.aload_n 0, 1) := by decide +kernel
theorem dX12_device_71 : decode cX12_device 71 = .ok (.getfield 31, 3) := by decide +kernel
theorem dX12_device_74 : decode cX12_device 74 = .ok (.iload_n 1, 1) := by decide +kernel
theorem dX12_device_75 : decode cX12_device 75 = .ok (.iaload, 1) := by decide +kernel
theorem dX12_device_76 : decode cX12_device 76 = .ok (.ireturn, 1) := by decide +kernel
theorem dX12_device_77 : decode cX12_device 77 = .ok (.aload_n 0, 1) := by decide +kernel
theorem dX12_device_78 : decode cX12_device 78 = .ok (.getfield 34, 3) := by decide +kernel
theorem dX12_device_81 : decode cX12_device 81 = .ok (.iload_n 1, 1) := by decide +kernel
theorem dX12_device_82 : decode cX12_device 82 = .ok (.iaload, 1) := by decide +kernel
theorem dX12_device_83 : decode cX12_device 83 = .ok (.ireturn, 1) := by decide +kernel
theorem dX12_device_84 : decode cX12_device 84 = .ok (.aload_n 0, 1) := by decide +kernel
theorem dX12_device_85 : decode cX12_device 85 = .ok (.getfield 40, 3) := by decide +kernel
theorem dX12_device_88 : decode cX12_device 88 = .ok (.iload_n 1, 1) := by decide +kernel
theorem dX12_device_89 : decode cX12_device 89 = .ok (.iaload, 1) := by decide +kernel
theorem dX12_device_90 : decode cX12_device 90 = .ok (.ireturn, 1) := by decide +kernel
theorem dX12_device_91 : decode cX12_device 91 = .ok (.aload_n 0, 1) := by decide +kernel
theorem dX12_device_92 : decode cX12_device 92 = .ok (.iload_n 1, 1) := by decide +kernel
theorem dX12_device_93 : decode cX12_device 93 = .ok (.invokevirtual 242, 3) := by decide +kernel
theorem dX12_device_96 : decode cX12_device 96 = .ok (.ireturn, 1) := by decide +kernel
theorem dX12_memory_0 : decode cX12_memory 0 = .ok (.aload_n 0, 1) := by decide +kernel
theorem dX12_memory_1 : decode cX12_memory 1 = .ok (.iload_n 1, 1) := by decide +kernel
theorem dX12_memory_2 : decode cX12_memory 2 = .ok (.invokevirtual 236, 3) := by decide +kernel
theorem dX12_memory_5 : decode cX12_memory 5 = .ok (.ifCond .eq 28, 3) := by decide +kernel
theorem dX12_memory_8 : decode cX12_memory 8 = .ok (.iload_n 2, 1) := by decide +kernel
theorem dX12_memory_9 : decode cX12_memory 9 = .ok (.i2l, 1) := by decide +kernel
theorem dX12_memory_10 : decode cX12_memory 10 = .ok (.lconst 0, 1) := by decide +kernel
theorem dX12_memory_11 : decode cX12_memory 11 = .ok (.ldc2_w 245, 3) := by decide +kernel
theorem dX12_memory_14 : decode cX12_memory 14 = .ok (.invokestatic 145, 3) := by decide +kernel
theorem dX12_memory_17 : decode cX12_memory 17 = .ok (.ifCond .eq 16, 3) := by decide +kernel
theorem dX12_memory_20 : decode cX12_memory 20 = .ok (.aload_n 0, 1) := by decide +kernel
theorem dX12_memory_21 : decode cX12_memory 21 = .ok (.iload_n 1, 1) := by decide +kernel
theorem dX12_memory_22 : decode cX12_memory 22 = .ok (.iload_n 2, 1) := by decide +kernel
theorem dX12_memory_23 : decode cX12_memory 23 = .ok (.aload_n 0, 1) := by decide +kernel
theorem dX12_memory_24 : decode cX12_memory 24 = .ok (.getfield 193, 3) := by decide +kernel
theorem dX12_memory_27 : decode cX12_memory 27 = .ok (.invokevirtual 247, 3) := by decide +kernel
theorem dX12_memory_30 : decode cX12_memory 30 = .ok (.goto 4, 3) := by decide +kernel
theorem dX12_memory_33 : decode cX12_memory 33 = .ok (.iconst (-1), 1) := by decide +kernel
theorem dX12_memory_34 : decode cX12_memory 34 = .ok (.ireturn, 1) := by decide +kernel
theorem dX12_own_0 : decode cX12_own 0 = .ok (.aload_n 0, 1) := by decide +kernel
theorem dX12_own_1 : decode cX12_own 1 = .ok (.iload_n 1, 1) := by decide +kernel
theorem dX12_own_2 : decode cX12_own 2 = .ok (.invokevirtual 236, 3) := by decide +kernel
theorem dX12_own_5 : decode cX12_own 5 = .ok (.ifCond .eq 29, 3) := by decide +kernel
theorem dX12_own_8 : decode cX12_own 8 = .ok (.iload_n 2, 1) := by decide +kernel
theorem dX12_own_9 : decode cX12_own 9 = .ok (.i2l, 1) := by decide +kernel
theorem dX12_own_10 : decode cX12_own 10 = .ok (.ldc2_w 251, 3) := by decide +kernel
theorem dX12_own_13 : decode cX12_own 13 = .ok (.ldc2_w 245, 3) := by decide +kernel
theorem dX12_own_16 : decode cX12_own 16 = .ok (.invokestatic 145, 3) := by decide +kernel
theorem dX12_own_19 : decode cX12_own 19 = .ok (.ifCond .eq 15, 3) := by decide +kernel
theorem dX12_own_22 : decode cX12_own 22 = .ok (.iload_n 3, 1) := by decide +kernel
theorem dX12_own_23 : decode cX12_own 23 = .ok (.i2l, 1) := by decide +kernel
theorem dX12_own_24 : decode cX12_own 24 = .ok (.lconst 0, 1) := by decide +kernel
theorem dX12_own_25 : decode cX12_own 25 = .ok (.ldc2_w 253, 3) := by decide +kernel
theorem dX12_own_28 : decode cX12_own 28 = .ok (.invokestatic 145, 3) := by decide +kernel
theorem dX12_own_31 : decode cX12_own 31 = .ok (.ifCond .ne 5, 3) := by decide +kernel
theorem dX12_own_34 : decode cX12_own 34 = .ok (.iconst (-1), 1) := by decide +kernel
theorem dX12_own_35 : decode cX12_own 35 = .ok (.ireturn, 1) := by decide +kernel
theorem dX12_own_36 : decode cX12_own 36 = .ok (.aload_n 0, 1) := by decide +kernel
theorem dX12_own_37 : decode cX12_own 37 = .ok (.getfield 43, 3) := by decide +kernel
theorem dX12_own_40 : decode cX12_own 40 = .ok (.bipush 16, 2) := by decide +kernel
theorem dX12_own_42 : decode cX12_own 42 = .ok (.iload_n 1, 1) := by decide +kernel
theorem dX12_own_43 : decode cX12_own 43 = .ok (.imul, 1) := by decide +kernel
theorem dX12_own_44 : decode cX12_own 44 = .ok (.iload_n 2, 1) := by decide +kernel
theorem dX12_own_45 : decode cX12_own 45 = .ok (.iadd, 1) := by decide +kernel
theorem dX12_own_46 : decode cX12_own 46 = .ok (.iaload, 1) := by decide +kernel
theorem dX12_own_47 : decode cX12_own 47 = .ok (.istore 4, 2) := by decide +kernel
theorem dX12_own_49 : decode cX12_own 49 = .ok (.aload_n 0, 1) := by decide +kernel
theorem dX12_own_50 : decode cX12_own 50 = .ok (.getfield 43, 3) := by decide +kernel
theorem dX12_own_53 : decode cX12_own 53 = .ok (.bipush 16, 2) := by decide +kernel
theorem dX12_own_55 : decode cX12_own 55 = .ok (.iload_n 1, 1) := by decide +kernel
theorem dX12_own_56 : decode cX12_own 56 = .ok (.imul, 1) := by decide +kernel
theorem dX12_own_57 : decode cX12_own 57 = .ok (.iload_n 2, 1) := by decide +kernel
theorem dX12_own_58 : decode cX12_own 58 = .ok (.iadd, 1) := by decide +kernel
theorem dX12_own_59 : decode cX12_own 59 = .ok (.iload_n 3, 1) := by decide +kernel
theorem dX12_own_60 : decode cX12_own 60 = .ok (.iastore, 1) := by decide +kernel
theorem dX12_own_61 : decode cX12_own 61 = .ok (.iload 4, 2) := by decide +kernel
theorem dX12_own_63 : decode cX12_own 63 = .ok (.ireturn, 1) := by decide +kernel
theorem dX12_cutMany_0 : decode cX12_cutMany 0 = .ok (.iconst 0, 1) := by decide +kernel
theorem dX12_cutMany_1 : decode cX12_cutMany 1 = .ok (.istore_n 1, 1) := by decide +kernel
theorem dX12_cutMany_2 : decode cX12_cutMany 2 = .ok (.iconst 0, 1) := by decide +kernel
theorem dX12_cutMany_3 : decode cX12_cutMany 3 = .ok (.istore_n 2, 1) := by decide +kernel
theorem dX12_cutMany_4 : decode cX12_cutMany 4 = .ok (.iload_n 2, 1) := by decide +kernel
theorem dX12_cutMany_5 : decode cX12_cutMany 5 = .ok (.aload_n 0, 1) := by decide +kernel
theorem dX12_cutMany_6 : decode cX12_cutMany 6 = .ok (.getfield 180, 3) := by decide +kernel
theorem dX12_cutMany_9 : decode cX12_cutMany 9 = .ok (.if_icmp .gt 18, 3) := by decide +kernel
theorem dX12_cutMany_12 : decode cX12_cutMany 12 = .ok (.iload_n 1, 1) := by decide +kernel
theorem dX12_cutMany_13 : decode cX12_cutMany 13 = .ok (.aload_n 0, 1) := by decide +kernel
theorem dX12_cutMany_14 : decode cX12_cutMany 14 = .ok (.getfield 37, 3) := by decide +kernel
theorem dX12_cutMany_17 : decode cX12_cutMany 17 = .ok (.iload_n 2, 1) := by decide +kernel
theorem dX12_cutMany_18 : decode cX12_cutMany 18 = .ok (.iaload, 1) := by decide +kernel
theorem dX12_cutMany_19 : decode cX12_cutMany 19 = .ok (.iadd, 1) := by decide +kernel
theorem dX12_cutMany_20 : decode cX12_cutMany 20 = .ok (.istore_n 1, 1) := by decide +kernel
theorem dX12_cutMany_21 : decode cX12_cutMany 21 = .ok (.iinc 2 1, 3) := by decide +kernel
theorem dX12_cutMany_24 : decode cX12_cutMany 24 = .ok (.goto (-20), 3) := by decide +kernel
theorem dX12_cutMany_27 : decode cX12_cutMany 27 = .ok (.iload_n 1, 1) := by decide +kernel
theorem dX12_cutMany_28 : decode cX12_cutMany 28 = .ok (.ireturn, 1) := by decide +kernel
theorem dX12_cut_0 : decode cX12_cut 0 = .ok (.iload_n 1, 1) := by decide +kernel
theorem dX12_cut_1 : decode cX12_cut 1 = .ok (.i2l, 1) := by decide +kernel
theorem dX12_cut_2 : decode cX12_cut 2 = .ok (.lconst 0, 1) := by decide +kernel
theorem dX12_cut_3 : decode cX12_cut 3 = .ok (.aload_n 0, 1) := by decide +kernel
theorem dX12_cut_4 : decode cX12_cut 4 = .ok (.getfield 180, 3) := by decide +kernel
theorem dX12_cut_7 : decode cX12_cut 7 = .ok (.i2l, 1) := by decide +kernel
theorem dX12_cut_8 : decode cX12_cut 8 = .ok (.invokestatic 145, 3) := by decide +kernel
theorem dX12_cut_11 : decode cX12_cut 11 = .ok (.ifCond .eq 13, 3) := by decide +kernel
theorem dX12_cut_14 : decode cX12_cut 14 = .ok (.iload_n 2, 1) := by decide +kernel
theorem dX12_cut_15 : decode cX12_cut 15 = .ok (.i2l, 1) := by decide +kernel
theorem dX12_cut_16 : decode cX12_cut 16 = .ok (.lconst 0, 1) := by decide +kernel
theorem dX12_cut_17 : decode cX12_cut 17 = .ok (.lconst 1, 1) := by decide +kernel
theorem dX12_cut_18 : decode cX12_cut 18 = .ok (.invokestatic 145, 3) := by decide +kernel
theorem dX12_cut_21 : decode cX12_cut 21 = .ok (.ifCond .ne 5, 3) := by decide +kernel
theorem dX12_cut_24 : decode cX12_cut 24 = .ok (.iconst (-1), 1) := by decide +kernel
theorem dX12_cut_25 : decode cX12_cut 25 = .ok (.ireturn, 1) := by decide +kernel
theorem dX12_cut_26 : decode cX12_cut 26 = .ok (.aload_n 0, 1) := by decide +kernel
theorem dX12_cut_27 : decode cX12_cut 27 = .ok (.getfield 37, 3) := by decide +kernel
theorem dX12_cut_30 : decode cX12_cut 30 = .ok (.iload_n 1, 1) := by decide +kernel
theorem dX12_cut_31 : decode cX12_cut 31 = .ok (.iaload, 1) := by decide +kernel
theorem dX12_cut_32 : decode cX12_cut 32 = .ok (.iload_n 2, 1) := by decide +kernel
theorem dX12_cut_33 : decode cX12_cut 33 = .ok (.if_icmp .ne 6, 3) := by decide +kernel
theorem dX12_cut_36 : decode cX12_cut 36 = .ok (.bipush (-2), 2) := by decide +kernel
theorem dX12_cut_38 : decode cX12_cut 38 = .ok (.ireturn, 1) := by decide +kernel
theorem dX12_cut_39 : decode cX12_cut 39 = .ok (.aload_n 0, 1) := by decide +kernel
theorem dX12_cut_40 : decode cX12_cut 40 = .ok (.getfield 37, 3) := by decide +kernel
theorem dX12_cut_43 : decode cX12_cut 43 = .ok (.iload_n 1, 1) := by decide +kernel
theorem dX12_cut_44 : decode cX12_cut 44 = .ok (.iload_n 2, 1) := by decide +kernel
theorem dX12_cut_45 : decode cX12_cut 45 = .ok (.iastore, 1) := by decide +kernel
theorem dX12_cut_46 : decode cX12_cut 46 = .ok (.aload_n 0, 1) := by decide +kernel
theorem dX12_cut_47 : decode cX12_cut 47 = .ok (.invokevirtual 255, 3) := by decide +kernel
theorem dX12_cut_50 : decode cX12_cut 50 = .ok (.ireturn, 1) := by decide +kernel
theorem dX12_lose_0 : decode cX12_lose 0 = .ok (.iload_n 1, 1) := by decide +kernel
theorem dX12_lose_1 : decode cX12_lose 1 = .ok (.i2l, 1) := by decide +kernel
theorem dX12_lose_2 : decode cX12_lose 2 = .ok (.lconst 0, 1) := by decide +kernel
theorem dX12_lose_3 : decode cX12_lose 3 = .ok (.ldc2_w 258, 3) := by decide +kernel
theorem dX12_lose_6 : decode cX12_lose 6 = .ok (.invokestatic 145, 3) := by decide +kernel
theorem dX12_lose_9 : decode cX12_lose 9 = .ok (.ifCond .ne 5, 3) := by decide +kernel
theorem dX12_lose_12 : decode cX12_lose 12 = .ok (.iconst (-1), 1) := by decide +kernel
theorem dX12_lose_13 : decode cX12_lose 13 = .ok (.ireturn, 1) := by decide +kernel
theorem dX12_lose_14 : decode cX12_lose 14 = .ok (.aload_n 0, 1) := by decide +kernel
theorem dX12_lose_15 : decode cX12_lose 15 = .ok (.getfield 196, 3) := by decide +kernel
theorem dX12_lose_18 : decode cX12_lose 18 = .ok (.istore_n 2, 1) := by decide +kernel
theorem dX12_lose_19 : decode cX12_lose 19 = .ok (.aload_n 0, 1) := by decide +kernel
theorem dX12_lose_20 : decode cX12_lose 20 = .ok (.iload_n 1, 1) := by decide +kernel
theorem dX12_lose_21 : decode cX12_lose 21 = .ok (.putfield 196, 3) := by decide +kernel
theorem dX12_lose_24 : decode cX12_lose 24 = .ok (.iload_n 2, 1) := by decide +kernel
theorem dX12_lose_25 : decode cX12_lose 25 = .ok (.ireturn, 1) := by decide +kernel
theorem dX12_state_0 : decode cX12_state 0 = .ok (.aload_n 0, 1) := by decide +kernel
theorem dX12_state_1 : decode cX12_state 1 = .ok (.iload_n 1, 1) := by decide +kernel
theorem dX12_state_2 : decode cX12_state 2 = .ok (.invokevirtual 236, 3) := by decide +kernel
theorem dX12_state_5 : decode cX12_state 5 = .ok (.ifCond .eq 15, 3) := by decide +kernel
theorem dX12_state_8 : decode cX12_state 8 = .ok (.iload_n 2, 1) := by decide +kernel
theorem dX12_state_9 : decode cX12_state 9 = .ok (.i2l, 1) := by decide +kernel
theorem dX12_state_10 : decode cX12_state 10 = .ok (.lconst 0, 1) := by decide +kernel
theorem dX12_state_11 : decode cX12_state 11 = .ok (.ldc2_w 260, 3) := by decide +kernel
theorem dX12_state_14 : decode cX12_state 14 = .ok (.invokestatic 145, 3) := by decide +kernel
theorem dX12_state_17 : decode cX12_state 17 = .ok (.ifCond .ne 5, 3) := by decide +kernel
theorem dX12_state_20 : decode cX12_state 20 = .ok (.iconst (-1), 1) := by decide +kernel
theorem dX12_state_21 : decode cX12_state 21 = .ok (.ireturn, 1) := by decide +kernel
theorem dX12_state_22 : decode cX12_state 22 = .ok (.aload_n 0, 1) := by decide +kernel
theorem dX12_state_23 : decode cX12_state 23 = .ok (.getfield 40, 3) := by decide +kernel
theorem dX12_state_26 : decode cX12_state 26 = .ok (.iload_n 1, 1) := by decide +kernel
theorem dX12_state_27 : decode cX12_state 27 = .ok (.iaload, 1) := by decide +kernel
theorem dX12_state_28 : decode cX12_state 28 = .ok (.istore_n 3, 1) := by decide +kernel
theorem dX12_state_29 : decode cX12_state 29 = .ok (.aload_n 0, 1) := by decide +kernel
theorem dX12_state_30 : decode cX12_state 30 = .ok (.iload_n 1, 1) := by decide +kernel
theorem dX12_state_31 : decode cX12_state 31 = .ok (.invokevirtual 242, 3) := by decide +kernel
theorem dX12_state_34 : decode cX12_state 34 = .ok (.ifCond .eq 15, 3) := by decide +kernel
theorem dX12_state_37 : decode cX12_state 37 = .ok (.iload_n 3, 1) := by decide +kernel
theorem dX12_state_38 : decode cX12_state 38 = .ok (.iload_n 2, 1) := by decide +kernel
theorem dX12_state_39 : decode cX12_state 39 = .ok (.if_icmp .eq 10, 3) := by decide +kernel
theorem dX12_state_42 : decode cX12_state 42 = .ok (.iload_n 2, 1) := by decide +kernel
theorem dX12_state_43 : decode cX12_state 43 = .ok (.iload_n 3, 1) := by decide +kernel
theorem dX12_state_44 : decode cX12_state 44 = .ok (.iconst 1, 1) := by decide +kernel
theorem dX12_state_45 : decode cX12_state 45 = .ok (.iadd, 1) := by decide +kernel
theorem dX12_state_46 : decode cX12_state 46 = .ok (.if_icmp .le 6, 3) := by decide +kernel
theorem dX12_state_49 : decode cX12_state 49 = .ok (.bipush (-2), 2) := by decide +kernel
theorem dX12_state_51 : decode cX12_state 51 = .ok (.ireturn, 1) := by decide +kernel
theorem dX12_state_52 : decode cX12_state 52 = .ok (.aload_n 0, 1) := by decide +kernel
theorem dX12_state_53 : decode cX12_state 53 = .ok (.getfield 40, 3) := by decide +kernel
theorem dX12_state_56 : decode cX12_state 56 = .ok (.iload_n 1, 1) := by decide +kernel
theorem dX12_state_57 : decode cX12_state 57 = .ok (.iload_n 2, 1) := by decide +kernel
theorem dX12_state_58 : decode cX12_state 58 = .ok (.iastore, 1) := by decide +kernel
theorem dX12_state_59 : decode cX12_state 59 = .ok (.iload_n 2, 1) := by decide +kernel
theorem dX12_state_60 : decode cX12_state 60 = .ok (.ifCond .ne 8, 3) := by decide +kernel
theorem dX12_state_63 : decode cX12_state 63 = .ok (.aload_n 0, 1) := by decide +kernel
theorem dX12_state_64 : decode cX12_state 64 = .ok (.iload_n 1, 1) := by decide +kernel
theorem dX12_state_65 : decode cX12_state 65 = .ok (.invokevirtual 189, 3) := by decide +kernel
theorem dX12_state_68 : decode cX12_state 68 = .ok (.iload_n 3, 1) := by decide +kernel
theorem dX12_state_69 : decode cX12_state 69 = .ok (.ireturn, 1) := by decide +kernel
theorem dX12_map_0 : decode cX12_map 0 = .ok (.aload_n 0, 1) := by decide +kernel
theorem dX12_map_1 : decode cX12_map 1 = .ok (.iload_n 1, 1) := by decide +kernel
theorem dX12_map_2 : decode cX12_map 2 = .ok (.invokevirtual 236, 3) := by decide +kernel
theorem dX12_map_5 : decode cX12_map 5 = .ok (.ifCond .eq 71, 3) := by decide +kernel
theorem dX12_map_8 : decode cX12_map 8 = .ok (.iload_n 2, 1) := by decide +kernel
theorem dX12_map_9 : decode cX12_map 9 = .ok (.i2l, 1) := by decide +kernel
theorem dX12_map_10 : decode cX12_map 10 = .ok (.lconst 0, 1) := by decide +kernel
theorem dX12_map_11 : decode cX12_map 11 = .ok (.lconst 1, 1) := by decide +kernel
theorem dX12_map_12 : decode cX12_map 12 = .ok (.invokestatic 145, 3) := by decide +kernel
theorem dX12_map_15 : decode cX12_map 15 = .ok (.ifCond .eq 61, 3) := by decide +kernel
theorem dX12_map_18 : decode cX12_map 18 = .ok (.iload 4, 2) := by decide +kernel
theorem dX12_map_20 : decode cX12_map 20 = .ok (.i2l, 1) := by decide +kernel
theorem dX12_map_21 : decode cX12_map 21 = .ok (.lconst 1, 1) := by decide +kernel
theorem dX12_map_22 : decode cX12_map 22 = .ok (.ldc2_w 262, 3) := by decide +kernel
theorem dX12_map_25 : decode cX12_map 25 = .ok (.invokestatic 145, 3) := by decide +kernel
theorem dX12_map_28 : decode cX12_map 28 = .ok (.ifCond .eq 48, 3) := by decide +kernel
theorem dX12_map_31 : decode cX12_map 31 = .ok (.iload_n 3, 1) := by decide +kernel
theorem dX12_map_32 : decode cX12_map 32 = .ok (.i2l, 1) := by decide +kernel
theorem dX12_map_33 : decode cX12_map 33 = .ok (.lconst 0, 1) := by decide +kernel
theorem dX12_map_34 : decode cX12_map 34 = .ok (.bipush 32, 2) := by decide +kernel
theorem dX12_map_36 : decode cX12_map 36 = .ok (.iload 4, 2) := by decide +kernel
theorem dX12_map_38 : decode cX12_map 38 = .ok (.isub, 1) := by decide +kernel
theorem dX12_map_39 : decode cX12_map 39 = .ok (.i2l, 1) := by decide +kernel
theorem dX12_map_40 : decode cX12_map 40 = .ok (.invokestatic 145, 3) := by decide +kernel
theorem dX12_map_43 : decode cX12_map 43 = .ok (.ifCond .eq 33, 3) := by decide +kernel
theorem dX12_map_46 : decode cX12_map 46 = .ok (.iload 5, 2) := by decide +kernel
theorem dX12_map_48 : decode cX12_map 48 = .ok (.i2l, 1) := by decide +kernel
theorem dX12_map_49 : decode cX12_map 49 = .ok (.iload_n 2, 1) := by decide +kernel
theorem dX12_map_50 : decode cX12_map 50 = .ok (.ifCond .ne 7, 3) := by decide +kernel
theorem dX12_map_53 : decode cX12_map 53 = .ok (.lconst 0, 1) := by decide +kernel
theorem dX12_map_54 : decode cX12_map 54 = .ok (.goto 6, 3) := by decide +kernel
theorem dX12_map_57 : decode cX12_map 57 = .ok (.ldc2_w 251, 3) := by decide +kernel
theorem dX12_map_60 : decode cX12_map 60 = .ok (.bipush 16, 2) := by decide +kernel
theorem dX12_map_62 : decode cX12_map 62 = .ok (.iload 4, 2) := by decide +kernel
theorem dX12_map_64 : decode cX12_map 64 = .ok (.isub, 1) := by decide +kernel
theorem dX12_map_65 : decode cX12_map 65 = .ok (.i2l, 1) := by decide +kernel
theorem dX12_map_66 : decode cX12_map 66 = .ok (.invokestatic 145, 3) := by decide +kernel
theorem dX12_map_69 : decode cX12_map 69 = .ok (.ifCond .eq 7, 3) := by decide +kernel
theorem dX12_map_72 : decode cX12_map 72 = .ok (.iconst 1, 1) := by decide +kernel
theorem dX12_map_73 : decode cX12_map 73 = .ok (.goto 4, 3) := by decide +kernel
theorem dX12_map_76 : decode cX12_map 76 = .ok (.iconst 0, 1) := by decide +kernel
theorem dX12_map_77 : decode cX12_map 77 = .ok (.istore 6, 2) := by decide +kernel
theorem dX12_map_79 : decode cX12_map 79 = .ok (.iload 6, 2) := by decide +kernel
theorem dX12_map_81 : decode cX12_map 81 = .ok (.ifCond .ne 5, 3) := by decide +kernel
theorem dX12_map_84 : decode cX12_map 84 = .ok (.iconst (-1), 1) := by decide +kernel
theorem dX12_map_85 : decode cX12_map 85 = .ok (.ireturn, 1) := by decide +kernel
theorem dX12_map_86 : decode cX12_map 86 = .ok (.iconst 0, 1) := by decide +kernel
theorem dX12_map_87 : decode cX12_map 87 = .ok (.istore 7, 2) := by decide +kernel
theorem dX12_map_89 : decode cX12_map 89 = .ok (.iload 7, 2) := by decide +kernel
theorem dX12_map_91 : decode cX12_map 91 = .ok (.aload_n 0, 1) := by decide +kernel
theorem dX12_map_92 : decode cX12_map 92 = .ok (.getfield 180, 3) := by decide +kernel
theorem dX12_map_95 : decode cX12_map 95 = .ok (.if_icmp .ge 69, 3) := by decide +kernel
theorem dX12_map_98 : decode cX12_map 98 = .ok (.iconst 2, 1) := by decide +kernel
theorem dX12_map_99 : decode cX12_map 99 = .ok (.iload 7, 2) := by decide +kernel
theorem dX12_map_101 : decode cX12_map 101 = .ok (.imul, 1) := by decide +kernel
theorem dX12_map_102 : decode cX12_map 102 = .ok (.iload_n 2, 1) := by decide +kernel
theorem dX12_map_103 : decode cX12_map 103 = .ok (.iadd, 1) := by decide +kernel
theorem dX12_map_104 : decode cX12_map 104 = .ok (.istore 8, 2) := by decide +kernel
theorem dX12_map_106 : decode cX12_map 106 = .ok (.iload 7, 2) := by decide +kernel
theorem dX12_map_108 : decode cX12_map 108 = .ok (.iload_n 1, 1) := by decide +kernel
theorem dX12_map_109 : decode cX12_map 109 = .ok (.if_icmp .eq 49, 3) := by decide +kernel
theorem dX12_map_112 : decode cX12_map 112 = .ok (.aload_n 0, 1) := by decide +kernel
theorem dX12_map_113 : decode cX12_map 113 = .ok (.getfield 55, 3) := by decide +kernel
theorem dX12_map_116 : decode cX12_map 116 = .ok (.iload 8, 2) := by decide +kernel
theorem dX12_map_118 : decode cX12_map 118 = .ok (.iaload, 1) := by decide +kernel
theorem dX12_map_119 : decode cX12_map 119 = .ok (.ifCond .le 39, 3) := by decide +kernel
theorem dX12_map_122 : decode cX12_map 122 = .ok (.iload_n 3, 1) := by decide +kernel
theorem dX12_map_123 : decode cX12_map 123 = .ok (.aload_n 0, 1) := by decide +kernel
theorem dX12_map_124 : decode cX12_map 124 = .ok (.getfield 52, 3) := by decide +kernel
theorem dX12_map_127 : decode cX12_map 127 = .ok (.iload 8, 2) := by decide +kernel
theorem dX12_map_129 : decode cX12_map 129 = .ok (.iaload, 1) := by decide +kernel
theorem dX12_map_130 : decode cX12_map 130 = .ok (.aload_n 0, 1) := by decide +kernel
theorem dX12_map_131 : decode cX12_map 131 = .ok (.getfield 55, 3) := by decide +kernel
theorem dX12_map_134 : decode cX12_map 134 = .ok (.iload 8, 2) := by decide +kernel
theorem dX12_map_136 : decode cX12_map 136 = .ok (.iaload, 1) := by decide +kernel
theorem dX12_map_137 : decode cX12_map 137 = .ok (.iadd, 1) := by decide +kernel
theorem dX12_map_138 : decode cX12_map 138 = .ok (.if_icmp .ge 20, 3) := by decide +kernel
theorem dX12_map_141 : decode cX12_map 141 = .ok (.aload_n 0, 1) := by decide +kernel
theorem dX12_map_142 : decode cX12_map 142 = .ok (.getfield 52, 3) := by decide +kernel
theorem dX12_map_145 : decode cX12_map 145 = .ok (.iload 8, 2) := by decide +kernel
theorem dX12_map_147 : decode cX12_map 147 = .ok (.iaload, 1) := by decide +kernel
theorem dX12_map_148 : decode cX12_map 148 = .ok (.iload_n 3, 1) := by decide +kernel
theorem dX12_map_149 : decode cX12_map 149 = .ok (.iload 4, 2) := by decide +kernel
theorem dX12_map_151 : decode cX12_map 151 = .ok (.iadd, 1) := by decide +kernel
theorem dX12_map_152 : decode cX12_map 152 = .ok (.if_icmp .ge 6, 3) := by decide +kernel
theorem dX12_map_155 : decode cX12_map 155 = .ok (.bipush (-2), 2) := by decide +kernel
theorem dX12_map_157 : decode cX12_map 157 = .ok (.ireturn, 1) := by decide +kernel
theorem dX12_map_158 : decode cX12_map 158 = .ok (.iinc 7 1, 3) := by decide +kernel
theorem dX12_map_161 : decode cX12_map 161 = .ok (.goto (-72), 3) := by decide +kernel
theorem dX12_map_164 : decode cX12_map 164 = .ok (.aload_n 0, 1) := by decide +kernel
theorem dX12_map_165 : decode cX12_map 165 = .ok (.getfield 55, 3) := by decide +kernel
theorem dX12_map_168 : decode cX12_map 168 = .ok (.iconst 2, 1) := by decide +kernel
theorem dX12_map_169 : decode cX12_map 169 = .ok (.iload_n 1, 1) := by decide +kernel
theorem dX12_map_170 : decode cX12_map 170 = .ok (.imul, 1) := by decide +kernel
theorem dX12_map_171 : decode cX12_map 171 = .ok (.iload_n 2, 1) := by decide +kernel
theorem dX12_map_172 : decode cX12_map 172 = .ok (.iadd, 1) := by decide +kernel
theorem dX12_map_173 : decode cX12_map 173 = .ok (.iaload, 1) := by decide +kernel
theorem dX12_map_174 : decode cX12_map 174 = .ok (.ifCond .le 7, 3) := by decide +kernel
theorem dX12_map_177 : decode cX12_map 177 = .ok (.iconst 1, 1) := by decide +kernel
theorem dX12_map_178 : decode cX12_map 178 = .ok (.goto 4, 3) := by decide +kernel
theorem dX12_map_181 : decode cX12_map 181 = .ok (.iconst 0, 1) := by decide +kernel
theorem dX12_map_182 : decode cX12_map 182 = .ok (.istore 7, 2) := by decide +kernel
theorem dX12_map_184 : decode cX12_map 184 = .ok (.aload_n 0, 1) := by decide +kernel
theorem dX12_map_185 : decode cX12_map 185 = .ok (.getfield 52, 3) := by decide +kernel
theorem dX12_map_188 : decode cX12_map 188 = .ok (.iconst 2, 1) := by decide +kernel
theorem dX12_map_189 : decode cX12_map 189 = .ok (.iload_n 1, 1) := by decide +kernel
theorem dX12_map_190 : decode cX12_map 190 = .ok (.imul, 1) := by decide +kernel
theorem dX12_map_191 : decode cX12_map 191 = .ok (.iload_n 2, 1) := by decide +kernel
theorem dX12_map_192 : decode cX12_map 192 = .ok (.iadd, 1) := by decide +kernel
theorem dX12_map_193 : decode cX12_map 193 = .ok (.iload_n 3, 1) := by decide +kernel
theorem dX12_map_194 : decode cX12_map 194 = .ok (.iastore, 1) := by decide +kernel
theorem dX12_map_195 : decode cX12_map 195 = .ok (.aload_n 0, 1) := by decide +kernel
theorem dX12_map_196 : decode cX12_map 196 = .ok (.getfield 55, 3) := by decide +kernel
theorem dX12_map_199 : decode cX12_map 199 = .ok (.iconst 2, 1) := by decide +kernel
theorem dX12_map_200 : decode cX12_map 200 = .ok (.iload_n 1, 1) := by decide +kernel
theorem dX12_map_201 : decode cX12_map 201 = .ok (.imul, 1) := by decide +kernel
theorem dX12_map_202 : decode cX12_map 202 = .ok (.iload_n 2, 1) := by decide +kernel
theorem dX12_map_203 : decode cX12_map 203 = .ok (.iadd, 1) := by decide +kernel
theorem dX12_map_204 : decode cX12_map 204 = .ok (.iload 4, 2) := by decide +kernel
theorem dX12_map_206 : decode cX12_map 206 = .ok (.iastore, 1) := by decide +kernel
theorem dX12_map_207 : decode cX12_map 207 = .ok (.aload_n 0, 1) := by decide +kernel
theorem dX12_map_208 : decode cX12_map 208 = .ok (.getfield 58, 3) := by decide +kernel
theorem dX12_map_211 : decode cX12_map 211 = .ok (.iconst 2, 1) := by decide +kernel
theorem dX12_map_212 : decode cX12_map 212 = .ok (.iload_n 1, 1) := by decide +kernel
theorem dX12_map_213 : decode cX12_map 213 = .ok (.imul, 1) := by decide +kernel
theorem dX12_map_214 : decode cX12_map 214 = .ok (.iload_n 2, 1) := by decide +kernel
theorem dX12_map_215 : decode cX12_map 215 = .ok (.iadd, 1) := by decide +kernel
theorem dX12_map_216 : decode cX12_map 216 = .ok (.iload 5, 2) := by decide +kernel
theorem dX12_map_218 : decode cX12_map 218 = .ok (.iastore, 1) := by decide +kernel
theorem dX12_map_219 : decode cX12_map 219 = .ok (.iload 7, 2) := by decide +kernel
theorem dX12_map_221 : decode cX12_map 221 = .ok (.ireturn, 1) := by decide +kernel
theorem dX12_unmap_0 : decode cX12_unmap 0 = .ok (.aload_n 0, 1) := by decide +kernel
theorem dX12_unmap_1 : decode cX12_unmap 1 = .ok (.iload_n 1, 1) := by decide +kernel
theorem dX12_unmap_2 : decode cX12_unmap 2 = .ok (.invokevirtual 236, 3) := by decide +kernel
theorem dX12_unmap_5 : decode cX12_unmap 5 = .ok (.ifCond .eq 13, 3) := by decide +kernel
theorem dX12_unmap_8 : decode cX12_unmap 8 = .ok (.iload_n 2, 1) := by decide +kernel
theorem dX12_unmap_9 : decode cX12_unmap 9 = .ok (.i2l, 1) := by decide +kernel
theorem dX12_unmap_10 : decode cX12_unmap 10 = .ok (.lconst 0, 1) := by decide +kernel
theorem dX12_unmap_11 : decode cX12_unmap 11 = .ok (.lconst 1, 1) := by decide +kernel
theorem dX12_unmap_12 : decode cX12_unmap 12 = .ok (.invokestatic 145, 3) := by decide +kernel
theorem dX12_unmap_15 : decode cX12_unmap 15 = .ok (.ifCond .ne 5, 3) := by decide +kernel
theorem dX12_unmap_18 : decode cX12_unmap 18 = .ok (.iconst (-1), 1) := by decide +kernel
theorem dX12_unmap_19 : decode cX12_unmap 19 = .ok (.ireturn, 1) := by decide +kernel
theorem dX12_unmap_20 : decode cX12_unmap 20 = .ok (.aload_n 0, 1) := by decide +kernel
theorem dX12_unmap_21 : decode cX12_unmap 21 = .ok (.getfield 55, 3) := by decide +kernel
theorem dX12_unmap_24 : decode cX12_unmap 24 = .ok (.iconst 2, 1) := by decide +kernel
theorem dX12_unmap_25 : decode cX12_unmap 25 = .ok (.iload_n 1, 1) := by decide +kernel
theorem dX12_unmap_26 : decode cX12_unmap 26 = .ok (.imul, 1) := by decide +kernel
theorem dX12_unmap_27 : decode cX12_unmap 27 = .ok (.iload_n 2, 1) := by decide +kernel
theorem dX12_unmap_28 : decode cX12_unmap 28 = .ok (.iadd, 1) := by decide +kernel
theorem dX12_unmap_29 : decode cX12_unmap 29 = .ok (.iaload, 1) := by decide +kernel
theorem dX12_unmap_30 : decode cX12_unmap 30 = .ok (.ifCond .ne 6, 3) := by decide +kernel
theorem dX12_unmap_33 : decode cX12_unmap 33 = .ok (.bipush (-2), 2) := by decide +kernel
theorem dX12_unmap_35 : decode cX12_unmap 35 = .ok (.ireturn, 1) := by decide +kernel
theorem dX12_unmap_36 : decode cX12_unmap 36 = .ok (.aload_n 0, 1) := by decide +kernel
theorem dX12_unmap_37 : decode cX12_unmap 37 = .ok (.getfield 55, 3) := by decide +kernel
theorem dX12_unmap_40 : decode cX12_unmap 40 = .ok (.iconst 2, 1) := by decide +kernel
theorem dX12_unmap_41 : decode cX12_unmap 41 = .ok (.iload_n 1, 1) := by decide +kernel
theorem dX12_unmap_42 : decode cX12_unmap 42 = .ok (.imul, 1) := by decide +kernel
theorem dX12_unmap_43 : decode cX12_unmap 43 = .ok (.iload_n 2, 1) := by decide +kernel
theorem dX12_unmap_44 : decode cX12_unmap 44 = .ok (.iadd, 1) := by decide +kernel
theorem dX12_unmap_45 : decode cX12_unmap 45 = .ok (.iconst 0, 1) := by decide +kernel
theorem dX12_unmap_46 : decode cX12_unmap 46 = .ok (.iastore, 1) := by decide +kernel
theorem dX12_unmap_47 : decode cX12_unmap 47 = .ok (.iconst 1, 1) := by decide +kernel
theorem dX12_unmap_48 : decode cX12_unmap 48 = .ok (.ireturn, 1) := by decide +kernel
theorem dX12_mapped_0 : decode cX12_mapped 0 = .ok (.aload_n 0, 1) := by decide +kernel
theorem dX12_mapped_1 : decode cX12_mapped 1 = .ok (.iload_n 1, 1) := by decide +kernel
theorem dX12_mapped_2 : decode cX12_mapped 2 = .ok (.invokevirtual 236, 3) := by decide +kernel
theorem dX12_mapped_5 : decode cX12_mapped 5 = .ok (.ifCond .eq 25, 3) := by decide +kernel
theorem dX12_mapped_8 : decode cX12_mapped 8 = .ok (.iload_n 2, 1) := by decide +kernel
theorem dX12_mapped_9 : decode cX12_mapped 9 = .ok (.i2l, 1) := by decide +kernel
theorem dX12_mapped_10 : decode cX12_mapped 10 = .ok (.lconst 0, 1) := by decide +kernel
theorem dX12_mapped_11 : decode cX12_mapped 11 = .ok (.lconst 1, 1) := by decide +kernel
theorem dX12_mapped_12 : decode cX12_mapped 12 = .ok (.invokestatic 145, 3) := by decide +kernel
theorem dX12_mapped_15 : decode cX12_mapped 15 = .ok (.ifCond .eq 15, 3) := by decide +kernel
theorem dX12_mapped_18 : decode cX12_mapped 18 = .ok (.iload_n 3, 1) := by decide +kernel
theorem dX12_mapped_19 : decode cX12_mapped 19 = .ok (.i2l, 1) := by decide +kernel
theorem dX12_mapped_20 : decode cX12_mapped 20 = .ok (.lconst 0, 1) := by decide +kernel
theorem dX12_mapped_21 : decode cX12_mapped 21 = .ok (.ldc2_w 264, 3) := by decide +kernel
theorem dX12_mapped_24 : decode cX12_mapped 24 = .ok (.invokestatic 145, 3) := by decide +kernel
theorem dX12_mapped_27 : decode cX12_mapped 27 = .ok (.ifCond .ne 5, 3) := by decide +kernel
theorem dX12_mapped_30 : decode cX12_mapped 30 = .ok (.iconst (-1), 1) := by decide +kernel
theorem dX12_mapped_31 : decode cX12_mapped 31 = .ok (.ireturn, 1) := by decide +kernel
theorem dX12_mapped_32 : decode cX12_mapped 32 = .ok (.iconst 2, 1) := by decide +kernel
theorem dX12_mapped_33 : decode cX12_mapped 33 = .ok (.iload_n 1, 1) := by decide +kernel
theorem dX12_mapped_34 : decode cX12_mapped 34 = .ok (.imul, 1) := by decide +kernel
theorem dX12_mapped_35 : decode cX12_mapped 35 = .ok (.iload_n 2, 1) := by decide +kernel
theorem dX12_mapped_36 : decode cX12_mapped 36 = .ok (.iadd, 1) := by decide +kernel
theorem dX12_mapped_37 : decode cX12_mapped 37 = .ok (.istore 4, 2) := by decide +kernel
theorem dX12_mapped_39 : decode cX12_mapped 39 = .ok (.aload_n 0, 1) := by decide +kernel
theorem dX12_mapped_40 : decode cX12_mapped 40 = .ok (.getfield 55, 3) := by decide +kernel
theorem dX12_mapped_43 : decode cX12_mapped 43 = .ok (.iload 4, 2) := by decide +kernel
theorem dX12_mapped_45 : decode cX12_mapped 45 = .ok (.iaload, 1) := by decide +kernel
theorem dX12_mapped_46 : decode cX12_mapped 46 = .ok (.ifCond .ne 8, 3) := by decide +kernel
theorem dX12_mapped_49 : decode cX12_mapped 49 = .ok (.bipush (-4), 2) := by decide +kernel
theorem dX12_mapped_51 : decode cX12_mapped 51 = .ok (.goto 39, 3) := by decide +kernel
theorem dX12_mapped_54 : decode cX12_mapped 54 = .ok (.iload_n 3, 1) := by decide +kernel
theorem dX12_mapped_55 : decode cX12_mapped 55 = .ok (.ifCond .ne 13, 3) := by decide +kernel
theorem dX12_mapped_58 : decode cX12_mapped 58 = .ok (.aload_n 0, 1) := by decide +kernel
theorem dX12_mapped_59 : decode cX12_mapped 59 = .ok (.getfield 52, 3) := by decide +kernel
theorem dX12_mapped_62 : decode cX12_mapped 62 = .ok (.iload 4, 2) := by decide +kernel
theorem dX12_mapped_64 : decode cX12_mapped 64 = .ok (.iaload, 1) := by decide +kernel
theorem dX12_mapped_65 : decode cX12_mapped 65 = .ok (.goto 25, 3) := by decide +kernel
theorem dX12_mapped_68 : decode cX12_mapped 68 = .ok (.iload_n 3, 1) := by decide +kernel
theorem dX12_mapped_69 : decode cX12_mapped 69 = .ok (.iconst 1, 1) := by decide +kernel
theorem dX12_mapped_70 : decode cX12_mapped 70 = .ok (.if_icmp .ne 13, 3) := by decide +kernel
theorem dX12_mapped_73 : decode cX12_mapped 73 = .ok (.aload_n 0, 1) := by decide +kernel
theorem dX12_mapped_74 : decode cX12_mapped 74 = .ok (.getfield 55, 3) := by decide +kernel
theorem dX12_mapped_77 : decode cX12_mapped 77 = .ok (.iload 4, 2) := by decide +kernel
theorem dX12_mapped_79 : decode cX12_mapped 79 = .ok (.iaload, 1) := by decide +kernel
theorem dX12_mapped_80 : decode cX12_mapped 80 = .ok (.goto 10, 3) := by decide +kernel
theorem dX12_mapped_83 : decode cX12_mapped 83 = .ok (.aload_n 0, 1) := by decide +kernel
theorem dX12_mapped_84 : decode cX12_mapped 84 = .ok (.getfield 58, 3) := by decide +kernel
theorem dX12_mapped_87 : decode cX12_mapped 87 = .ok (.iload 4, 2) := by decide +kernel
theorem dX12_mapped_89 : decode cX12_mapped 89 = .ok (.iaload, 1) := by decide +kernel
theorem dX12_mapped_90 : decode cX12_mapped 90 = .ok (.ireturn, 1) := by decide +kernel
theorem dX12_isGram_0 : decode cX12_isGram 0 = .ok (.iload 4, 2) := by decide +kernel
theorem dX12_isGram_2 : decode cX12_isGram 2 = .ok (.i2l, 1) := by decide +kernel
theorem dX12_isGram_3 : decode cX12_isGram 3 = .ok (.lconst 1, 1) := by decide +kernel
theorem dX12_isGram_4 : decode cX12_isGram 4 = .ok (.ldc2_w 262, 3) := by decide +kernel
theorem dX12_isGram_7 : decode cX12_isGram 7 = .ok (.invokestatic 145, 3) := by decide +kernel
theorem dX12_isGram_10 : decode cX12_isGram 10 = .ok (.ifCond .ne 5, 3) := by decide +kernel
theorem dX12_isGram_13 : decode cX12_isGram 13 = .ok (.iconst 0, 1) := by decide +kernel
theorem dX12_isGram_14 : decode cX12_isGram 14 = .ok (.ireturn, 1) := by decide +kernel
theorem dX12_isGram_15 : decode cX12_isGram 15 = .ok (.iload_n 1, 1) := by decide +kernel
theorem dX12_isGram_16 : decode cX12_isGram 16 = .ok (.i2l, 1) := by decide +kernel
theorem dX12_isGram_17 : decode cX12_isGram 17 = .ok (.ldc2_w 266, 3) := by decide +kernel
theorem dX12_isGram_20 : decode cX12_isGram 20 = .ok (.ldc2_w 268, 3) := by decide +kernel
theorem dX12_isGram_23 : decode cX12_isGram 23 = .ok (.invokestatic 145, 3) := by decide +kernel
theorem dX12_isGram_26 : decode cX12_isGram 26 = .ok (.ifCond .eq 28, 3) := by decide +kernel
theorem dX12_isGram_29 : decode cX12_isGram 29 = .ok (.iload_n 3, 1) := by decide +kernel
theorem dX12_isGram_30 : decode cX12_isGram 30 = .ok (.ifCond .ne 22, 3) := by decide +kernel
theorem dX12_isGram_33 : decode cX12_isGram 33 = .ok (.iload_n 2, 1) := by decide +kernel
theorem dX12_isGram_34 : decode cX12_isGram 34 = .ok (.i2l, 1) := by decide +kernel
theorem dX12_isGram_35 : decode cX12_isGram 35 = .ok (.lconst 0, 1) := by decide +kernel
theorem dX12_isGram_36 : decode cX12_isGram 36 = .ok (.bipush 32, 2) := by decide +kernel
theorem dX12_isGram_38 : decode cX12_isGram 38 = .ok (.iload 4, 2) := by decide +kernel
theorem dX12_isGram_40 : decode cX12_isGram 40 = .ok (.isub, 1) := by decide +kernel
theorem dX12_isGram_41 : decode cX12_isGram 41 = .ok (.i2l, 1) := by decide +kernel
theorem dX12_isGram_42 : decode cX12_isGram 42 = .ok (.invokestatic 145, 3) := by decide +kernel
theorem dX12_isGram_45 : decode cX12_isGram 45 = .ok (.ifCond .eq 7, 3) := by decide +kernel
theorem dX12_isGram_48 : decode cX12_isGram 48 = .ok (.iconst 1, 1) := by decide +kernel
theorem dX12_isGram_49 : decode cX12_isGram 49 = .ok (.goto 4, 3) := by decide +kernel
theorem dX12_isGram_52 : decode cX12_isGram 52 = .ok (.iconst 0, 1) := by decide +kernel
theorem dX12_isGram_53 : decode cX12_isGram 53 = .ok (.ireturn, 1) := by decide +kernel
theorem dX12_isGram_54 : decode cX12_isGram 54 = .ok (.iload_n 1, 1) := by decide +kernel
theorem dX12_isGram_55 : decode cX12_isGram 55 = .ok (.i2l, 1) := by decide +kernel
theorem dX12_isGram_56 : decode cX12_isGram 56 = .ok (.lconst 1, 1) := by decide +kernel
theorem dX12_isGram_57 : decode cX12_isGram 57 = .ok (.ldc2_w 258, 3) := by decide +kernel
theorem dX12_isGram_60 : decode cX12_isGram 60 = .ok (.invokestatic 145, 3) := by decide +kernel
theorem dX12_isGram_63 : decode cX12_isGram 63 = .ok (.ifCond .eq 15, 3) := by decide +kernel
theorem dX12_isGram_66 : decode cX12_isGram 66 = .ok (.iload_n 3, 1) := by decide +kernel
theorem dX12_isGram_67 : decode cX12_isGram 67 = .ok (.i2l, 1) := by decide +kernel
theorem dX12_isGram_68 : decode cX12_isGram 68 = .ok (.lconst 0, 1) := by decide +kernel
theorem dX12_isGram_69 : decode cX12_isGram 69 = .ok (.ldc2_w 245, 3) := by decide +kernel
theorem dX12_isGram_72 : decode cX12_isGram 72 = .ok (.invokestatic 145, 3) := by decide +kernel
theorem dX12_isGram_75 : decode cX12_isGram 75 = .ok (.ifCond .ne 5, 3) := by decide +kernel
theorem dX12_isGram_78 : decode cX12_isGram 78 = .ok (.iconst 0, 1) := by decide +kernel
theorem dX12_isGram_79 : decode cX12_isGram 79 = .ok (.ireturn, 1) := by decide +kernel
theorem dX12_isGram_80 : decode cX12_isGram 80 = .ok (.iload_n 1, 1) := by decide +kernel
theorem dX12_isGram_81 : decode cX12_isGram 81 = .ok (.iconst 4, 1) := by decide +kernel
theorem dX12_isGram_82 : decode cX12_isGram 82 = .ok (.if_icmp .ge 15, 3) := by decide +kernel
theorem dX12_isGram_85 : decode cX12_isGram 85 = .ok (.iload_n 2, 1) := by decide +kernel
theorem dX12_isGram_86 : decode cX12_isGram 86 = .ok (.i2l, 1) := by decide +kernel
theorem dX12_isGram_87 : decode cX12_isGram 87 = .ok (.lconst 0, 1) := by decide +kernel
theorem dX12_isGram_88 : decode cX12_isGram 88 = .ok (.ldc2_w 270, 3) := by decide +kernel
theorem dX12_isGram_91 : decode cX12_isGram 91 = .ok (.invokestatic 145, 3) := by decide +kernel
theorem dX12_isGram_94 : decode cX12_isGram 94 = .ok (.goto 30, 3) := by decide +kernel
theorem dX12_isGram_97 : decode cX12_isGram 97 = .ok (.iload_n 1, 1) := by decide +kernel
theorem dX12_isGram_98 : decode cX12_isGram 98 = .ok (.bipush 7, 2) := by decide +kernel
theorem dX12_isGram_100 : decode cX12_isGram 100 = .ok (.if_icmp .ge 15, 3) := by decide +kernel
theorem dX12_isGram_103 : decode cX12_isGram 103 = .ok (.iload_n 2, 1) := by decide +kernel
theorem dX12_isGram_104 : decode cX12_isGram 104 = .ok (.i2l, 1) := by decide +kernel
theorem dX12_isGram_105 : decode cX12_isGram 105 = .ok (.lconst 1, 1) := by decide +kernel
theorem dX12_isGram_106 : decode cX12_isGram 106 = .ok (.ldc2_w 272, 3) := by decide +kernel
theorem dX12_isGram_109 : decode cX12_isGram 109 = .ok (.invokestatic 145, 3) := by decide +kernel
theorem dX12_isGram_112 : decode cX12_isGram 112 = .ok (.goto 12, 3) := by decide +kernel
theorem dX12_isGram_115 : decode cX12_isGram 115 = .ok (.iload_n 2, 1) := by decide +kernel
theorem dX12_isGram_116 : decode cX12_isGram 116 = .ok (.ifCond .ne 7, 3) := by decide +kernel
theorem dX12_isGram_119 : decode cX12_isGram 119 = .ok (.iconst 1, 1) := by decide +kernel
theorem dX12_isGram_120 : decode cX12_isGram 120 = .ok (.goto 4, 3) := by decide +kernel
theorem dX12_isGram_123 : decode cX12_isGram 123 = .ok (.iconst 0, 1) := by decide +kernel
theorem dX12_isGram_124 : decode cX12_isGram 124 = .ok (.ireturn, 1) := by decide +kernel
theorem dX12_gram_0 : decode cX12_gram 0 = .ok (.iload_n 1, 1) := by decide +kernel
theorem dX12_gram_1 : decode cX12_gram 1 = .ok (.i2l, 1) := by decide +kernel
theorem dX12_gram_2 : decode cX12_gram 2 = .ok (.lconst 0, 1) := by decide +kernel
theorem dX12_gram_3 : decode cX12_gram 3 = .ok (.ldc2_w 260, 3) := by decide +kernel
theorem dX12_gram_6 : decode cX12_gram 6 = .ok (.invokestatic 145, 3) := by decide +kernel
theorem dX12_gram_9 : decode cX12_gram 9 = .ok (.ifCond .eq 16, 3) := by decide +kernel
theorem dX12_gram_12 : decode cX12_gram 12 = .ok (.aload_n 0, 1) := by decide +kernel
theorem dX12_gram_13 : decode cX12_gram 13 = .ok (.iload_n 2, 1) := by decide +kernel
theorem dX12_gram_14 : decode cX12_gram 14 = .ok (.iload_n 3, 1) := by decide +kernel
theorem dX12_gram_15 : decode cX12_gram 15 = .ok (.iload 4, 2) := by decide +kernel
theorem dX12_gram_17 : decode cX12_gram 17 = .ok (.iload 5, 2) := by decide +kernel
theorem dX12_gram_19 : decode cX12_gram 19 = .ok (.invokevirtual 274, 3) := by decide +kernel
theorem dX12_gram_22 : decode cX12_gram 22 = .ok (.ifCond .ne 5, 3) := by decide +kernel
theorem dX12_gram_25 : decode cX12_gram 25 = .ok (.iconst (-1), 1) := by decide +kernel
theorem dX12_gram_26 : decode cX12_gram 26 = .ok (.ireturn, 1) := by decide +kernel
theorem dX12_gram_27 : decode cX12_gram 27 = .ok (.aload_n 0, 1) := by decide +kernel
theorem dX12_gram_28 : decode cX12_gram 28 = .ok (.getfield 79, 3) := by decide +kernel
theorem dX12_gram_31 : decode cX12_gram 31 = .ok (.iload_n 1, 1) := by decide +kernel
theorem dX12_gram_32 : decode cX12_gram 32 = .ok (.iaload, 1) := by decide +kernel
theorem dX12_gram_33 : decode cX12_gram 33 = .ok (.istore 6, 2) := by decide +kernel
theorem dX12_gram_35 : decode cX12_gram 35 = .ok (.aload_n 0, 1) := by decide +kernel
theorem dX12_gram_36 : decode cX12_gram 36 = .ok (.getfield 79, 3) := by decide +kernel
theorem dX12_gram_39 : decode cX12_gram 39 = .ok (.iload_n 1, 1) := by decide +kernel
theorem dX12_gram_40 : decode cX12_gram 40 = .ok (.iload_n 2, 1) := by decide +kernel
theorem dX12_gram_41 : decode cX12_gram 41 = .ok (.iastore, 1) := by decide +kernel
theorem dX12_gram_42 : decode cX12_gram 42 = .ok (.aload_n 0, 1) := by decide +kernel
theorem dX12_gram_43 : decode cX12_gram 43 = .ok (.getfield 82, 3) := by decide +kernel
theorem dX12_gram_46 : decode cX12_gram 46 = .ok (.iload_n 1, 1) := by decide +kernel
theorem dX12_gram_47 : decode cX12_gram 47 = .ok (.iload_n 3, 1) := by decide +kernel
theorem dX12_gram_48 : decode cX12_gram 48 = .ok (.iastore, 1) := by decide +kernel
theorem dX12_gram_49 : decode cX12_gram 49 = .ok (.aload_n 0, 1) := by decide +kernel
theorem dX12_gram_50 : decode cX12_gram 50 = .ok (.getfield 85, 3) := by decide +kernel
theorem dX12_gram_53 : decode cX12_gram 53 = .ok (.iload_n 1, 1) := by decide +kernel
theorem dX12_gram_54 : decode cX12_gram 54 = .ok (.iload 4, 2) := by decide +kernel
theorem dX12_gram_56 : decode cX12_gram 56 = .ok (.iastore, 1) := by decide +kernel
theorem dX12_gram_57 : decode cX12_gram 57 = .ok (.aload_n 0, 1) := by decide +kernel
theorem dX12_gram_58 : decode cX12_gram 58 = .ok (.getfield 88, 3) := by decide +kernel
theorem dX12_gram_61 : decode cX12_gram 61 = .ok (.iload_n 1, 1) := by decide +kernel
theorem dX12_gram_62 : decode cX12_gram 62 = .ok (.iload 5, 2) := by decide +kernel
theorem dX12_gram_64 : decode cX12_gram 64 = .ok (.iastore, 1) := by decide +kernel
theorem dX12_gram_65 : decode cX12_gram 65 = .ok (.iload 6, 2) := by decide +kernel
theorem dX12_gram_67 : decode cX12_gram 67 = .ok (.ireturn, 1) := by decide +kernel
theorem dX12_clear_0 : decode cX12_clear 0 = .ok (.iload_n 1, 1) := by decide +kernel
theorem dX12_clear_1 : decode cX12_clear 1 = .ok (.i2l, 1) := by decide +kernel
theorem dX12_clear_2 : decode cX12_clear 2 = .ok (.lconst 0, 1) := by decide +kernel
theorem dX12_clear_3 : decode cX12_clear 3 = .ok (.ldc2_w 260, 3) := by decide +kernel
theorem dX12_clear_6 : decode cX12_clear 6 = .ok (.invokestatic 145, 3) := by decide +kernel
theorem dX12_clear_9 : decode cX12_clear 9 = .ok (.ifCond .ne 5, 3) := by decide +kernel
theorem dX12_clear_12 : decode cX12_clear 12 = .ok (.iconst (-1), 1) := by decide +kernel
theorem dX12_clear_13 : decode cX12_clear 13 = .ok (.ireturn, 1) := by decide +kernel
theorem dX12_clear_14 : decode cX12_clear 14 = .ok (.aload_n 0, 1) := by decide +kernel
theorem dX12_clear_15 : decode cX12_clear 15 = .ok (.getfield 79, 3) := by decide +kernel
theorem dX12_clear_18 : decode cX12_clear 18 = .ok (.iload_n 1, 1) := by decide +kernel
theorem dX12_clear_19 : decode cX12_clear 19 = .ok (.iaload, 1) := by decide +kernel
theorem dX12_clear_20 : decode cX12_clear 20 = .ok (.istore_n 2, 1) := by decide +kernel
theorem dX12_clear_21 : decode cX12_clear 21 = .ok (.aload_n 0, 1) := by decide +kernel
theorem dX12_clear_22 : decode cX12_clear 22 = .ok (.getfield 79, 3) := by decide +kernel
theorem dX12_clear_25 : decode cX12_clear 25 = .ok (.iload_n 1, 1) := by decide +kernel
theorem dX12_clear_26 : decode cX12_clear 26 = .ok (.iconst 0, 1) := by decide +kernel
theorem dX12_clear_27 : decode cX12_clear 27 = .ok (.iastore, 1) := by decide +kernel
theorem dX12_clear_28 : decode cX12_clear 28 = .ok (.iload_n 2, 1) := by decide +kernel
theorem dX12_clear_29 : decode cX12_clear 29 = .ok (.ifCond .ne 8, 3) := by decide +kernel
theorem dX12_clear_32 : decode cX12_clear 32 = .ok (.bipush (-2), 2) := by decide +kernel
theorem dX12_clear_34 : decode cX12_clear 34 = .ok (.goto 4, 3) := by decide +kernel
theorem dX12_clear_37 : decode cX12_clear 37 = .ok (.iload_n 2, 1) := by decide +kernel
theorem dX12_clear_38 : decode cX12_clear 38 = .ok (.ireturn, 1) := by decide +kernel
theorem dX12_put_0 : decode cX12_put 0 = .ok (.iload_n 1, 1) := by decide +kernel
theorem dX12_put_1 : decode cX12_put 1 = .ok (.i2l, 1) := by decide +kernel
theorem dX12_put_2 : decode cX12_put 2 = .ok (.lconst 0, 1) := by decide +kernel
theorem dX12_put_3 : decode cX12_put 3 = .ok (.ldc2_w 260, 3) := by decide +kernel
theorem dX12_put_6 : decode cX12_put 6 = .ok (.invokestatic 145, 3) := by decide +kernel
theorem dX12_put_9 : decode cX12_put 9 = .ok (.ifCond .eq 27, 3) := by decide +kernel
theorem dX12_put_12 : decode cX12_put 12 = .ok (.iload_n 2, 1) := by decide +kernel
theorem dX12_put_13 : decode cX12_put 13 = .ok (.i2l, 1) := by decide +kernel
theorem dX12_put_14 : decode cX12_put 14 = .ok (.lconst 0, 1) := by decide +kernel
theorem dX12_put_15 : decode cX12_put 15 = .ok (.ldc2_w 270, 3) := by decide +kernel
theorem dX12_put_18 : decode cX12_put 18 = .ok (.invokestatic 145, 3) := by decide +kernel
theorem dX12_put_21 : decode cX12_put 21 = .ok (.ifCond .eq 15, 3) := by decide +kernel
theorem dX12_put_24 : decode cX12_put 24 = .ok (.iload_n 3, 1) := by decide +kernel
theorem dX12_put_25 : decode cX12_put 25 = .ok (.i2l, 1) := by decide +kernel
theorem dX12_put_26 : decode cX12_put 26 = .ok (.lconst 0, 1) := by decide +kernel
theorem dX12_put_27 : decode cX12_put 27 = .ok (.ldc2_w 253, 3) := by decide +kernel
theorem dX12_put_30 : decode cX12_put 30 = .ok (.invokestatic 145, 3) := by decide +kernel
theorem dX12_put_33 : decode cX12_put 33 = .ok (.ifCond .ne 5, 3) := by decide +kernel
theorem dX12_put_36 : decode cX12_put 36 = .ok (.iconst (-1), 1) := by decide +kernel
theorem dX12_put_37 : decode cX12_put 37 = .ok (.ireturn, 1) := by decide +kernel
theorem dX12_put_38 : decode cX12_put 38 = .ok (.aload_n 0, 1) := by decide +kernel
theorem dX12_put_39 : decode cX12_put 39 = .ok (.getfield 91, 3) := by decide +kernel
theorem dX12_put_42 : decode cX12_put 42 = .ok (.bipush 8, 2) := by decide +kernel
theorem dX12_put_44 : decode cX12_put 44 = .ok (.iload_n 1, 1) := by decide +kernel
theorem dX12_put_45 : decode cX12_put 45 = .ok (.imul, 1) := by decide +kernel
theorem dX12_put_46 : decode cX12_put 46 = .ok (.iload_n 2, 1) := by decide +kernel
theorem dX12_put_47 : decode cX12_put 47 = .ok (.iadd, 1) := by decide +kernel
theorem dX12_put_48 : decode cX12_put 48 = .ok (.iaload, 1) := by decide +kernel
theorem dX12_put_49 : decode cX12_put 49 = .ok (.istore 4, 2) := by decide +kernel
theorem dX12_put_51 : decode cX12_put 51 = .ok (.aload_n 0, 1) := by decide +kernel
theorem dX12_put_52 : decode cX12_put 52 = .ok (.getfield 91, 3) := by decide +kernel
theorem dX12_put_55 : decode cX12_put 55 = .ok (.bipush 8, 2) := by decide +kernel
theorem dX12_put_57 : decode cX12_put 57 = .ok (.iload_n 1, 1) := by decide +kernel
theorem dX12_put_58 : decode cX12_put 58 = .ok (.imul, 1) := by decide +kernel
theorem dX12_put_59 : decode cX12_put 59 = .ok (.iload_n 2, 1) := by decide +kernel
theorem dX12_put_60 : decode cX12_put 60 = .ok (.iadd, 1) := by decide +kernel
theorem dX12_put_61 : decode cX12_put 61 = .ok (.iload_n 3, 1) := by decide +kernel
theorem dX12_put_62 : decode cX12_put 62 = .ok (.iastore, 1) := by decide +kernel
theorem dX12_put_63 : decode cX12_put 63 = .ok (.iload 4, 2) := by decide +kernel
theorem dX12_put_65 : decode cX12_put 65 = .ok (.ireturn, 1) := by decide +kernel
theorem dX12_editOwn_0 : decode cX12_editOwn 0 = .ok (.aload_n 0, 1) := by decide +kernel
theorem dX12_editOwn_1 : decode cX12_editOwn 1 = .ok (.getfield 79, 3) := by decide +kernel
theorem dX12_editOwn_4 : decode cX12_editOwn 4 = .ok (.iload_n 2, 1) := by decide +kernel
theorem dX12_editOwn_5 : decode cX12_editOwn 5 = .ok (.iaload, 1) := by decide +kernel
theorem dX12_editOwn_6 : decode cX12_editOwn 6 = .ok (.iconst 1, 1) := by decide +kernel
theorem dX12_editOwn_7 : decode cX12_editOwn 7 = .ok (.isub, 1) := by decide +kernel
theorem dX12_editOwn_8 : decode cX12_editOwn 8 = .ok (.iconst 3, 1) := by decide +kernel
theorem dX12_editOwn_9 : decode cX12_editOwn 9 = .ok (.irem, 1) := by decide +kernel
theorem dX12_editOwn_10 : decode cX12_editOwn 10 = .ok (.istore 5, 2) := by decide +kernel
theorem dX12_editOwn_12 : decode cX12_editOwn 12 = .ok (.aload_n 0, 1) := by decide +kernel
theorem dX12_editOwn_13 : decode cX12_editOwn 13 = .ok (.getfield 85, 3) := by decide +kernel
theorem dX12_editOwn_16 : decode cX12_editOwn 16 = .ok (.iload_n 2, 1) := by decide +kernel
theorem dX12_editOwn_17 : decode cX12_editOwn 17 = .ok (.iaload, 1) := by decide +kernel
theorem dX12_editOwn_18 : decode cX12_editOwn 18 = .ok (.aload_n 0, 1) := by decide +kernel
theorem dX12_editOwn_19 : decode cX12_editOwn 19 = .ok (.getfield 88, 3) := by decide +kernel
theorem dX12_editOwn_22 : decode cX12_editOwn 22 = .ok (.iload_n 2, 1) := by decide +kernel
theorem dX12_editOwn_23 : decode cX12_editOwn 23 = .ok (.iaload, 1) := by decide +kernel
theorem dX12_editOwn_24 : decode cX12_editOwn 24 = .ok (.iadd, 1) := by decide +kernel
theorem dX12_editOwn_25 : decode cX12_editOwn 25 = .ok (.bipush 16, 2) := by decide +kernel
theorem dX12_editOwn_27 : decode cX12_editOwn 27 = .ok (.if_icmp .gt 7, 3) := by decide +kernel
theorem dX12_editOwn_30 : decode cX12_editOwn 30 = .ok (.iconst 1, 1) := by decide +kernel
theorem dX12_editOwn_31 : decode cX12_editOwn 31 = .ok (.goto 4, 3) := by decide +kernel
theorem dX12_editOwn_34 : decode cX12_editOwn 34 = .ok (.iconst 0, 1) := by decide +kernel
theorem dX12_editOwn_35 : decode cX12_editOwn 35 = .ok (.istore 6, 2) := by decide +kernel
theorem dX12_editOwn_37 : decode cX12_editOwn 37 = .ok (.iload 5, 2) := by decide +kernel
theorem dX12_editOwn_39 : decode cX12_editOwn 39 = .ok (.iconst 1, 1) := by decide +kernel
theorem dX12_editOwn_40 : decode cX12_editOwn 40 = .ok (.if_icmp .eq 12, 3) := by decide +kernel
theorem dX12_editOwn_43 : decode cX12_editOwn 43 = .ok (.iload 6, 2) := by decide +kernel
theorem dX12_editOwn_45 : decode cX12_editOwn 45 = .ok (.ifCond .eq 7, 3) := by decide +kernel
theorem dX12_editOwn_48 : decode cX12_editOwn 48 = .ok (.iconst 1, 1) := by decide +kernel
theorem dX12_editOwn_49 : decode cX12_editOwn 49 = .ok (.goto 4, 3) := by decide +kernel
theorem dX12_editOwn_52 : decode cX12_editOwn 52 = .ok (.iconst 0, 1) := by decide +kernel
theorem dX12_editOwn_53 : decode cX12_editOwn 53 = .ok (.istore 7, 2) := by decide +kernel
theorem dX12_editOwn_55 : decode cX12_editOwn 55 = .ok (.iload 5, 2) := by decide +kernel
theorem dX12_editOwn_57 : decode cX12_editOwn 57 = .ok (.ifCond .eq 22, 3) := by decide +kernel
theorem dX12_editOwn_60 : decode cX12_editOwn 60 = .ok (.iload 6, 2) := by decide +kernel
theorem dX12_editOwn_62 : decode cX12_editOwn 62 = .ok (.ifCond .eq 17, 3) := by decide +kernel
theorem dX12_editOwn_65 : decode cX12_editOwn 65 = .ok (.aload_n 0, 1) := by decide +kernel
theorem dX12_editOwn_66 : decode cX12_editOwn 66 = .ok (.getfield 85, 3) := by decide +kernel
theorem dX12_editOwn_69 : decode cX12_editOwn 69 = .ok (.iload_n 2, 1) := by decide +kernel
theorem dX12_editOwn_70 : decode cX12_editOwn 70 = .ok (.iaload, 1) := by decide +kernel
theorem dX12_editOwn_71 : decode cX12_editOwn 71 = .ok (.iconst 4, 1) := by decide +kernel
theorem dX12_editOwn_72 : decode cX12_editOwn 72 = .ok (.if_icmp .lt 7, 3) := by decide +kernel
theorem dX12_editOwn_75 : decode cX12_editOwn 75 = .ok (.iconst 1, 1) := by decide +kernel
theorem dX12_editOwn_76 : decode cX12_editOwn 76 = .ok (.goto 4, 3) := by decide +kernel
theorem dX12_editOwn_79 : decode cX12_editOwn 79 = .ok (.iconst 0, 1) := by decide +kernel
theorem dX12_editOwn_80 : decode cX12_editOwn 80 = .ok (.istore 8, 2) := by decide +kernel
theorem dX12_editOwn_82 : decode cX12_editOwn 82 = .ok (.iconst 0, 1) := by decide +kernel
theorem dX12_editOwn_83 : decode cX12_editOwn 83 = .ok (.istore 9, 2) := by decide +kernel
theorem dX12_editOwn_85 : decode cX12_editOwn 85 = .ok (.iload 9, 2) := by decide +kernel
theorem dX12_editOwn_87 : decode cX12_editOwn 87 = .ok (.aload_n 0, 1) := by decide +kernel
theorem dX12_editOwn_88 : decode cX12_editOwn 88 = .ok (.getfield 88, 3) := by decide +kernel
theorem dX12_editOwn_91 : decode cX12_editOwn 91 = .ok (.iload_n 2, 1) := by decide +kernel
theorem dX12_editOwn_92 : decode cX12_editOwn 92 = .ok (.iaload, 1) := by decide +kernel
theorem dX12_editOwn_93 : decode cX12_editOwn 93 = .ok (.if_icmp .ge 121, 3) := by decide +kernel
theorem dX12_editOwn_96 : decode cX12_editOwn 96 = .ok (.bipush 32, 2) := by decide +kernel
theorem dX12_editOwn_98 : decode cX12_editOwn 98 = .ok (.iload_n 1, 1) := by decide +kernel
theorem dX12_editOwn_99 : decode cX12_editOwn 99 = .ok (.imul, 1) := by decide +kernel
theorem dX12_editOwn_100 : decode cX12_editOwn 100 = .ok (.bipush 8, 2) := by decide +kernel
theorem dX12_editOwn_102 : decode cX12_editOwn 102 = .ok (.iload_n 2, 1) := by decide +kernel
theorem dX12_editOwn_103 : decode cX12_editOwn 103 = .ok (.imul, 1) := by decide +kernel
theorem dX12_editOwn_104 : decode cX12_editOwn 104 = .ok (.iadd, 1) := by decide +kernel
theorem dX12_editOwn_105 : decode cX12_editOwn 105 = .ok (.iload 9, 2) := by decide +kernel
theorem dX12_editOwn_107 : decode cX12_editOwn 107 = .ok (.iadd, 1) := by decide +kernel
theorem dX12_editOwn_108 : decode cX12_editOwn 108 = .ok (.istore 10, 2) := by decide +kernel
theorem dX12_editOwn_110 : decode cX12_editOwn 110 = .ok (.aload_n 0, 1) := by decide +kernel
theorem dX12_editOwn_111 : decode cX12_editOwn 111 = .ok (.getfield 112, 3) := by decide +kernel
theorem dX12_editOwn_114 : decode cX12_editOwn 114 = .ok (.iload 9, 2) := by decide +kernel
theorem dX12_editOwn_116 : decode cX12_editOwn 116 = .ok (.aload_n 0, 1) := by decide +kernel
theorem dX12_editOwn_117 : decode cX12_editOwn 117 = .ok (.getfield 94, 3) := by decide +kernel
theorem dX12_editOwn_120 : decode cX12_editOwn 120 = .ok (.iload 10, 2) := by decide +kernel
theorem dX12_editOwn_122 : decode cX12_editOwn 122 = .ok (.iaload, 1) := by decide +kernel
theorem dX12_editOwn_123 : decode cX12_editOwn 123 = .ok (.iastore, 1) := by decide +kernel
theorem dX12_editOwn_124 : decode cX12_editOwn 124 = .ok (.aload_n 0, 1) := by decide +kernel
theorem dX12_editOwn_125 : decode cX12_editOwn 125 = .ok (.iload_n 3, 1) := by decide +kernel
theorem dX12_editOwn_126 : decode cX12_editOwn 126 = .ok (.aload_n 0, 1) := by decide +kernel
theorem dX12_editOwn_127 : decode cX12_editOwn 127 = .ok (.getfield 85, 3) := by decide +kernel
theorem dX12_editOwn_130 : decode cX12_editOwn 130 = .ok (.iload_n 2, 1) := by decide +kernel
theorem dX12_editOwn_131 : decode cX12_editOwn 131 = .ok (.iaload, 1) := by decide +kernel
theorem dX12_editOwn_132 : decode cX12_editOwn 132 = .ok (.iload 9, 2) := by decide +kernel
theorem dX12_editOwn_134 : decode cX12_editOwn 134 = .ok (.iadd, 1) := by decide +kernel
theorem dX12_editOwn_135 : decode cX12_editOwn 135 = .ok (.bipush 16, 2) := by decide +kernel
theorem dX12_editOwn_137 : decode cX12_editOwn 137 = .ok (.if_icmp .ge 15, 3) := by decide +kernel
theorem dX12_editOwn_140 : decode cX12_editOwn 140 = .ok (.aload_n 0, 1) := by decide +kernel
theorem dX12_editOwn_141 : decode cX12_editOwn 141 = .ok (.getfield 85, 3) := by decide +kernel
theorem dX12_editOwn_144 : decode cX12_editOwn 144 = .ok (.iload_n 2, 1) := by decide +kernel
theorem dX12_editOwn_145 : decode cX12_editOwn 145 = .ok (.iaload, 1) := by decide +kernel
theorem dX12_editOwn_146 : decode cX12_editOwn 146 = .ok (.iload 9, 2) := by decide +kernel
theorem dX12_editOwn_148 : decode cX12_editOwn 148 = .ok (.iadd, 1) := by decide +kernel
theorem dX12_editOwn_149 : decode cX12_editOwn 149 = .ok (.goto 4, 3) := by decide +kernel
theorem dX12_editOwn_152 : decode cX12_editOwn 152 = .ok (.iconst 0, 1) := by decide +kernel
theorem dX12_editOwn_153 : decode cX12_editOwn 153 = .ok (.iload 4, 2) := by decide +kernel
theorem dX12_editOwn_155 : decode cX12_editOwn 155 = .ok (.invokevirtual 247, 3) := by decide +kernel
theorem dX12_editOwn_158 : decode cX12_editOwn 158 = .ok (.istore 11, 2) := by decide +kernel
theorem dX12_editOwn_160 : decode cX12_editOwn 160 = .ok (.aload_n 0, 1) := by decide +kernel
theorem dX12_editOwn_161 : decode cX12_editOwn 161 = .ok (.getfield 94, 3) := by decide +kernel
theorem dX12_editOwn_164 : decode cX12_editOwn 164 = .ok (.iload 10, 2) := by decide +kernel
theorem dX12_editOwn_166 : decode cX12_editOwn 166 = .ok (.iload 7, 2) := by decide +kernel
theorem dX12_editOwn_168 : decode cX12_editOwn 168 = .ok (.ifCond .ne 13, 3) := by decide +kernel
theorem dX12_editOwn_171 : decode cX12_editOwn 171 = .ok (.aload_n 0, 1) := by decide +kernel
theorem dX12_editOwn_172 : decode cX12_editOwn 172 = .ok (.getfield 112, 3) := by decide +kernel
theorem dX12_editOwn_175 : decode cX12_editOwn 175 = .ok (.iload 9, 2) := by decide +kernel
theorem dX12_editOwn_177 : decode cX12_editOwn 177 = .ok (.iaload, 1) := by decide +kernel
theorem dX12_editOwn_178 : decode cX12_editOwn 178 = .ok (.goto 29, 3) := by decide +kernel
theorem dX12_editOwn_181 : decode cX12_editOwn 181 = .ok (.aload_n 0, 1) := by decide +kernel
theorem dX12_editOwn_182 : decode cX12_editOwn 182 = .ok (.getfield 79, 3) := by decide +kernel
theorem dX12_editOwn_185 : decode cX12_editOwn 185 = .ok (.iload_n 2, 1) := by decide +kernel
theorem dX12_editOwn_186 : decode cX12_editOwn 186 = .ok (.iaload, 1) := by decide +kernel
theorem dX12_editOwn_187 : decode cX12_editOwn 187 = .ok (.bipush 7, 2) := by decide +kernel
theorem dX12_editOwn_189 : decode cX12_editOwn 189 = .ok (.if_icmp .lt 16, 3) := by decide +kernel
theorem dX12_editOwn_192 : decode cX12_editOwn 192 = .ok (.iload 11, 2) := by decide +kernel
theorem dX12_editOwn_194 : decode cX12_editOwn 194 = .ok (.aload_n 0, 1) := by decide +kernel
theorem dX12_editOwn_195 : decode cX12_editOwn 195 = .ok (.getfield 112, 3) := by decide +kernel
theorem dX12_editOwn_198 : decode cX12_editOwn 198 = .ok (.iload 9, 2) := by decide +kernel
theorem dX12_editOwn_200 : decode cX12_editOwn 200 = .ok (.iaload, 1) := by decide +kernel
theorem dX12_editOwn_201 : decode cX12_editOwn 201 = .ok (.ior, 1) := by decide +kernel
theorem dX12_editOwn_202 : decode cX12_editOwn 202 = .ok (.goto 5, 3) := by decide +kernel
theorem dX12_editOwn_205 : decode cX12_editOwn 205 = .ok (.iload 11, 2) := by decide +kernel
theorem dX12_editOwn_207 : decode cX12_editOwn 207 = .ok (.iastore, 1) := by decide +kernel
theorem dX12_editOwn_208 : decode cX12_editOwn 208 = .ok (.iinc 9 1, 3) := by decide +kernel
theorem dX12_editOwn_211 : decode cX12_editOwn 211 = .ok (.goto (-126), 3) := by decide +kernel
theorem dX12_editOwn_214 : decode cX12_editOwn 214 = .ok (.iconst 0, 1) := by decide +kernel
theorem dX12_editOwn_215 : decode cX12_editOwn 215 = .ok (.istore 9, 2) := by decide +kernel
theorem dX12_editOwn_217 : decode cX12_editOwn 217 = .ok (.iload 9, 2) := by decide +kernel
theorem dX12_editOwn_219 : decode cX12_editOwn 219 = .ok (.aload_n 0, 1) := by decide +kernel
theorem dX12_editOwn_220 : decode cX12_editOwn 220 = .ok (.getfield 88, 3) := by decide +kernel
theorem dX12_editOwn_223 : decode cX12_editOwn 223 = .ok (.iload_n 2, 1) := by decide +kernel
theorem dX12_editOwn_224 : decode cX12_editOwn 224 = .ok (.iaload, 1) := by decide +kernel
theorem dX12_editOwn_225 : decode cX12_editOwn 225 = .ok (.if_icmp .ge 40, 3) := by decide +kernel
theorem dX12_editOwn_228 : decode cX12_editOwn 228 = .ok (.iload 8, 2) := by decide +kernel
theorem dX12_editOwn_230 : decode cX12_editOwn 230 = .ok (.ifCond .eq 35, 3) := by decide +kernel
theorem dX12_editOwn_233 : decode cX12_editOwn 233 = .ok (.aload_n 0, 1) := by decide +kernel
theorem dX12_editOwn_234 : decode cX12_editOwn 234 = .ok (.getfield 43, 3) := by decide +kernel
theorem dX12_editOwn_237 : decode cX12_editOwn 237 = .ok (.bipush 16, 2) := by decide +kernel
theorem dX12_editOwn_239 : decode cX12_editOwn 239 = .ok (.iload_n 3, 1) := by decide +kernel
theorem dX12_editOwn_240 : decode cX12_editOwn 240 = .ok (.imul, 1) := by decide +kernel
theorem dX12_editOwn_241 : decode cX12_editOwn 241 = .ok (.aload_n 0, 1) := by decide +kernel
theorem dX12_editOwn_242 : decode cX12_editOwn 242 = .ok (.getfield 85, 3) := by decide +kernel
theorem dX12_editOwn_245 : decode cX12_editOwn 245 = .ok (.iload_n 2, 1) := by decide +kernel
theorem dX12_editOwn_246 : decode cX12_editOwn 246 = .ok (.iaload, 1) := by decide +kernel
theorem dX12_editOwn_247 : decode cX12_editOwn 247 = .ok (.iadd, 1) := by decide +kernel
theorem dX12_editOwn_248 : decode cX12_editOwn 248 = .ok (.iload 9, 2) := by decide +kernel
theorem dX12_editOwn_250 : decode cX12_editOwn 250 = .ok (.iadd, 1) := by decide +kernel
theorem dX12_editOwn_251 : decode cX12_editOwn 251 = .ok (.aload_n 0, 1) := by decide +kernel
theorem dX12_editOwn_252 : decode cX12_editOwn 252 = .ok (.getfield 112, 3) := by decide +kernel
theorem dX12_editOwn_255 : decode cX12_editOwn 255 = .ok (.iload 9, 2) := by decide +kernel
theorem dX12_editOwn_257 : decode cX12_editOwn 257 = .ok (.iaload, 1) := by decide +kernel
theorem dX12_editOwn_258 : decode cX12_editOwn 258 = .ok (.iastore, 1) := by decide +kernel
theorem dX12_editOwn_259 : decode cX12_editOwn 259 = .ok (.iinc 9 1, 3) := by decide +kernel
theorem dX12_editOwn_262 : decode cX12_editOwn 262 = .ok (.goto (-45), 3) := by decide +kernel
theorem dX12_editOwn_265 : decode cX12_editOwn 265 = .ok (.aload_n 0, 1) := by decide +kernel
theorem dX12_editOwn_266 : decode cX12_editOwn 266 = .ok (.getfield 97, 3) := by decide +kernel
theorem dX12_editOwn_269 : decode cX12_editOwn 269 = .ok (.iconst 4, 1) := by decide +kernel
theorem dX12_editOwn_270 : decode cX12_editOwn 270 = .ok (.iload_n 1, 1) := by decide +kernel
theorem dX12_editOwn_271 : decode cX12_editOwn 271 = .ok (.imul, 1) := by decide +kernel
theorem dX12_editOwn_272 : decode cX12_editOwn 272 = .ok (.iload_n 2, 1) := by decide +kernel
theorem dX12_editOwn_273 : decode cX12_editOwn 273 = .ok (.iadd, 1) := by decide +kernel
theorem dX12_editOwn_274 : decode cX12_editOwn 274 = .ok (.dup2, 1) := by decide +kernel
theorem dX12_editOwn_275 : decode cX12_editOwn 275 = .ok (.iaload, 1) := by decide +kernel
theorem dX12_editOwn_276 : decode cX12_editOwn 276 = .ok (.iload 7, 2) := by decide +kernel
theorem dX12_editOwn_278 : decode cX12_editOwn 278 = .ok (.ifCond .eq 7, 3) := by decide +kernel
theorem dX12_editOwn_281 : decode cX12_editOwn 281 = .ok (.iconst 1, 1) := by decide +kernel
theorem dX12_editOwn_282 : decode cX12_editOwn 282 = .ok (.goto 4, 3) := by decide +kernel
theorem dX12_editOwn_285 : decode cX12_editOwn 285 = .ok (.iconst 0, 1) := by decide +kernel
theorem dX12_editOwn_286 : decode cX12_editOwn 286 = .ok (.iload 8, 2) := by decide +kernel
theorem dX12_editOwn_288 : decode cX12_editOwn 288 = .ok (.ifCond .ne 7, 3) := by decide +kernel
theorem dX12_editOwn_291 : decode cX12_editOwn 291 = .ok (.iconst 0, 1) := by decide +kernel
theorem dX12_editOwn_292 : decode cX12_editOwn 292 = .ok (.goto 14, 3) := by decide +kernel
theorem dX12_editOwn_295 : decode cX12_editOwn 295 = .ok (.iload 5, 2) := by decide +kernel
theorem dX12_editOwn_297 : decode cX12_editOwn 297 = .ok (.iconst 1, 1) := by decide +kernel
theorem dX12_editOwn_298 : decode cX12_editOwn 298 = .ok (.if_icmp .ne 7, 3) := by decide +kernel
theorem dX12_editOwn_301 : decode cX12_editOwn 301 = .ok (.iconst 1, 1) := by decide +kernel
theorem dX12_editOwn_302 : decode cX12_editOwn 302 = .ok (.goto 4, 3) := by decide +kernel
theorem dX12_editOwn_305 : decode cX12_editOwn 305 = .ok (.iconst 2, 1) := by decide +kernel
theorem dX12_editOwn_306 : decode cX12_editOwn 306 = .ok (.iadd, 1) := by decide +kernel
theorem dX12_editOwn_307 : decode cX12_editOwn 307 = .ok (.iadd, 1) := by decide +kernel
theorem dX12_editOwn_308 : decode cX12_editOwn 308 = .ok (.iastore, 1) := by decide +kernel
theorem dX12_editOwn_309 : decode cX12_editOwn 309 = .ok (.return_, 1) := by decide +kernel
theorem dX12_byteOver_0 : decode cX12_byteOver 0 = .ok (.iconst 2, 1) := by decide +kernel
theorem dX12_byteOver_1 : decode cX12_byteOver 1 = .ok (.iload_n 1, 1) := by decide +kernel
theorem dX12_byteOver_2 : decode cX12_byteOver 2 = .ok (.imul, 1) := by decide +kernel
theorem dX12_byteOver_3 : decode cX12_byteOver 3 = .ok (.iload_n 2, 1) := by decide +kernel
theorem dX12_byteOver_4 : decode cX12_byteOver 4 = .ok (.iadd, 1) := by decide +kernel
theorem dX12_byteOver_5 : decode cX12_byteOver 5 = .ok (.istore 4, 2) := by decide +kernel
theorem dX12_byteOver_7 : decode cX12_byteOver 7 = .ok (.iload_n 3, 1) := by decide +kernel
theorem dX12_byteOver_8 : decode cX12_byteOver 8 = .ok (.i2l, 1) := by decide +kernel
theorem dX12_byteOver_9 : decode cX12_byteOver 9 = .ok (.aload_n 0, 1) := by decide +kernel
theorem dX12_byteOver_10 : decode cX12_byteOver 10 = .ok (.getfield 52, 3) := by decide +kernel
theorem dX12_byteOver_13 : decode cX12_byteOver 13 = .ok (.iload 4, 2) := by decide +kernel
theorem dX12_byteOver_15 : decode cX12_byteOver 15 = .ok (.iaload, 1) := by decide +kernel
theorem dX12_byteOver_16 : decode cX12_byteOver 16 = .ok (.i2l, 1) := by decide +kernel
theorem dX12_byteOver_17 : decode cX12_byteOver 17 = .ok (.aload_n 0, 1) := by decide +kernel
theorem dX12_byteOver_18 : decode cX12_byteOver 18 = .ok (.getfield 52, 3) := by decide +kernel
theorem dX12_byteOver_21 : decode cX12_byteOver 21 = .ok (.iload 4, 2) := by decide +kernel
theorem dX12_byteOver_23 : decode cX12_byteOver 23 = .ok (.iaload, 1) := by decide +kernel
theorem dX12_byteOver_24 : decode cX12_byteOver 24 = .ok (.aload_n 0, 1) := by decide +kernel
theorem dX12_byteOver_25 : decode cX12_byteOver 25 = .ok (.getfield 55, 3) := by decide +kernel
theorem dX12_byteOver_28 : decode cX12_byteOver 28 = .ok (.iload 4, 2) := by decide +kernel
theorem dX12_byteOver_30 : decode cX12_byteOver 30 = .ok (.iaload, 1) := by decide +kernel
theorem dX12_byteOver_31 : decode cX12_byteOver 31 = .ok (.iadd, 1) := by decide +kernel
theorem dX12_byteOver_32 : decode cX12_byteOver 32 = .ok (.iconst 1, 1) := by decide +kernel
theorem dX12_byteOver_33 : decode cX12_byteOver 33 = .ok (.isub, 1) := by decide +kernel
theorem dX12_byteOver_34 : decode cX12_byteOver 34 = .ok (.i2l, 1) := by decide +kernel
theorem dX12_byteOver_35 : decode cX12_byteOver 35 = .ok (.invokestatic 145, 3) := by decide +kernel
theorem dX12_byteOver_38 : decode cX12_byteOver 38 = .ok (.ifCond .eq 23, 3) := by decide +kernel
theorem dX12_byteOver_41 : decode cX12_byteOver 41 = .ok (.aload_n 0, 1) := by decide +kernel
theorem dX12_byteOver_42 : decode cX12_byteOver 42 = .ok (.getfield 58, 3) := by decide +kernel
theorem dX12_byteOver_45 : decode cX12_byteOver 45 = .ok (.iload 4, 2) := by decide +kernel
theorem dX12_byteOver_47 : decode cX12_byteOver 47 = .ok (.iaload, 1) := by decide +kernel
theorem dX12_byteOver_48 : decode cX12_byteOver 48 = .ok (.iload_n 3, 1) := by decide +kernel
theorem dX12_byteOver_49 : decode cX12_byteOver 49 = .ok (.iadd, 1) := by decide +kernel
theorem dX12_byteOver_50 : decode cX12_byteOver 50 = .ok (.aload_n 0, 1) := by decide +kernel
theorem dX12_byteOver_51 : decode cX12_byteOver 51 = .ok (.getfield 52, 3) := by decide +kernel
theorem dX12_byteOver_54 : decode cX12_byteOver 54 = .ok (.iload 4, 2) := by decide +kernel
theorem dX12_byteOver_56 : decode cX12_byteOver 56 = .ok (.iaload, 1) := by decide +kernel
theorem dX12_byteOver_57 : decode cX12_byteOver 57 = .ok (.isub, 1) := by decide +kernel
theorem dX12_byteOver_58 : decode cX12_byteOver 58 = .ok (.goto 5, 3) := by decide +kernel
theorem dX12_byteOver_61 : decode cX12_byteOver 61 = .ok (.bipush (-4), 2) := by decide +kernel
theorem dX12_byteOver_63 : decode cX12_byteOver 63 = .ok (.ireturn, 1) := by decide +kernel
theorem dX12_editMap_0 : decode cX12_editMap 0 = .ok (.aload_n 0, 1) := by decide +kernel
theorem dX12_editMap_1 : decode cX12_editMap 1 = .ok (.getfield 79, 3) := by decide +kernel
theorem dX12_editMap_4 : decode cX12_editMap 4 = .ok (.iload_n 2, 1) := by decide +kernel
theorem dX12_editMap_5 : decode cX12_editMap 5 = .ok (.iaload, 1) := by decide +kernel
theorem dX12_editMap_6 : decode cX12_editMap 6 = .ok (.bipush 10, 2) := by decide +kernel
theorem dX12_editMap_8 : decode cX12_editMap 8 = .ok (.isub, 1) := by decide +kernel
theorem dX12_editMap_9 : decode cX12_editMap 9 = .ok (.istore 5, 2) := by decide +kernel
theorem dX12_editMap_11 : decode cX12_editMap 11 = .ok (.iload 5, 2) := by decide +kernel
theorem dX12_editMap_13 : decode cX12_editMap 13 = .ok (.iconst 1, 1) := by decide +kernel
theorem dX12_editMap_14 : decode cX12_editMap 14 = .ok (.if_icmp .eq 17, 3) := by decide +kernel
theorem dX12_editMap_17 : decode cX12_editMap 17 = .ok (.aload_n 0, 1) := by decide +kernel
theorem dX12_editMap_18 : decode cX12_editMap 18 = .ok (.getfield 40, 3) := by decide +kernel
theorem dX12_editMap_21 : decode cX12_editMap 21 = .ok (.iload_n 3, 1) := by decide +kernel
theorem dX12_editMap_22 : decode cX12_editMap 22 = .ok (.iaload, 1) := by decide +kernel
theorem dX12_editMap_23 : decode cX12_editMap 23 = .ok (.iconst 2, 1) := by decide +kernel
theorem dX12_editMap_24 : decode cX12_editMap 24 = .ok (.if_icmp .lt 7, 3) := by decide +kernel
theorem dX12_editMap_27 : decode cX12_editMap 27 = .ok (.iconst 1, 1) := by decide +kernel
theorem dX12_editMap_28 : decode cX12_editMap 28 = .ok (.goto 4, 3) := by decide +kernel
theorem dX12_editMap_31 : decode cX12_editMap 31 = .ok (.iconst 0, 1) := by decide +kernel
theorem dX12_editMap_32 : decode cX12_editMap 32 = .ok (.istore 6, 2) := by decide +kernel
theorem dX12_editMap_34 : decode cX12_editMap 34 = .ok (.iload 5, 2) := by decide +kernel
theorem dX12_editMap_36 : decode cX12_editMap 36 = .ok (.ifCond .eq 17, 3) := by decide +kernel
theorem dX12_editMap_39 : decode cX12_editMap 39 = .ok (.aload_n 0, 1) := by decide +kernel
theorem dX12_editMap_40 : decode cX12_editMap 40 = .ok (.getfield 40, 3) := by decide +kernel
theorem dX12_editMap_43 : decode cX12_editMap 43 = .ok (.iload_n 3, 1) := by decide +kernel
theorem dX12_editMap_44 : decode cX12_editMap 44 = .ok (.iaload, 1) := by decide +kernel
theorem dX12_editMap_45 : decode cX12_editMap 45 = .ok (.iconst 3, 1) := by decide +kernel
theorem dX12_editMap_46 : decode cX12_editMap 46 = .ok (.if_icmp .ne 7, 3) := by decide +kernel
theorem dX12_editMap_49 : decode cX12_editMap 49 = .ok (.iconst 1, 1) := by decide +kernel
theorem dX12_editMap_50 : decode cX12_editMap 50 = .ok (.goto 4, 3) := by decide +kernel
theorem dX12_editMap_53 : decode cX12_editMap 53 = .ok (.iconst 0, 1) := by decide +kernel
theorem dX12_editMap_54 : decode cX12_editMap 54 = .ok (.istore 7, 2) := by decide +kernel
theorem dX12_editMap_56 : decode cX12_editMap 56 = .ok (.iconst 0, 1) := by decide +kernel
theorem dX12_editMap_57 : decode cX12_editMap 57 = .ok (.istore 8, 2) := by decide +kernel
theorem dX12_editMap_59 : decode cX12_editMap 59 = .ok (.iconst 0, 1) := by decide +kernel
theorem dX12_editMap_60 : decode cX12_editMap 60 = .ok (.istore 9, 2) := by decide +kernel
theorem dX12_editMap_62 : decode cX12_editMap 62 = .ok (.iconst 0, 1) := by decide +kernel
theorem dX12_editMap_63 : decode cX12_editMap 63 = .ok (.istore 10, 2) := by decide +kernel
theorem dX12_editMap_65 : decode cX12_editMap 65 = .ok (.iload 10, 2) := by decide +kernel
theorem dX12_editMap_67 : decode cX12_editMap 67 = .ok (.aload_n 0, 1) := by decide +kernel
theorem dX12_editMap_68 : decode cX12_editMap 68 = .ok (.getfield 88, 3) := by decide +kernel
theorem dX12_editMap_71 : decode cX12_editMap 71 = .ok (.iload_n 2, 1) := by decide +kernel
theorem dX12_editMap_72 : decode cX12_editMap 72 = .ok (.iaload, 1) := by decide +kernel
theorem dX12_editMap_73 : decode cX12_editMap 73 = .ok (.if_icmp .ge 85, 3) := by decide +kernel
