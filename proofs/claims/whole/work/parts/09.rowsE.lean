theorem dX12_isPush_56 : decode cX12_isPush 56 = .ok (.iconst 0, 1) := by decide +kernel
theorem dX12_isPush_57 : decode cX12_isPush 57 = .ok (.istore_n 3, 1) := by decide +kernel
theorem dX12_isPush_58 : decode cX12_isPush 58 = .ok (.iload_n 3, 1) := by decide +kernel
theorem dX12_isPush_59 : decode cX12_isPush 59 = .ok (.ifCond .eq 16, 3) := by decide +kernel
theorem dX12_isPush_62 : decode cX12_isPush 62 = .ok (.aload_n 0, 1) := by decide +kernel
theorem dX12_isPush_63 : decode cX12_isPush 63 = .ok (.iload 6, 2) := by decide +kernel
theorem dX12_isPush_65 : decode cX12_isPush 65 = .ok (.invokevirtual 287, 3) := by decide +kernel
theorem dX12_isPush_68 : decode cX12_isPush 68 = .ok (.ifCond .eq 7, 3) := by decide +kernel
theorem dX12_isPush_71 : decode cX12_isPush 71 = .ok (.iconst 1, 1) := by decide +kernel
theorem dX12_isPush_72 : decode cX12_isPush 72 = .ok (.goto 4, 3) := by decide +kernel
theorem dX12_isPush_75 : decode cX12_isPush 75 = .ok (.iconst 0, 1) := by decide +kernel
theorem dX12_isPush_76 : decode cX12_isPush 76 = .ok (.istore 4, 2) := by decide +kernel
theorem dX12_isPush_78 : decode cX12_isPush 78 = .ok (.iload 5, 2) := by decide +kernel
theorem dX12_isPush_80 : decode cX12_isPush 80 = .ok (.iconst 1, 1) := by decide +kernel
theorem dX12_isPush_81 : decode cX12_isPush 81 = .ok (.iload 6, 2) := by decide +kernel
theorem dX12_isPush_83 : decode cX12_isPush 83 = .ok (.ishl, 1) := by decide +kernel
theorem dX12_isPush_84 : decode cX12_isPush 84 = .ok (.ixor, 1) := by decide +kernel
theorem dX12_isPush_85 : decode cX12_isPush 85 = .ok (.istore 5, 2) := by decide +kernel
theorem dX12_isPush_87 : decode cX12_isPush 87 = .ok (.iinc 6 1, 3) := by decide +kernel
theorem dX12_isPush_90 : decode cX12_isPush 90 = .ok (.goto (-79), 3) := by decide +kernel
theorem dX12_isPush_93 : decode cX12_isPush 93 = .ok (.iload_n 3, 1) := by decide +kernel
theorem dX12_isPush_94 : decode cX12_isPush 94 = .ok (.ifCond .eq 41, 3) := by decide +kernel
theorem dX12_isPush_97 : decode cX12_isPush 97 = .ok (.iload 4, 2) := by decide +kernel
theorem dX12_isPush_99 : decode cX12_isPush 99 = .ok (.ifCond .eq 24, 3) := by decide +kernel
theorem dX12_isPush_102 : decode cX12_isPush 102 = .ok (.iload 5, 2) := by decide +kernel
theorem dX12_isPush_104 : decode cX12_isPush 104 = .ok (.ifCond .ne 31, 3) := by decide +kernel
theorem dX12_isPush_107 : decode cX12_isPush 107 = .ok (.aload_n 0, 1) := by decide +kernel
theorem dX12_isPush_108 : decode cX12_isPush 108 = .ok (.getfield 33, 3) := by decide +kernel
theorem dX12_isPush_111 : decode cX12_isPush 111 = .ok (.bipush 48, 2) := by decide +kernel
theorem dX12_isPush_113 : decode cX12_isPush 113 = .ok (.iaload, 1) := by decide +kernel
theorem dX12_isPush_114 : decode cX12_isPush 114 = .ok (.iload_n 1, 1) := by decide +kernel
theorem dX12_isPush_115 : decode cX12_isPush 115 = .ok (.iconst 1, 1) := by decide +kernel
theorem dX12_isPush_116 : decode cX12_isPush 116 = .ok (.iadd, 1) := by decide +kernel
theorem dX12_isPush_117 : decode cX12_isPush 117 = .ok (.if_icmp .ne 18, 3) := by decide +kernel
theorem dX12_isPush_120 : decode cX12_isPush 120 = .ok (.goto 11, 3) := by decide +kernel
theorem dX12_isPush_123 : decode cX12_isPush 123 = .ok (.aload_n 0, 1) := by decide +kernel
theorem dX12_isPush_124 : decode cX12_isPush 124 = .ok (.invokevirtual 317, 3) := by decide +kernel
theorem dX12_isPush_127 : decode cX12_isPush 127 = .ok (.iload_n 1, 1) := by decide +kernel
theorem dX12_isPush_128 : decode cX12_isPush 128 = .ok (.if_icmp .ne 7, 3) := by decide +kernel
theorem dX12_isPush_131 : decode cX12_isPush 131 = .ok (.iconst 1, 1) := by decide +kernel
theorem dX12_isPush_132 : decode cX12_isPush 132 = .ok (.goto 4, 3) := by decide +kernel
theorem dX12_isPush_135 : decode cX12_isPush 135 = .ok (.iconst 0, 1) := by decide +kernel
theorem dX12_isPush_136 : decode cX12_isPush 136 = .ok (.istore 6, 2) := by decide +kernel
theorem dX12_isPush_138 : decode cX12_isPush 138 = .ok (.aload_n 0, 1) := by decide +kernel
theorem dX12_isPush_139 : decode cX12_isPush 139 = .ok (.invokevirtual 320, 3) := by decide +kernel
theorem dX12_isPush_142 : decode cX12_isPush 142 = .ok (.iload 6, 2) := by decide +kernel
theorem dX12_isPush_144 : decode cX12_isPush 144 = .ok (.ireturn, 1) := by decide +kernel
theorem dX12_push_0 : decode cX12_push 0 = .ok (.aload_n 0, 1) := by decide +kernel
theorem dX12_push_1 : decode cX12_push 1 = .ok (.iconst 0, 1) := by decide +kernel
theorem dX12_push_2 : decode cX12_push 2 = .ok (.putfield 1, 3) := by decide +kernel
theorem dX12_push_5 : decode cX12_push 5 = .ok (.aload_n 0, 1) := by decide +kernel
theorem dX12_push_6 : decode cX12_push 6 = .ok (.iload_n 1, 1) := by decide +kernel
theorem dX12_push_7 : decode cX12_push 7 = .ok (.invokevirtual 254, 3) := by decide +kernel
theorem dX12_push_10 : decode cX12_push 10 = .ok (.ifCond .eq 11, 3) := by decide +kernel
theorem dX12_push_13 : decode cX12_push 13 = .ok (.aload_n 0, 1) := by decide +kernel
theorem dX12_push_14 : decode cX12_push 14 = .ok (.iload_n 1, 1) := by decide +kernel
theorem dX12_push_15 : decode cX12_push 15 = .ok (.invokevirtual 251, 3) := by decide +kernel
theorem dX12_push_18 : decode cX12_push 18 = .ok (.ifCond .eq 5, 3) := by decide +kernel
theorem dX12_push_21 : decode cX12_push 21 = .ok (.iconst (-1), 1) := by decide +kernel
theorem dX12_push_22 : decode cX12_push 22 = .ok (.ireturn, 1) := by decide +kernel
theorem dX12_push_23 : decode cX12_push 23 = .ok (.aload_n 0, 1) := by decide +kernel
theorem dX12_push_24 : decode cX12_push 24 = .ok (.invokevirtual 314, 3) := by decide +kernel
theorem dX12_push_27 : decode cX12_push 27 = .ok (.iconst (-1), 1) := by decide +kernel
theorem dX12_push_28 : decode cX12_push 28 = .ok (.istore_n 2, 1) := by decide +kernel
theorem dX12_push_29 : decode cX12_push 29 = .ok (.iconst 0, 1) := by decide +kernel
theorem dX12_push_30 : decode cX12_push 30 = .ok (.istore_n 3, 1) := by decide +kernel
theorem dX12_push_31 : decode cX12_push 31 = .ok (.iload_n 3, 1) := by decide +kernel
theorem dX12_push_32 : decode cX12_push 32 = .ok (.iconst 1, 1) := by decide +kernel
theorem dX12_push_33 : decode cX12_push 33 = .ok (.aload_n 0, 1) := by decide +kernel
theorem dX12_push_34 : decode cX12_push 34 = .ok (.getfield 33, 3) := by decide +kernel
theorem dX12_push_37 : decode cX12_push 37 = .ok (.iconst 1, 1) := by decide +kernel
theorem dX12_push_38 : decode cX12_push 38 = .ok (.iaload, 1) := by decide +kernel
theorem dX12_push_39 : decode cX12_push 39 = .ok (.ishl, 1) := by decide +kernel
theorem dX12_push_40 : decode cX12_push 40 = .ok (.if_icmp .ge 43, 3) := by decide +kernel
theorem dX12_push_43 : decode cX12_push 43 = .ok (.iload_n 3, 1) := by decide +kernel
theorem dX12_push_44 : decode cX12_push 44 = .ok (.iload_n 1, 1) := by decide +kernel
theorem dX12_push_45 : decode cX12_push 45 = .ok (.invokestatic 248, 3) := by decide +kernel
theorem dX12_push_48 : decode cX12_push 48 = .ok (.ifCond .ne 29, 3) := by decide +kernel
theorem dX12_push_51 : decode cX12_push 51 = .ok (.iload_n 2, 1) := by decide +kernel
theorem dX12_push_52 : decode cX12_push 52 = .ok (.ifCond .lt 14, 3) := by decide +kernel
theorem dX12_push_55 : decode cX12_push 55 = .ok (.iload_n 3, 1) := by decide +kernel
theorem dX12_push_56 : decode cX12_push 56 = .ok (.invokestatic 277, 3) := by decide +kernel
theorem dX12_push_59 : decode cX12_push 59 = .ok (.iload_n 2, 1) := by decide +kernel
theorem dX12_push_60 : decode cX12_push 60 = .ok (.invokestatic 277, 3) := by decide +kernel
theorem dX12_push_63 : decode cX12_push 63 = .ok (.if_icmp .ge 14, 3) := by decide +kernel
theorem dX12_push_66 : decode cX12_push 66 = .ok (.aload_n 0, 1) := by decide +kernel
theorem dX12_push_67 : decode cX12_push 67 = .ok (.iload_n 1, 1) := by decide +kernel
theorem dX12_push_68 : decode cX12_push 68 = .ok (.iload_n 3, 1) := by decide +kernel
theorem dX12_push_69 : decode cX12_push 69 = .ok (.invokevirtual 332, 3) := by decide +kernel
theorem dX12_push_72 : decode cX12_push 72 = .ok (.ifCond .eq 5, 3) := by decide +kernel
theorem dX12_push_75 : decode cX12_push 75 = .ok (.iload_n 3, 1) := by decide +kernel
theorem dX12_push_76 : decode cX12_push 76 = .ok (.istore_n 2, 1) := by decide +kernel
theorem dX12_push_77 : decode cX12_push 77 = .ok (.iinc 3 1, 3) := by decide +kernel
theorem dX12_push_80 : decode cX12_push 80 = .ok (.goto (-49), 3) := by decide +kernel
theorem dX12_push_83 : decode cX12_push 83 = .ok (.iload_n 2, 1) := by decide +kernel
theorem dX12_push_84 : decode cX12_push 84 = .ok (.ifCond .ge 5, 3) := by decide +kernel
theorem dX12_push_87 : decode cX12_push 87 = .ok (.iconst (-1), 1) := by decide +kernel
theorem dX12_push_88 : decode cX12_push 88 = .ok (.ireturn, 1) := by decide +kernel
theorem dX12_push_89 : decode cX12_push 89 = .ok (.aload_n 0, 1) := by decide +kernel
theorem dX12_push_90 : decode cX12_push 90 = .ok (.iconst 1, 1) := by decide +kernel
theorem dX12_push_91 : decode cX12_push 91 = .ok (.putfield 335, 3) := by decide +kernel
theorem dX12_push_94 : decode cX12_push 94 = .ok (.aload_n 0, 1) := by decide +kernel
theorem dX12_push_95 : decode cX12_push 95 = .ok (.iload_n 2, 1) := by decide +kernel
theorem dX12_push_96 : decode cX12_push 96 = .ok (.putfield 338, 3) := by decide +kernel
theorem dX12_push_99 : decode cX12_push 99 = .ok (.iload_n 2, 1) := by decide +kernel
theorem dX12_push_100 : decode cX12_push 100 = .ok (.invokestatic 277, 3) := by decide +kernel
theorem dX12_push_103 : decode cX12_push 103 = .ok (.ireturn, 1) := by decide +kernel
theorem dX12_pushing_0 : decode cX12_pushing 0 = .ok (.aload_n 0, 1) := by decide +kernel
theorem dX12_pushing_1 : decode cX12_pushing 1 = .ok (.iconst 0, 1) := by decide +kernel
theorem dX12_pushing_2 : decode cX12_pushing 2 = .ok (.putfield 1, 3) := by decide +kernel
theorem dX12_pushing_5 : decode cX12_pushing 5 = .ok (.aload_n 0, 1) := by decide +kernel
theorem dX12_pushing_6 : decode cX12_pushing 6 = .ok (.getfield 335, 3) := by decide +kernel
theorem dX12_pushing_9 : decode cX12_pushing 9 = .ok (.ifCond .eq 10, 3) := by decide +kernel
theorem dX12_pushing_12 : decode cX12_pushing 12 = .ok (.aload_n 0, 1) := by decide +kernel
theorem dX12_pushing_13 : decode cX12_pushing 13 = .ok (.getfield 338, 3) := by decide +kernel
theorem dX12_pushing_16 : decode cX12_pushing 16 = .ok (.goto 4, 3) := by decide +kernel
theorem dX12_pushing_19 : decode cX12_pushing 19 = .ok (.iconst (-1), 1) := by decide +kernel
theorem dX12_pushing_20 : decode cX12_pushing 20 = .ok (.ireturn, 1) := by decide +kernel
theorem dX12_safe_0 : decode cX12_safe 0 = .ok (.aload_n 0, 1) := by decide +kernel
theorem dX12_safe_1 : decode cX12_safe 1 = .ok (.iconst 0, 1) := by decide +kernel
theorem dX12_safe_2 : decode cX12_safe 2 = .ok (.putfield 1, 3) := by decide +kernel
theorem dX12_safe_5 : decode cX12_safe 5 = .ok (.aload_n 0, 1) := by decide +kernel
theorem dX12_safe_6 : decode cX12_safe 6 = .ok (.iload_n 1, 1) := by decide +kernel
theorem dX12_safe_7 : decode cX12_safe 7 = .ok (.invokevirtual 254, 3) := by decide +kernel
theorem dX12_safe_10 : decode cX12_safe 10 = .ok (.ifCond .eq 11, 3) := by decide +kernel
theorem dX12_safe_13 : decode cX12_safe 13 = .ok (.aload_n 0, 1) := by decide +kernel
theorem dX12_safe_14 : decode cX12_safe 14 = .ok (.iload_n 1, 1) := by decide +kernel
theorem dX12_safe_15 : decode cX12_safe 15 = .ok (.invokevirtual 251, 3) := by decide +kernel
theorem dX12_safe_18 : decode cX12_safe 18 = .ok (.ifCond .eq 5, 3) := by decide +kernel
theorem dX12_safe_21 : decode cX12_safe 21 = .ok (.iconst (-1), 1) := by decide +kernel
theorem dX12_safe_22 : decode cX12_safe 22 = .ok (.ireturn, 1) := by decide +kernel
theorem dX12_safe_23 : decode cX12_safe 23 = .ok (.aload_n 0, 1) := by decide +kernel
theorem dX12_safe_24 : decode cX12_safe 24 = .ok (.invokevirtual 314, 3) := by decide +kernel
theorem dX12_safe_27 : decode cX12_safe 27 = .ok (.iconst 0, 1) := by decide +kernel
theorem dX12_safe_28 : decode cX12_safe 28 = .ok (.istore_n 2, 1) := by decide +kernel
theorem dX12_safe_29 : decode cX12_safe 29 = .ok (.iconst 0, 1) := by decide +kernel
theorem dX12_safe_30 : decode cX12_safe 30 = .ok (.istore_n 3, 1) := by decide +kernel
theorem dX12_safe_31 : decode cX12_safe 31 = .ok (.iload_n 3, 1) := by decide +kernel
theorem dX12_safe_32 : decode cX12_safe 32 = .ok (.aload_n 0, 1) := by decide +kernel
theorem dX12_safe_33 : decode cX12_safe 33 = .ok (.getfield 33, 3) := by decide +kernel
theorem dX12_safe_36 : decode cX12_safe 36 = .ok (.iconst 0, 1) := by decide +kernel
theorem dX12_safe_37 : decode cX12_safe 37 = .ok (.iaload, 1) := by decide +kernel
theorem dX12_safe_38 : decode cX12_safe 38 = .ok (.if_icmp .ge 41, 3) := by decide +kernel
theorem dX12_safe_41 : decode cX12_safe 41 = .ok (.aload_n 0, 1) := by decide +kernel
theorem dX12_safe_42 : decode cX12_safe 42 = .ok (.getfield 33, 3) := by decide +kernel
theorem dX12_safe_45 : decode cX12_safe 45 = .ok (.bipush 56, 2) := by decide +kernel
theorem dX12_safe_47 : decode cX12_safe 47 = .ok (.iload_n 1, 1) := by decide +kernel
theorem dX12_safe_48 : decode cX12_safe 48 = .ok (.iadd, 1) := by decide +kernel
theorem dX12_safe_49 : decode cX12_safe 49 = .ok (.iload_n 3, 1) := by decide +kernel
theorem dX12_safe_50 : decode cX12_safe 50 = .ok (.iastore, 1) := by decide +kernel
theorem dX12_safe_51 : decode cX12_safe 51 = .ok (.iload_n 2, 1) := by decide +kernel
theorem dX12_safe_52 : decode cX12_safe 52 = .ok (.aload_n 0, 1) := by decide +kernel
theorem dX12_safe_53 : decode cX12_safe 53 = .ok (.invokevirtual 317, 3) := by decide +kernel
theorem dX12_safe_56 : decode cX12_safe 56 = .ok (.iload_n 1, 1) := by decide +kernel
theorem dX12_safe_57 : decode cX12_safe 57 = .ok (.if_icmp .ne 7, 3) := by decide +kernel
theorem dX12_safe_60 : decode cX12_safe 60 = .ok (.iconst 0, 1) := by decide +kernel
theorem dX12_safe_61 : decode cX12_safe 61 = .ok (.goto 6, 3) := by decide +kernel
theorem dX12_safe_64 : decode cX12_safe 64 = .ok (.iconst 1, 1) := by decide +kernel
theorem dX12_safe_65 : decode cX12_safe 65 = .ok (.iload_n 3, 1) := by decide +kernel
theorem dX12_safe_66 : decode cX12_safe 66 = .ok (.ishl, 1) := by decide +kernel
theorem dX12_safe_67 : decode cX12_safe 67 = .ok (.ior, 1) := by decide +kernel
theorem dX12_safe_68 : decode cX12_safe 68 = .ok (.istore_n 2, 1) := by decide +kernel
theorem dX12_safe_69 : decode cX12_safe 69 = .ok (.aload_n 0, 1) := by decide +kernel
theorem dX12_safe_70 : decode cX12_safe 70 = .ok (.invokevirtual 320, 3) := by decide +kernel
theorem dX12_safe_73 : decode cX12_safe 73 = .ok (.iinc 3 1, 3) := by decide +kernel
theorem dX12_safe_76 : decode cX12_safe 76 = .ok (.goto (-45), 3) := by decide +kernel
theorem dX12_safe_79 : decode cX12_safe 79 = .ok (.iload_n 2, 1) := by decide +kernel
theorem dX12_safe_80 : decode cX12_safe 80 = .ok (.ireturn, 1) := by decide +kernel
theorem dX12_hosts_0 : decode cX12_hosts 0 = .ok (.aload_n 0, 1) := by decide +kernel
theorem dX12_hosts_1 : decode cX12_hosts 1 = .ok (.iconst 0, 1) := by decide +kernel
theorem dX12_hosts_2 : decode cX12_hosts 2 = .ok (.putfield 1, 3) := by decide +kernel
theorem dX12_hosts_5 : decode cX12_hosts 5 = .ok (.iload_n 1, 1) := by decide +kernel
theorem dX12_hosts_6 : decode cX12_hosts 6 = .ok (.iconst 1, 1) := by decide +kernel
theorem dX12_hosts_7 : decode cX12_hosts 7 = .ok (.sipush 999, 3) := by decide +kernel
theorem dX12_hosts_10 : decode cX12_hosts 10 = .ok (.invokestatic 182, 3) := by decide +kernel
theorem dX12_hosts_13 : decode cX12_hosts 13 = .ok (.ifCond .ne 5, 3) := by decide +kernel
theorem dX12_hosts_16 : decode cX12_hosts 16 = .ok (.iconst (-1), 1) := by decide +kernel
theorem dX12_hosts_17 : decode cX12_hosts 17 = .ok (.ireturn, 1) := by decide +kernel
theorem dX12_hosts_18 : decode cX12_hosts 18 = .ok (.iconst 0, 1) := by decide +kernel
theorem dX12_hosts_19 : decode cX12_hosts 19 = .ok (.istore_n 2, 1) := by decide +kernel
theorem dX12_hosts_20 : decode cX12_hosts 20 = .ok (.iload_n 2, 1) := by decide +kernel
theorem dX12_hosts_21 : decode cX12_hosts 21 = .ok (.bipush 7, 2) := by decide +kernel
theorem dX12_hosts_23 : decode cX12_hosts 23 = .ok (.if_icmp .ge 24, 3) := by decide +kernel
theorem dX12_hosts_26 : decode cX12_hosts 26 = .ok (.aload_n 0, 1) := by decide +kernel
theorem dX12_hosts_27 : decode cX12_hosts 27 = .ok (.getfield 59, 3) := by decide +kernel
theorem dX12_hosts_30 : decode cX12_hosts 30 = .ok (.iload_n 2, 1) := by decide +kernel
theorem dX12_hosts_31 : decode cX12_hosts 31 = .ok (.aload_n 0, 1) := by decide +kernel
theorem dX12_hosts_32 : decode cX12_hosts 32 = .ok (.getfield 33, 3) := by decide +kernel
theorem dX12_hosts_35 : decode cX12_hosts 35 = .ok (.bipush 49, 2) := by decide +kernel
theorem dX12_hosts_37 : decode cX12_hosts 37 = .ok (.iload_n 2, 1) := by decide +kernel
theorem dX12_hosts_38 : decode cX12_hosts 38 = .ok (.iadd, 1) := by decide +kernel
theorem dX12_hosts_39 : decode cX12_hosts 39 = .ok (.iaload, 1) := by decide +kernel
theorem dX12_hosts_40 : decode cX12_hosts 40 = .ok (.iastore, 1) := by decide +kernel
theorem dX12_hosts_41 : decode cX12_hosts 41 = .ok (.iinc 2 1, 3) := by decide +kernel
theorem dX12_hosts_44 : decode cX12_hosts 44 = .ok (.goto (-24), 3) := by decide +kernel
theorem dX12_hosts_47 : decode cX12_hosts 47 = .ok (.iconst 0, 1) := by decide +kernel
theorem dX12_hosts_48 : decode cX12_hosts 48 = .ok (.istore_n 2, 1) := by decide +kernel
theorem dX12_hosts_49 : decode cX12_hosts 49 = .ok (.iload_n 2, 1) := by decide +kernel
theorem dX12_hosts_50 : decode cX12_hosts 50 = .ok (.bipush 99, 2) := by decide +kernel
theorem dX12_hosts_52 : decode cX12_hosts 52 = .ok (.if_icmp .ge 104, 3) := by decide +kernel
theorem dX12_hosts_55 : decode cX12_hosts 55 = .ok (.iconst (-1), 1) := by decide +kernel
theorem dX12_hosts_56 : decode cX12_hosts 56 = .ok (.istore_n 3, 1) := by decide +kernel
theorem dX12_hosts_57 : decode cX12_hosts 57 = .ok (.iconst 0, 1) := by decide +kernel
theorem dX12_hosts_58 : decode cX12_hosts 58 = .ok (.istore 4, 2) := by decide +kernel
theorem dX12_hosts_60 : decode cX12_hosts 60 = .ok (.iload 4, 2) := by decide +kernel
theorem dX12_hosts_62 : decode cX12_hosts 62 = .ok (.aload_n 0, 1) := by decide +kernel
theorem dX12_hosts_63 : decode cX12_hosts 63 = .ok (.getfield 33, 3) := by decide +kernel
theorem dX12_hosts_66 : decode cX12_hosts 66 = .ok (.iconst 1, 1) := by decide +kernel
theorem dX12_hosts_67 : decode cX12_hosts 67 = .ok (.iaload, 1) := by decide +kernel
theorem dX12_hosts_68 : decode cX12_hosts 68 = .ok (.if_icmp .ge 40, 3) := by decide +kernel
theorem dX12_hosts_71 : decode cX12_hosts 71 = .ok (.iload_n 3, 1) := by decide +kernel
theorem dX12_hosts_72 : decode cX12_hosts 72 = .ok (.ifCond .lt 27, 3) := by decide +kernel
theorem dX12_hosts_75 : decode cX12_hosts 75 = .ok (.aload_n 0, 1) := by decide +kernel
theorem dX12_hosts_76 : decode cX12_hosts 76 = .ok (.getfield 59, 3) := by decide +kernel
theorem dX12_hosts_79 : decode cX12_hosts 79 = .ok (.aload_n 0, 1) := by decide +kernel
theorem dX12_hosts_80 : decode cX12_hosts 80 = .ok (.iload 4, 2) := by decide +kernel
theorem dX12_hosts_82 : decode cX12_hosts 82 = .ok (.invokevirtual 261, 3) := by decide +kernel
theorem dX12_hosts_85 : decode cX12_hosts 85 = .ok (.iaload, 1) := by decide +kernel
theorem dX12_hosts_86 : decode cX12_hosts 86 = .ok (.aload_n 0, 1) := by decide +kernel
theorem dX12_hosts_87 : decode cX12_hosts 87 = .ok (.getfield 59, 3) := by decide +kernel
theorem dX12_hosts_90 : decode cX12_hosts 90 = .ok (.aload_n 0, 1) := by decide +kernel
theorem dX12_hosts_91 : decode cX12_hosts 91 = .ok (.iload_n 3, 1) := by decide +kernel
theorem dX12_hosts_92 : decode cX12_hosts 92 = .ok (.invokevirtual 261, 3) := by decide +kernel
theorem dX12_hosts_95 : decode cX12_hosts 95 = .ok (.iaload, 1) := by decide +kernel
theorem dX12_hosts_96 : decode cX12_hosts 96 = .ok (.if_icmp .le 6, 3) := by decide +kernel
theorem dX12_hosts_99 : decode cX12_hosts 99 = .ok (.iload 4, 2) := by decide +kernel
theorem dX12_hosts_101 : decode cX12_hosts 101 = .ok (.istore_n 3, 1) := by decide +kernel
theorem dX12_hosts_102 : decode cX12_hosts 102 = .ok (.iinc 4 1, 3) := by decide +kernel
theorem dX12_hosts_105 : decode cX12_hosts 105 = .ok (.goto (-45), 3) := by decide +kernel
theorem dX12_hosts_108 : decode cX12_hosts 108 = .ok (.iload_n 3, 1) := by decide +kernel
theorem dX12_hosts_109 : decode cX12_hosts 109 = .ok (.ifCond .lt 47, 3) := by decide +kernel
theorem dX12_hosts_112 : decode cX12_hosts 112 = .ok (.aload_n 0, 1) := by decide +kernel
theorem dX12_hosts_113 : decode cX12_hosts 113 = .ok (.getfield 59, 3) := by decide +kernel
theorem dX12_hosts_116 : decode cX12_hosts 116 = .ok (.aload_n 0, 1) := by decide +kernel
theorem dX12_hosts_117 : decode cX12_hosts 117 = .ok (.iload_n 3, 1) := by decide +kernel
theorem dX12_hosts_118 : decode cX12_hosts 118 = .ok (.invokevirtual 261, 3) := by decide +kernel
theorem dX12_hosts_121 : decode cX12_hosts 121 = .ok (.iaload, 1) := by decide +kernel
theorem dX12_hosts_122 : decode cX12_hosts 122 = .ok (.iload_n 1, 1) := by decide +kernel
theorem dX12_hosts_123 : decode cX12_hosts 123 = .ok (.if_icmp .ge 6, 3) := by decide +kernel
theorem dX12_hosts_126 : decode cX12_hosts 126 = .ok (.goto 30, 3) := by decide +kernel
theorem dX12_hosts_129 : decode cX12_hosts 129 = .ok (.aload_n 0, 1) := by decide +kernel
theorem dX12_hosts_130 : decode cX12_hosts 130 = .ok (.getfield 59, 3) := by decide +kernel
theorem dX12_hosts_133 : decode cX12_hosts 133 = .ok (.aload_n 0, 1) := by decide +kernel
theorem dX12_hosts_134 : decode cX12_hosts 134 = .ok (.iload_n 3, 1) := by decide +kernel
theorem dX12_hosts_135 : decode cX12_hosts 135 = .ok (.invokevirtual 261, 3) := by decide +kernel
theorem dX12_hosts_138 : decode cX12_hosts 138 = .ok (.dup2, 1) := by decide +kernel
theorem dX12_hosts_139 : decode cX12_hosts 139 = .ok (.iaload, 1) := by decide +kernel
theorem dX12_hosts_140 : decode cX12_hosts 140 = .ok (.iload_n 1, 1) := by decide +kernel
theorem dX12_hosts_141 : decode cX12_hosts 141 = .ok (.isub, 1) := by decide +kernel
theorem dX12_hosts_142 : decode cX12_hosts 142 = .ok (.iastore, 1) := by decide +kernel
theorem dX12_hosts_143 : decode cX12_hosts 143 = .ok (.aload_n 0, 1) := by decide +kernel
theorem dX12_hosts_144 : decode cX12_hosts 144 = .ok (.getfield 62, 3) := by decide +kernel
theorem dX12_hosts_147 : decode cX12_hosts 147 = .ok (.iload_n 2, 1) := by decide +kernel
theorem dX12_hosts_148 : decode cX12_hosts 148 = .ok (.iload_n 3, 1) := by decide +kernel
theorem dX12_hosts_149 : decode cX12_hosts 149 = .ok (.iastore, 1) := by decide +kernel
theorem dX12_hosts_150 : decode cX12_hosts 150 = .ok (.iinc 2 1, 3) := by decide +kernel
theorem dX12_hosts_153 : decode cX12_hosts 153 = .ok (.goto (-104), 3) := by decide +kernel
theorem dX12_hosts_156 : decode cX12_hosts 156 = .ok (.aload_n 0, 1) := by decide +kernel
theorem dX12_hosts_157 : decode cX12_hosts 157 = .ok (.iload_n 2, 1) := by decide +kernel
theorem dX12_hosts_158 : decode cX12_hosts 158 = .ok (.putfield 65, 3) := by decide +kernel
theorem dX12_hosts_161 : decode cX12_hosts 161 = .ok (.iload_n 2, 1) := by decide +kernel
theorem dX12_hosts_162 : decode cX12_hosts 162 = .ok (.ireturn, 1) := by decide +kernel
theorem dX12_hostAt_0 : decode cX12_hostAt 0 = .ok (.aload_n 0, 1) := by decide +kernel
theorem dX12_hostAt_1 : decode cX12_hostAt 1 = .ok (.iconst 0, 1) := by decide +kernel
theorem dX12_hostAt_2 : decode cX12_hostAt 2 = .ok (.putfield 1, 3) := by decide +kernel
theorem dX12_hostAt_5 : decode cX12_hostAt 5 = .ok (.iload_n 1, 1) := by decide +kernel
theorem dX12_hostAt_6 : decode cX12_hostAt 6 = .ok (.iconst 0, 1) := by decide +kernel
theorem dX12_hostAt_7 : decode cX12_hostAt 7 = .ok (.aload_n 0, 1) := by decide +kernel
theorem dX12_hostAt_8 : decode cX12_hostAt 8 = .ok (.getfield 65, 3) := by decide +kernel
theorem dX12_hostAt_11 : decode cX12_hostAt 11 = .ok (.iconst 1, 1) := by decide +kernel
theorem dX12_hostAt_12 : decode cX12_hostAt 12 = .ok (.isub, 1) := by decide +kernel
theorem dX12_hostAt_13 : decode cX12_hostAt 13 = .ok (.invokestatic 182, 3) := by decide +kernel
theorem dX12_hostAt_16 : decode cX12_hostAt 16 = .ok (.ifCond .eq 12, 3) := by decide +kernel
theorem dX12_hostAt_19 : decode cX12_hostAt 19 = .ok (.aload_n 0, 1) := by decide +kernel
theorem dX12_hostAt_20 : decode cX12_hostAt 20 = .ok (.getfield 62, 3) := by decide +kernel
theorem dX12_hostAt_23 : decode cX12_hostAt 23 = .ok (.iload_n 1, 1) := by decide +kernel
theorem dX12_hostAt_24 : decode cX12_hostAt 24 = .ok (.iaload, 1) := by decide +kernel
theorem dX12_hostAt_25 : decode cX12_hostAt 25 = .ok (.goto 4, 3) := by decide +kernel
theorem dX12_hostAt_28 : decode cX12_hostAt 28 = .ok (.iconst (-1), 1) := by decide +kernel
theorem dX12_hostAt_29 : decode cX12_hostAt 29 = .ok (.ireturn, 1) := by decide +kernel
theorem dX12_isGone_0 : decode cX12_isGone 0 = .ok (.iload_n 1, 1) := by decide +kernel
theorem dX12_isGone_1 : decode cX12_isGone 1 = .ok (.bipush 9, 2) := by decide +kernel
theorem dX12_isGone_3 : decode cX12_isGone 3 = .ok (.if_icmp .ge 16, 3) := by decide +kernel
theorem dX12_isGone_6 : decode cX12_isGone 6 = .ok (.aload_n 0, 1) := by decide +kernel
theorem dX12_isGone_7 : decode cX12_isGone 7 = .ok (.getfield 33, 3) := by decide +kernel
theorem dX12_isGone_10 : decode cX12_isGone 10 = .ok (.bipush 47, 2) := by decide +kernel
theorem dX12_isGone_12 : decode cX12_isGone 12 = .ok (.dup2, 1) := by decide +kernel
theorem dX12_isGone_13 : decode cX12_isGone 13 = .ok (.iaload, 1) := by decide +kernel
theorem dX12_isGone_14 : decode cX12_isGone 14 = .ok (.iconst 1, 1) := by decide +kernel
theorem dX12_isGone_15 : decode cX12_isGone 15 = .ok (.iload_n 1, 1) := by decide +kernel
theorem dX12_isGone_16 : decode cX12_isGone 16 = .ok (.ishl, 1) := by decide +kernel
theorem dX12_isGone_17 : decode cX12_isGone 17 = .ok (.ior, 1) := by decide +kernel
theorem dX12_isGone_18 : decode cX12_isGone 18 = .ok (.iastore, 1) := by decide +kernel
theorem dX12_isGone_19 : decode cX12_isGone 19 = .ok (.iconst 0, 1) := by decide +kernel
theorem dX12_isGone_20 : decode cX12_isGone 20 = .ok (.istore 4, 2) := by decide +kernel
theorem dX12_isGone_22 : decode cX12_isGone 22 = .ok (.iload 4, 2) := by decide +kernel
theorem dX12_isGone_24 : decode cX12_isGone 24 = .ok (.iload_n 2, 1) := by decide +kernel
theorem dX12_isGone_25 : decode cX12_isGone 25 = .ok (.if_icmp .ge 15, 3) := by decide +kernel
theorem dX12_isGone_28 : decode cX12_isGone 28 = .ok (.aload_n 0, 1) := by decide +kernel
theorem dX12_isGone_29 : decode cX12_isGone 29 = .ok (.iconst (-1), 1) := by decide +kernel
theorem dX12_isGone_30 : decode cX12_isGone 30 = .ok (.invokevirtual 290, 3) := by decide +kernel
theorem dX12_isGone_33 : decode cX12_isGone 33 = .ok (.pop, 1) := by decide +kernel
theorem dX12_isGone_34 : decode cX12_isGone 34 = .ok (.iinc 4 1, 3) := by decide +kernel
theorem dX12_isGone_37 : decode cX12_isGone 37 = .ok (.goto (-15), 3) := by decide +kernel
theorem dX12_isGone_40 : decode cX12_isGone 40 = .ok (.aload_n 0, 1) := by decide +kernel
theorem dX12_isGone_41 : decode cX12_isGone 41 = .ok (.getfield 33, 3) := by decide +kernel
theorem dX12_isGone_44 : decode cX12_isGone 44 = .ok (.bipush 63, 2) := by decide +kernel
theorem dX12_isGone_46 : decode cX12_isGone 46 = .ok (.iaload, 1) := by decide +kernel
theorem dX12_isGone_47 : decode cX12_isGone 47 = .ok (.iload_n 3, 1) := by decide +kernel
theorem dX12_isGone_48 : decode cX12_isGone 48 = .ok (.if_icmp .ne 7, 3) := by decide +kernel
theorem dX12_isGone_51 : decode cX12_isGone 51 = .ok (.iconst 1, 1) := by decide +kernel
theorem dX12_isGone_52 : decode cX12_isGone 52 = .ok (.goto 4, 3) := by decide +kernel
theorem dX12_isGone_55 : decode cX12_isGone 55 = .ok (.iconst 0, 1) := by decide +kernel
theorem dX12_isGone_56 : decode cX12_isGone 56 = .ok (.istore 4, 2) := by decide +kernel
theorem dX12_isGone_58 : decode cX12_isGone 58 = .ok (.aload_n 0, 1) := by decide +kernel
theorem dX12_isGone_59 : decode cX12_isGone 59 = .ok (.invokevirtual 320, 3) := by decide +kernel
theorem dX12_isGone_62 : decode cX12_isGone 62 = .ok (.iload 4, 2) := by decide +kernel
theorem dX12_isGone_64 : decode cX12_isGone 64 = .ok (.ireturn, 1) := by decide +kernel
theorem dX12_gone_0 : decode cX12_gone 0 = .ok (.aload_n 0, 1) := by decide +kernel
theorem dX12_gone_1 : decode cX12_gone 1 = .ok (.iconst 0, 1) := by decide +kernel
theorem dX12_gone_2 : decode cX12_gone 2 = .ok (.putfield 1, 3) := by decide +kernel
theorem dX12_gone_5 : decode cX12_gone 5 = .ok (.aload_n 0, 1) := by decide +kernel
theorem dX12_gone_6 : decode cX12_gone 6 = .ok (.sipush 940, 3) := by decide +kernel
theorem dX12_gone_9 : decode cX12_gone 9 = .ok (.invokevirtual 233, 3) := by decide +kernel
theorem dX12_gone_12 : decode cX12_gone 12 = .ok (.aload_n 0, 1) := by decide +kernel
theorem dX12_gone_13 : decode cX12_gone 13 = .ok (.getfield 18, 3) := by decide +kernel
theorem dX12_gone_16 : decode cX12_gone 16 = .ok (.iconst 2, 1) := by decide +kernel
theorem dX12_gone_17 : decode cX12_gone 17 = .ok (.if_icmp .ne 17, 3) := by decide +kernel
theorem dX12_gone_20 : decode cX12_gone 20 = .ok (.aload_n 0, 1) := by decide +kernel
theorem dX12_gone_21 : decode cX12_gone 21 = .ok (.iconst 0, 1) := by decide +kernel
theorem dX12_gone_22 : decode cX12_gone 22 = .ok (.invokevirtual 341, 3) := by decide +kernel
theorem dX12_gone_25 : decode cX12_gone 25 = .ok (.iconst 1, 1) := by decide +kernel
theorem dX12_gone_26 : decode cX12_gone 26 = .ok (.bipush 9, 2) := by decide +kernel
theorem dX12_gone_28 : decode cX12_gone 28 = .ok (.invokestatic 182, 3) := by decide +kernel
theorem dX12_gone_31 : decode cX12_gone 31 = .ok (.ifCond .ne 5, 3) := by decide +kernel
theorem dX12_gone_34 : decode cX12_gone 34 = .ok (.iconst (-1), 1) := by decide +kernel
theorem dX12_gone_35 : decode cX12_gone 35 = .ok (.ireturn, 1) := by decide +kernel
theorem dX12_gone_36 : decode cX12_gone 36 = .ok (.aload_n 0, 1) := by decide +kernel
theorem dX12_gone_37 : decode cX12_gone 37 = .ok (.invokevirtual 314, 3) := by decide +kernel
theorem dX12_gone_40 : decode cX12_gone 40 = .ok (.iconst 0, 1) := by decide +kernel
theorem dX12_gone_41 : decode cX12_gone 41 = .ok (.istore_n 1, 1) := by decide +kernel
theorem dX12_gone_42 : decode cX12_gone 42 = .ok (.iconst 0, 1) := by decide +kernel
theorem dX12_gone_43 : decode cX12_gone 43 = .ok (.istore_n 2, 1) := by decide +kernel
theorem dX12_gone_44 : decode cX12_gone 44 = .ok (.iload_n 2, 1) := by decide +kernel
theorem dX12_gone_45 : decode cX12_gone 45 = .ok (.bipush 9, 2) := by decide +kernel
theorem dX12_gone_47 : decode cX12_gone 47 = .ok (.if_icmp .gt 51, 3) := by decide +kernel
theorem dX12_gone_50 : decode cX12_gone 50 = .ok (.iload_n 1, 1) := by decide +kernel
theorem dX12_gone_51 : decode cX12_gone 51 = .ok (.iload_n 2, 1) := by decide +kernel
theorem dX12_gone_52 : decode cX12_gone 52 = .ok (.bipush 9, 2) := by decide +kernel
theorem dX12_gone_54 : decode cX12_gone 54 = .ok (.if_icmp .eq 11, 3) := by decide +kernel
theorem dX12_gone_57 : decode cX12_gone 57 = .ok (.aload_n 0, 1) := by decide +kernel
theorem dX12_gone_58 : decode cX12_gone 58 = .ok (.iload_n 2, 1) := by decide +kernel
theorem dX12_gone_59 : decode cX12_gone 59 = .ok (.invokevirtual 265, 3) := by decide +kernel
theorem dX12_gone_62 : decode cX12_gone 62 = .ok (.ifCond .eq 27, 3) := by decide +kernel
theorem dX12_gone_65 : decode cX12_gone 65 = .ok (.aload_n 0, 1) := by decide +kernel
theorem dX12_gone_66 : decode cX12_gone 66 = .ok (.iload_n 2, 1) := by decide +kernel
theorem dX12_gone_67 : decode cX12_gone 67 = .ok (.aload_n 0, 1) := by decide +kernel
theorem dX12_gone_68 : decode cX12_gone 68 = .ok (.iconst 0, 1) := by decide +kernel
theorem dX12_gone_69 : decode cX12_gone 69 = .ok (.invokevirtual 341, 3) := by decide +kernel
theorem dX12_gone_72 : decode cX12_gone 72 = .ok (.aload_n 0, 1) := by decide +kernel
theorem dX12_gone_73 : decode cX12_gone 73 = .ok (.iconst 1, 1) := by decide +kernel
theorem dX12_gone_74 : decode cX12_gone 74 = .ok (.invokevirtual 341, 3) := by decide +kernel
theorem dX12_gone_77 : decode cX12_gone 77 = .ok (.invokevirtual 344, 3) := by decide +kernel
theorem dX12_gone_80 : decode cX12_gone 80 = .ok (.ifCond .eq 9, 3) := by decide +kernel
theorem dX12_gone_83 : decode cX12_gone 83 = .ok (.iconst 1, 1) := by decide +kernel
theorem dX12_gone_84 : decode cX12_gone 84 = .ok (.iload_n 2, 1) := by decide +kernel
theorem dX12_gone_85 : decode cX12_gone 85 = .ok (.ishl, 1) := by decide +kernel
theorem dX12_gone_86 : decode cX12_gone 86 = .ok (.goto 4, 3) := by decide +kernel
theorem dX12_gone_89 : decode cX12_gone 89 = .ok (.iconst 0, 1) := by decide +kernel
theorem dX12_gone_90 : decode cX12_gone 90 = .ok (.ior, 1) := by decide +kernel
theorem dX12_gone_91 : decode cX12_gone 91 = .ok (.istore_n 1, 1) := by decide +kernel
theorem dX12_gone_92 : decode cX12_gone 92 = .ok (.iinc 2 1, 3) := by decide +kernel
theorem dX12_gone_95 : decode cX12_gone 95 = .ok (.goto (-51), 3) := by decide +kernel
theorem dX12_gone_98 : decode cX12_gone 98 = .ok (.iload_n 1, 1) := by decide +kernel
theorem dX12_gone_99 : decode cX12_gone 99 = .ok (.ireturn, 1) := by decide +kernel
theorem dX12_when_0 : decode cX12_when 0 = .ok (.aload_n 0, 1) := by decide +kernel
theorem dX12_when_1 : decode cX12_when 1 = .ok (.iconst 0, 1) := by decide +kernel
theorem dX12_when_2 : decode cX12_when 2 = .ok (.putfield 1, 3) := by decide +kernel
theorem dX12_when_5 : decode cX12_when 5 = .ok (.aload_n 0, 1) := by decide +kernel
theorem dX12_when_6 : decode cX12_when 6 = .ok (.iload_n 1, 1) := by decide +kernel
theorem dX12_when_7 : decode cX12_when 7 = .ok (.invokevirtual 254, 3) := by decide +kernel
theorem dX12_when_10 : decode cX12_when 10 = .ok (.ifCond .eq 11, 3) := by decide +kernel
theorem dX12_when_13 : decode cX12_when 13 = .ok (.aload_n 0, 1) := by decide +kernel
theorem dX12_when_14 : decode cX12_when 14 = .ok (.iload_n 2, 1) := by decide +kernel
theorem dX12_when_15 : decode cX12_when 15 = .ok (.invokevirtual 265, 3) := by decide +kernel
theorem dX12_when_18 : decode cX12_when 18 = .ok (.ifCond .ne 5, 3) := by decide +kernel
theorem dX12_when_21 : decode cX12_when 21 = .ok (.iconst (-1), 1) := by decide +kernel
theorem dX12_when_22 : decode cX12_when 22 = .ok (.ireturn, 1) := by decide +kernel
theorem dX12_when_23 : decode cX12_when 23 = .ok (.iconst 0, 1) := by decide +kernel
theorem dX12_when_24 : decode cX12_when 24 = .ok (.istore_n 3, 1) := by decide +kernel
theorem dX12_when_25 : decode cX12_when 25 = .ok (.iload_n 3, 1) := by decide +kernel
theorem dX12_when_26 : decode cX12_when 26 = .ok (.aload_n 0, 1) := by decide +kernel
theorem dX12_when_27 : decode cX12_when 27 = .ok (.getfield 33, 3) := by decide +kernel
theorem dX12_when_30 : decode cX12_when 30 = .ok (.iconst 0, 1) := by decide +kernel
theorem dX12_when_31 : decode cX12_when 31 = .ok (.iaload, 1) := by decide +kernel
theorem dX12_when_32 : decode cX12_when 32 = .ok (.if_icmp .ge 43, 3) := by decide +kernel
theorem dX12_when_35 : decode cX12_when 35 = .ok (.aload_n 0, 1) := by decide +kernel
theorem dX12_when_36 : decode cX12_when 36 = .ok (.getfield 33, 3) := by decide +kernel
theorem dX12_when_39 : decode cX12_when 39 = .ok (.bipush 56, 2) := by decide +kernel
theorem dX12_when_41 : decode cX12_when 41 = .ok (.iload_n 1, 1) := by decide +kernel
theorem dX12_when_42 : decode cX12_when 42 = .ok (.iadd, 1) := by decide +kernel
theorem dX12_when_43 : decode cX12_when 43 = .ok (.iaload, 1) := by decide +kernel
theorem dX12_when_44 : decode cX12_when 44 = .ok (.iload_n 3, 1) := by decide +kernel
theorem dX12_when_45 : decode cX12_when 45 = .ok (.aload_n 0, 1) := by decide +kernel
theorem dX12_when_46 : decode cX12_when 46 = .ok (.getfield 33, 3) := by decide +kernel
theorem dX12_when_49 : decode cX12_when 49 = .ok (.bipush 17, 2) := by decide +kernel
theorem dX12_when_51 : decode cX12_when 51 = .ok (.iload_n 1, 1) := by decide +kernel
theorem dX12_when_52 : decode cX12_when 52 = .ok (.iadd, 1) := by decide +kernel
theorem dX12_when_53 : decode cX12_when 53 = .ok (.iaload, 1) := by decide +kernel
theorem dX12_when_54 : decode cX12_when 54 = .ok (.imul, 1) := by decide +kernel
theorem dX12_when_55 : decode cX12_when 55 = .ok (.iadd, 1) := by decide +kernel
theorem dX12_when_56 : decode cX12_when 56 = .ok (.aload_n 0, 1) := by decide +kernel
theorem dX12_when_57 : decode cX12_when 57 = .ok (.getfield 33, 3) := by decide +kernel
theorem dX12_when_60 : decode cX12_when 60 = .ok (.iconst 0, 1) := by decide +kernel
theorem dX12_when_61 : decode cX12_when 61 = .ok (.iaload, 1) := by decide +kernel
theorem dX12_when_62 : decode cX12_when 62 = .ok (.irem, 1) := by decide +kernel
theorem dX12_when_63 : decode cX12_when 63 = .ok (.iload_n 2, 1) := by decide +kernel
theorem dX12_when_64 : decode cX12_when 64 = .ok (.if_icmp .ne 5, 3) := by decide +kernel
theorem dX12_when_67 : decode cX12_when 67 = .ok (.iload_n 3, 1) := by decide +kernel
theorem dX12_when_68 : decode cX12_when 68 = .ok (.ireturn, 1) := by decide +kernel
theorem dX12_when_69 : decode cX12_when 69 = .ok (.iinc 3 1, 3) := by decide +kernel
theorem dX12_when_72 : decode cX12_when 72 = .ok (.goto (-47), 3) := by decide +kernel
theorem dX12_when_75 : decode cX12_when 75 = .ok (.iconst (-1), 1) := by decide +kernel
theorem dX12_when_76 : decode cX12_when 76 = .ok (.ireturn, 1) := by decide +kernel
theorem dX12_menu_0 : decode cX12_menu 0 = .ok (.aload_n 0, 1) := by decide +kernel
theorem dX12_menu_1 : decode cX12_menu 1 = .ok (.iconst 0, 1) := by decide +kernel
theorem dX12_menu_2 : decode cX12_menu 2 = .ok (.putfield 1, 3) := by decide +kernel
theorem dX12_menu_5 : decode cX12_menu 5 = .ok (.ldc_w 347, 3) := by decide +kernel
theorem dX12_menu_8 : decode cX12_menu 8 = .ok (.istore_n 1, 1) := by decide +kernel
theorem dX12_menu_9 : decode cX12_menu 9 = .ok (.iconst 0, 1) := by decide +kernel
theorem dX12_menu_10 : decode cX12_menu 10 = .ok (.istore_n 2, 1) := by decide +kernel
theorem dX12_menu_11 : decode cX12_menu 11 = .ok (.iload_n 2, 1) := by decide +kernel
theorem dX12_menu_12 : decode cX12_menu 12 = .ok (.aload_n 0, 1) := by decide +kernel
theorem dX12_menu_13 : decode cX12_menu 13 = .ok (.getfield 33, 3) := by decide +kernel
theorem dX12_menu_16 : decode cX12_menu 16 = .ok (.iconst 1, 1) := by decide +kernel
theorem dX12_menu_17 : decode cX12_menu 17 = .ok (.iaload, 1) := by decide +kernel
theorem dX12_menu_18 : decode cX12_menu 18 = .ok (.if_icmp .ge 27, 3) := by decide +kernel
theorem dX12_menu_21 : decode cX12_menu 21 = .ok (.iload_n 1, 1) := by decide +kernel
theorem dX12_menu_22 : decode cX12_menu 22 = .ok (.aload_n 0, 1) := by decide +kernel
theorem dX12_menu_23 : decode cX12_menu 23 = .ok (.getfield 33, 3) := by decide +kernel
theorem dX12_menu_26 : decode cX12_menu 26 = .ok (.bipush 49, 2) := by decide +kernel
theorem dX12_menu_28 : decode cX12_menu 28 = .ok (.aload_n 0, 1) := by decide +kernel
theorem dX12_menu_29 : decode cX12_menu 29 = .ok (.iload_n 2, 1) := by decide +kernel
theorem dX12_menu_30 : decode cX12_menu 30 = .ok (.invokevirtual 261, 3) := by decide +kernel
theorem dX12_menu_33 : decode cX12_menu 33 = .ok (.iadd, 1) := by decide +kernel
theorem dX12_menu_34 : decode cX12_menu 34 = .ok (.iaload, 1) := by decide +kernel
theorem dX12_menu_35 : decode cX12_menu 35 = .ok (.invokestatic 280, 3) := by decide +kernel
theorem dX12_menu_38 : decode cX12_menu 38 = .ok (.istore_n 1, 1) := by decide +kernel
theorem dX12_menu_39 : decode cX12_menu 39 = .ok (.iinc 2 1, 3) := by decide +kernel
theorem dX12_menu_42 : decode cX12_menu 42 = .ok (.goto (-31), 3) := by decide +kernel
theorem dX12_menu_45 : decode cX12_menu 45 = .ok (.iconst 0, 1) := by decide +kernel
theorem dX12_menu_46 : decode cX12_menu 46 = .ok (.istore_n 2, 1) := by decide +kernel
theorem dX12_menu_47 : decode cX12_menu 47 = .ok (.iconst 1, 1) := by decide +kernel
theorem dX12_menu_48 : decode cX12_menu 48 = .ok (.istore_n 3, 1) := by decide +kernel
theorem dX12_menu_49 : decode cX12_menu 49 = .ok (.iload_n 3, 1) := by decide +kernel
theorem dX12_menu_50 : decode cX12_menu 50 = .ok (.iconst 1, 1) := by decide +kernel
theorem dX12_menu_51 : decode cX12_menu 51 = .ok (.aload_n 0, 1) := by decide +kernel
theorem dX12_menu_52 : decode cX12_menu 52 = .ok (.getfield 33, 3) := by decide +kernel
theorem dX12_menu_55 : decode cX12_menu 55 = .ok (.iconst 2, 1) := by decide +kernel
theorem dX12_menu_56 : decode cX12_menu 56 = .ok (.iaload, 1) := by decide +kernel
theorem dX12_menu_57 : decode cX12_menu 57 = .ok (.ishl, 1) := by decide +kernel
theorem dX12_menu_58 : decode cX12_menu 58 = .ok (.if_icmp .ge 57, 3) := by decide +kernel
theorem dX12_menu_61 : decode cX12_menu 61 = .ok (.iload_n 3, 1) := by decide +kernel
theorem dX12_menu_62 : decode cX12_menu 62 = .ok (.invokestatic 277, 3) := by decide +kernel
theorem dX12_menu_65 : decode cX12_menu 65 = .ok (.iload_n 2, 1) := by decide +kernel
theorem dX12_menu_66 : decode cX12_menu 66 = .ok (.invokestatic 277, 3) := by decide +kernel
theorem dX12_menu_69 : decode cX12_menu 69 = .ok (.isub, 1) := by decide +kernel
theorem dX12_menu_70 : decode cX12_menu 70 = .ok (.istore 4, 2) := by decide +kernel
theorem dX12_menu_72 : decode cX12_menu 72 = .ok (.aload_n 0, 1) := by decide +kernel
theorem dX12_menu_73 : decode cX12_menu 73 = .ok (.iload_n 3, 1) := by decide +kernel
theorem dX12_menu_74 : decode cX12_menu 74 = .ok (.invokevirtual 271, 3) := by decide +kernel
theorem dX12_menu_77 : decode cX12_menu 77 = .ok (.iload_n 1, 1) := by decide +kernel
theorem dX12_menu_78 : decode cX12_menu 78 = .ok (.if_icmp .gt 31, 3) := by decide +kernel
theorem dX12_menu_81 : decode cX12_menu 81 = .ok (.iload 4, 2) := by decide +kernel
theorem dX12_menu_83 : decode cX12_menu 83 = .ok (.ifCond .lt 26, 3) := by decide +kernel
theorem dX12_menu_86 : decode cX12_menu 86 = .ok (.iload 4, 2) := by decide +kernel
theorem dX12_menu_88 : decode cX12_menu 88 = .ok (.ifCond .ne 19, 3) := by decide +kernel
theorem dX12_menu_91 : decode cX12_menu 91 = .ok (.aload_n 0, 1) := by decide +kernel
theorem dX12_menu_92 : decode cX12_menu 92 = .ok (.iload_n 3, 1) := by decide +kernel
theorem dX12_menu_93 : decode cX12_menu 93 = .ok (.invokevirtual 271, 3) := by decide +kernel
theorem dX12_menu_96 : decode cX12_menu 96 = .ok (.aload_n 0, 1) := by decide +kernel
theorem dX12_menu_97 : decode cX12_menu 97 = .ok (.iload_n 2, 1) := by decide +kernel
theorem dX12_menu_98 : decode cX12_menu 98 = .ok (.invokevirtual 271, 3) := by decide +kernel
theorem dX12_menu_101 : decode cX12_menu 101 = .ok (.if_icmp .lt 6, 3) := by decide +kernel
theorem dX12_menu_104 : decode cX12_menu 104 = .ok (.goto 5, 3) := by decide +kernel
theorem dX12_menu_107 : decode cX12_menu 107 = .ok (.iload_n 3, 1) := by decide +kernel
theorem dX12_menu_108 : decode cX12_menu 108 = .ok (.istore_n 2, 1) := by decide +kernel
theorem dX12_menu_109 : decode cX12_menu 109 = .ok (.iinc 3 1, 3) := by decide +kernel
theorem dX12_menu_112 : decode cX12_menu 112 = .ok (.goto (-63), 3) := by decide +kernel
theorem dX12_menu_115 : decode cX12_menu 115 = .ok (.aload_n 0, 1) := by decide +kernel
theorem dX12_menu_116 : decode cX12_menu 116 = .ok (.iload_n 2, 1) := by decide +kernel
theorem dX12_menu_117 : decode cX12_menu 117 = .ok (.putfield 68, 3) := by decide +kernel
theorem dX12_menu_120 : decode cX12_menu 120 = .ok (.iload_n 2, 1) := by decide +kernel
theorem dX12_menu_121 : decode cX12_menu 121 = .ok (.invokestatic 277, 3) := by decide +kernel
theorem dX12_menu_124 : decode cX12_menu 124 = .ok (.ireturn, 1) := by decide +kernel
theorem dX12_menuOf_0 : decode cX12_menuOf 0 = .ok (.aload_n 0, 1) := by decide +kernel
theorem dX12_menuOf_1 : decode cX12_menuOf 1 = .ok (.iconst 0, 1) := by decide +kernel
theorem dX12_menuOf_2 : decode cX12_menuOf 2 = .ok (.putfield 1, 3) := by decide +kernel
theorem dX12_menuOf_5 : decode cX12_menuOf 5 = .ok (.aload_n 0, 1) := by decide +kernel
theorem dX12_menuOf_6 : decode cX12_menuOf 6 = .ok (.getfield 68, 3) := by decide +kernel
theorem dX12_menuOf_9 : decode cX12_menuOf 9 = .ok (.ireturn, 1) := by decide +kernel
theorem dX12_proud_0 : decode cX12_proud 0 = .ok (.aload_n 0, 1) := by decide +kernel
theorem dX12_proud_1 : decode cX12_proud 1 = .ok (.iconst 0, 1) := by decide +kernel
theorem dX12_proud_2 : decode cX12_proud 2 = .ok (.putfield 1, 3) := by decide +kernel
theorem dX12_proud_5 : decode cX12_proud 5 = .ok (.aload_n 0, 1) := by decide +kernel
theorem dX12_proud_6 : decode cX12_proud 6 = .ok (.sipush 940, 3) := by decide +kernel
theorem dX12_proud_9 : decode cX12_proud 9 = .ok (.invokevirtual 233, 3) := by decide +kernel
theorem dX12_proud_12 : decode cX12_proud 12 = .ok (.aload_n 0, 1) := by decide +kernel
theorem dX12_proud_13 : decode cX12_proud 13 = .ok (.getfield 18, 3) := by decide +kernel
theorem dX12_proud_16 : decode cX12_proud 16 = .ok (.iconst 2, 1) := by decide +kernel
theorem dX12_proud_17 : decode cX12_proud 17 = .ok (.bipush 16, 2) := by decide +kernel
theorem dX12_proud_19 : decode cX12_proud 19 = .ok (.invokestatic 182, 3) := by decide +kernel
theorem dX12_proud_22 : decode cX12_proud 22 = .ok (.ifCond .eq 13, 3) := by decide +kernel
theorem dX12_proud_25 : decode cX12_proud 25 = .ok (.aload_n 0, 1) := by decide +kernel
theorem dX12_proud_26 : decode cX12_proud 26 = .ok (.getfield 18, 3) := by decide +kernel
theorem dX12_proud_29 : decode cX12_proud 29 = .ok (.iconst 2, 1) := by decide +kernel
theorem dX12_proud_30 : decode cX12_proud 30 = .ok (.irem, 1) := by decide +kernel
theorem dX12_proud_31 : decode cX12_proud 31 = .ok (.iconst 1, 1) := by decide +kernel
theorem dX12_proud_32 : decode cX12_proud 32 = .ok (.if_icmp .ne 5, 3) := by decide +kernel
theorem dX12_proud_35 : decode cX12_proud 35 = .ok (.iconst (-1), 1) := by decide +kernel
theorem dX12_proud_36 : decode cX12_proud 36 = .ok (.ireturn, 1) := by decide +kernel
theorem dX12_proud_37 : decode cX12_proud 37 = .ok (.iconst 1, 1) := by decide +kernel
theorem dX12_proud_38 : decode cX12_proud 38 = .ok (.istore_n 1, 1) := by decide +kernel
theorem dX12_proud_39 : decode cX12_proud 39 = .ok (.iload_n 1, 1) := by decide +kernel
theorem dX12_proud_40 : decode cX12_proud 40 = .ok (.aload_n 0, 1) := by decide +kernel
theorem dX12_proud_41 : decode cX12_proud 41 = .ok (.getfield 18, 3) := by decide +kernel
theorem dX12_proud_44 : decode cX12_proud 44 = .ok (.if_icmp .ge 20, 3) := by decide +kernel
theorem dX12_proud_47 : decode cX12_proud 47 = .ok (.aload_n 0, 1) := by decide +kernel
theorem dX12_proud_48 : decode cX12_proud 48 = .ok (.iload_n 1, 1) := by decide +kernel
theorem dX12_proud_49 : decode cX12_proud 49 = .ok (.invokevirtual 341, 3) := by decide +kernel
theorem dX12_proud_52 : decode cX12_proud 52 = .ok (.iconst 1, 1) := by decide +kernel
theorem dX12_proud_53 : decode cX12_proud 53 = .ok (.if_icmp .le 5, 3) := by decide +kernel
theorem dX12_proud_56 : decode cX12_proud 56 = .ok (.iconst (-1), 1) := by decide +kernel
theorem dX12_proud_57 : decode cX12_proud 57 = .ok (.ireturn, 1) := by decide +kernel
theorem dX12_proud_58 : decode cX12_proud 58 = .ok (.iinc 1 2, 3) := by decide +kernel
theorem dX12_proud_61 : decode cX12_proud 61 = .ok (.goto (-22), 3) := by decide +kernel
theorem dX12_proud_64 : decode cX12_proud 64 = .ok (.iconst 0, 1) := by decide +kernel
theorem dX12_proud_65 : decode cX12_proud 65 = .ok (.istore_n 1, 1) := by decide +kernel
theorem dX12_proud_66 : decode cX12_proud 66 = .ok (.iconst 0, 1) := by decide +kernel
theorem dX12_proud_67 : decode cX12_proud 67 = .ok (.istore_n 2, 1) := by decide +kernel
theorem dX12_proud_68 : decode cX12_proud 68 = .ok (.iload_n 2, 1) := by decide +kernel
theorem dX12_proud_69 : decode cX12_proud 69 = .ok (.bipush 10, 2) := by decide +kernel
theorem dX12_proud_71 : decode cX12_proud 71 = .ok (.if_icmp .ge 88, 3) := by decide +kernel
theorem dX12_proud_74 : decode cX12_proud 74 = .ok (.iconst 1, 1) := by decide +kernel
theorem dX12_proud_75 : decode cX12_proud 75 = .ok (.istore_n 3, 1) := by decide +kernel
theorem dX12_proud_76 : decode cX12_proud 76 = .ok (.iconst 0, 1) := by decide +kernel
theorem dX12_proud_77 : decode cX12_proud 77 = .ok (.istore 4, 2) := by decide +kernel
theorem dX12_proud_79 : decode cX12_proud 79 = .ok (.iload 4, 2) := by decide +kernel
theorem dX12_proud_81 : decode cX12_proud 81 = .ok (.aload_n 0, 1) := by decide +kernel
theorem dX12_proud_82 : decode cX12_proud 82 = .ok (.getfield 18, 3) := by decide +kernel
theorem dX12_proud_85 : decode cX12_proud 85 = .ok (.if_icmp .ge 54, 3) := by decide +kernel
theorem dX12_proud_88 : decode cX12_proud 88 = .ok (.iload_n 3, 1) := by decide +kernel
theorem dX12_proud_89 : decode cX12_proud 89 = .ok (.ifCond .eq 42, 3) := by decide +kernel
theorem dX12_proud_92 : decode cX12_proud 92 = .ok (.aload_n 0, 1) := by decide +kernel
theorem dX12_proud_93 : decode cX12_proud 93 = .ok (.iload 4, 2) := by decide +kernel
theorem dX12_proud_95 : decode cX12_proud 95 = .ok (.invokevirtual 341, 3) := by decide +kernel
theorem dX12_proud_98 : decode cX12_proud 98 = .ok (.iload_n 2, 1) := by decide +kernel
theorem dX12_proud_99 : decode cX12_proud 99 = .ok (.if_icmp .lt 7, 3) := by decide +kernel
theorem dX12_proud_102 : decode cX12_proud 102 = .ok (.iconst 1, 1) := by decide +kernel
theorem dX12_proud_103 : decode cX12_proud 103 = .ok (.goto 4, 3) := by decide +kernel
theorem dX12_proud_106 : decode cX12_proud 106 = .ok (.iconst 0, 1) := by decide +kernel
theorem dX12_proud_107 : decode cX12_proud 107 = .ok (.aload_n 0, 1) := by decide +kernel
theorem dX12_proud_108 : decode cX12_proud 108 = .ok (.iload 4, 2) := by decide +kernel
theorem dX12_proud_110 : decode cX12_proud 110 = .ok (.iconst 1, 1) := by decide +kernel
theorem dX12_proud_111 : decode cX12_proud 111 = .ok (.iadd, 1) := by decide +kernel
theorem dX12_proud_112 : decode cX12_proud 112 = .ok (.invokevirtual 341, 3) := by decide +kernel
theorem dX12_proud_115 : decode cX12_proud 115 = .ok (.iconst 1, 1) := by decide +kernel
theorem dX12_proud_116 : decode cX12_proud 116 = .ok (.if_icmp .ne 7, 3) := by decide +kernel
theorem dX12_proud_119 : decode cX12_proud 119 = .ok (.iconst 1, 1) := by decide +kernel
theorem dX12_proud_120 : decode cX12_proud 120 = .ok (.goto 4, 3) := by decide +kernel
theorem dX12_proud_123 : decode cX12_proud 123 = .ok (.iconst 0, 1) := by decide +kernel
theorem dX12_proud_124 : decode cX12_proud 124 = .ok (.if_icmp .ne 7, 3) := by decide +kernel
theorem dX12_proud_127 : decode cX12_proud 127 = .ok (.iconst 1, 1) := by decide +kernel
theorem dX12_proud_128 : decode cX12_proud 128 = .ok (.goto 4, 3) := by decide +kernel
theorem dX12_proud_131 : decode cX12_proud 131 = .ok (.iconst 0, 1) := by decide +kernel
theorem dX12_proud_132 : decode cX12_proud 132 = .ok (.istore_n 3, 1) := by decide +kernel
theorem dX12_proud_133 : decode cX12_proud 133 = .ok (.iinc 4 2, 3) := by decide +kernel
theorem dX12_proud_136 : decode cX12_proud 136 = .ok (.goto (-57), 3) := by decide +kernel
theorem dX12_proud_139 : decode cX12_proud 139 = .ok (.iload_n 1, 1) := by decide +kernel
theorem dX12_proud_140 : decode cX12_proud 140 = .ok (.iload_n 3, 1) := by decide +kernel
theorem dX12_proud_141 : decode cX12_proud 141 = .ok (.ifCond .eq 9, 3) := by decide +kernel
theorem dX12_proud_144 : decode cX12_proud 144 = .ok (.iconst 1, 1) := by decide +kernel
theorem dX12_proud_145 : decode cX12_proud 145 = .ok (.iload_n 2, 1) := by decide +kernel
theorem dX12_proud_146 : decode cX12_proud 146 = .ok (.ishl, 1) := by decide +kernel
theorem dX12_proud_147 : decode cX12_proud 147 = .ok (.goto 4, 3) := by decide +kernel
theorem dX12_proud_150 : decode cX12_proud 150 = .ok (.iconst 0, 1) := by decide +kernel
theorem dX12_proud_151 : decode cX12_proud 151 = .ok (.ior, 1) := by decide +kernel
theorem dX12_proud_152 : decode cX12_proud 152 = .ok (.istore_n 1, 1) := by decide +kernel
theorem dX12_proud_153 : decode cX12_proud 153 = .ok (.iinc 2 1, 3) := by decide +kernel
theorem dX12_proud_156 : decode cX12_proud 156 = .ok (.goto (-88), 3) := by decide +kernel
theorem dX12_proud_159 : decode cX12_proud 159 = .ok (.iload_n 1, 1) := by decide +kernel
theorem dX12_proud_160 : decode cX12_proud 160 = .ok (.ifCond .ne 5, 3) := by decide +kernel
theorem dX12_proud_163 : decode cX12_proud 163 = .ok (.iconst 0, 1) := by decide +kernel
theorem dX12_proud_164 : decode cX12_proud 164 = .ok (.ireturn, 1) := by decide +kernel
theorem dX12_proud_165 : decode cX12_proud 165 = .ok (.aload_n 0, 1) := by decide +kernel
theorem dX12_proud_166 : decode cX12_proud 166 = .ok (.iconst 1, 1) := by decide +kernel
theorem dX12_proud_167 : decode cX12_proud 167 = .ok (.putfield 348, 3) := by decide +kernel
theorem dX12_proud_170 : decode cX12_proud 170 = .ok (.ldc_w 347, 3) := by decide +kernel
theorem dX12_proud_173 : decode cX12_proud 173 = .ok (.istore_n 2, 1) := by decide +kernel
theorem dX12_proud_174 : decode cX12_proud 174 = .ok (.iconst 0, 1) := by decide +kernel
theorem dX12_proud_175 : decode cX12_proud 175 = .ok (.istore_n 3, 1) := by decide +kernel
theorem dX12_proud_176 : decode cX12_proud 176 = .ok (.iload_n 3, 1) := by decide +kernel
theorem dX12_proud_177 : decode cX12_proud 177 = .ok (.bipush 10, 2) := by decide +kernel
theorem dX12_proud_179 : decode cX12_proud 179 = .ok (.if_icmp .ge 52, 3) := by decide +kernel
theorem dX12_proud_182 : decode cX12_proud 182 = .ok (.iload_n 1, 1) := by decide +kernel
theorem dX12_proud_183 : decode cX12_proud 183 = .ok (.iconst 2, 1) := by decide +kernel
theorem dX12_proud_184 : decode cX12_proud 184 = .ok (.iload_n 3, 1) := by decide +kernel
theorem dX12_proud_185 : decode cX12_proud 185 = .ok (.ishl, 1) := by decide +kernel
theorem dX12_proud_186 : decode cX12_proud 186 = .ok (.iconst 1, 1) := by decide +kernel
theorem dX12_proud_187 : decode cX12_proud 187 = .ok (.isub, 1) := by decide +kernel
theorem dX12_proud_188 : decode cX12_proud 188 = .ok (.iand, 1) := by decide +kernel
theorem dX12_proud_189 : decode cX12_proud 189 = .ok (.invokestatic 277, 3) := by decide +kernel
theorem dX12_proud_192 : decode cX12_proud 192 = .ok (.istore 4, 2) := by decide +kernel
theorem dX12_proud_194 : decode cX12_proud 194 = .ok (.iload 4, 2) := by decide +kernel
theorem dX12_proud_196 : decode cX12_proud 196 = .ok (.iload_n 1, 1) := by decide +kernel
theorem dX12_proud_197 : decode cX12_proud 197 = .ok (.invokestatic 277, 3) := by decide +kernel
theorem dX12_proud_200 : decode cX12_proud 200 = .ok (.iload 4, 2) := by decide +kernel
theorem dX12_proud_202 : decode cX12_proud 202 = .ok (.isub, 1) := by decide +kernel
theorem dX12_proud_203 : decode cX12_proud 203 = .ok (.invokestatic 351, 3) := by decide +kernel
theorem dX12_proud_206 : decode cX12_proud 206 = .ok (.istore 5, 2) := by decide +kernel
theorem dX12_proud_208 : decode cX12_proud 208 = .ok (.iload 5, 2) := by decide +kernel
theorem dX12_proud_210 : decode cX12_proud 210 = .ok (.iload_n 2, 1) := by decide +kernel
theorem dX12_proud_211 : decode cX12_proud 211 = .ok (.if_icmp .lt 6, 3) := by decide +kernel
theorem dX12_proud_214 : decode cX12_proud 214 = .ok (.goto 11, 3) := by decide +kernel
theorem dX12_proud_217 : decode cX12_proud 217 = .ok (.iload 5, 2) := by decide +kernel
theorem dX12_proud_219 : decode cX12_proud 219 = .ok (.istore_n 2, 1) := by decide +kernel
theorem dX12_proud_220 : decode cX12_proud 220 = .ok (.aload_n 0, 1) := by decide +kernel
theorem dX12_proud_221 : decode cX12_proud 221 = .ok (.iload_n 3, 1) := by decide +kernel
theorem dX12_proud_222 : decode cX12_proud 222 = .ok (.putfield 354, 3) := by decide +kernel
theorem dX12_proud_225 : decode cX12_proud 225 = .ok (.iinc 3 1, 3) := by decide +kernel
theorem dX12_proud_228 : decode cX12_proud 228 = .ok (.goto (-52), 3) := by decide +kernel
theorem dX12_proud_231 : decode cX12_proud 231 = .ok (.iload_n 1, 1) := by decide +kernel
theorem dX12_proud_232 : decode cX12_proud 232 = .ok (.ireturn, 1) := by decide +kernel
theorem dX12_watch_0 : decode cX12_watch 0 = .ok (.aload_n 0, 1) := by decide +kernel
theorem dX12_watch_1 : decode cX12_watch 1 = .ok (.iconst 0, 1) := by decide +kernel
theorem dX12_watch_2 : decode cX12_watch 2 = .ok (.putfield 1, 3) := by decide +kernel
theorem dX12_watch_5 : decode cX12_watch 5 = .ok (.aload_n 0, 1) := by decide +kernel
theorem dX12_watch_6 : decode cX12_watch 6 = .ok (.getfield 348, 3) := by decide +kernel
theorem dX12_watch_9 : decode cX12_watch 9 = .ok (.ifCond .eq 10, 3) := by decide +kernel
theorem dX12_watch_12 : decode cX12_watch 12 = .ok (.aload_n 0, 1) := by decide +kernel
theorem dX12_watch_13 : decode cX12_watch 13 = .ok (.getfield 354, 3) := by decide +kernel
theorem dX12_watch_16 : decode cX12_watch 16 = .ok (.goto 4, 3) := by decide +kernel
theorem dX12_watch_19 : decode cX12_watch 19 = .ok (.iconst (-1), 1) := by decide +kernel
theorem dX12_watch_20 : decode cX12_watch 20 = .ok (.ireturn, 1) := by decide +kernel
theorem dX12_mean_0 : decode cX12_mean 0 = .ok (.aload_n 0, 1) := by decide +kernel
theorem dX12_mean_1 : decode cX12_mean 1 = .ok (.aload_n 0, 1) := by decide +kernel
theorem dX12_mean_2 : decode cX12_mean 2 = .ok (.getfield 33, 3) := by decide +kernel
theorem dX12_mean_5 : decode cX12_mean 5 = .ok (.iconst 1, 1) := by decide +kernel
theorem dX12_mean_6 : decode cX12_mean 6 = .ok (.iaload, 1) := by decide +kernel
theorem dX12_mean_7 : decode cX12_mean 7 = .ok (.ifCond .eq 12, 3) := by decide +kernel
theorem dX12_mean_10 : decode cX12_mean 10 = .ok (.iload_n 1, 1) := by decide +kernel
theorem dX12_mean_11 : decode cX12_mean 11 = .ok (.iconst 0, 1) := by decide +kernel
theorem dX12_mean_12 : decode cX12_mean 12 = .ok (.iconst 1, 1) := by decide +kernel
theorem dX12_mean_13 : decode cX12_mean 13 = .ok (.invokestatic 182, 3) := by decide +kernel
theorem dX12_mean_16 : decode cX12_mean 16 = .ok (.ifCond .ne 7, 3) := by decide +kernel
theorem dX12_mean_19 : decode cX12_mean 19 = .ok (.iconst 1, 1) := by decide +kernel
theorem dX12_mean_20 : decode cX12_mean 20 = .ok (.goto 4, 3) := by decide +kernel
theorem dX12_mean_23 : decode cX12_mean 23 = .ok (.iconst 0, 1) := by decide +kernel
theorem dX12_mean_24 : decode cX12_mean 24 = .ok (.invokevirtual 257, 3) := by decide +kernel
theorem dX12_mean_27 : decode cX12_mean 27 = .ok (.ifCond .eq 5, 3) := by decide +kernel
theorem dX12_mean_30 : decode cX12_mean 30 = .ok (.iconst 0, 1) := by decide +kernel
theorem dX12_mean_31 : decode cX12_mean 31 = .ok (.ireturn, 1) := by decide +kernel
theorem dX12_mean_32 : decode cX12_mean 32 = .ok (.aload_n 0, 1) := by decide +kernel
theorem dX12_mean_33 : decode cX12_mean 33 = .ok (.getfield 33, 3) := by decide +kernel
theorem dX12_mean_36 : decode cX12_mean 36 = .ok (.iconst 1, 1) := by decide +kernel
theorem dX12_mean_37 : decode cX12_mean 37 = .ok (.iaload, 1) := by decide +kernel
theorem dX12_mean_38 : decode cX12_mean 38 = .ok (.istore_n 2, 1) := by decide +kernel
theorem dX12_mean_39 : decode cX12_mean 39 = .ok (.aload_n 0, 1) := by decide +kernel
theorem dX12_mean_40 : decode cX12_mean 40 = .ok (.invokevirtual 274, 3) := by decide +kernel
theorem dX12_mean_43 : decode cX12_mean 43 = .ok (.istore_n 3, 1) := by decide +kernel
theorem dX12_mean_44 : decode cX12_mean 44 = .ok (.iload_n 3, 1) := by decide +kernel
theorem dX12_mean_45 : decode cX12_mean 45 = .ok (.ifCond .eq 16, 3) := by decide +kernel
theorem dX12_mean_48 : decode cX12_mean 48 = .ok (.iload_n 2, 1) := by decide +kernel
theorem dX12_mean_49 : decode cX12_mean 49 = .ok (.iload_n 3, 1) := by decide +kernel
theorem dX12_mean_50 : decode cX12_mean 50 = .ok (.irem, 1) := by decide +kernel
theorem dX12_mean_51 : decode cX12_mean 51 = .ok (.istore 4, 2) := by decide +kernel
theorem dX12_mean_53 : decode cX12_mean 53 = .ok (.iload_n 3, 1) := by decide +kernel
theorem dX12_mean_54 : decode cX12_mean 54 = .ok (.istore_n 2, 1) := by decide +kernel
theorem dX12_mean_55 : decode cX12_mean 55 = .ok (.iload 4, 2) := by decide +kernel
theorem dX12_mean_57 : decode cX12_mean 57 = .ok (.istore_n 3, 1) := by decide +kernel
theorem dX12_mean_58 : decode cX12_mean 58 = .ok (.goto (-14), 3) := by decide +kernel
theorem dX12_mean_61 : decode cX12_mean 61 = .ok (.iload_n 1, 1) := by decide +kernel
theorem dX12_mean_62 : decode cX12_mean 62 = .ok (.ifCond .ne 10, 3) := by decide +kernel
theorem dX12_mean_65 : decode cX12_mean 65 = .ok (.aload_n 0, 1) := by decide +kernel
theorem dX12_mean_66 : decode cX12_mean 66 = .ok (.invokevirtual 274, 3) := by decide +kernel
theorem dX12_mean_69 : decode cX12_mean 69 = .ok (.goto 9, 3) := by decide +kernel
theorem dX12_mean_72 : decode cX12_mean 72 = .ok (.aload_n 0, 1) := by decide +kernel
theorem dX12_mean_73 : decode cX12_mean 73 = .ok (.getfield 33, 3) := by decide +kernel
theorem dX12_mean_76 : decode cX12_mean 76 = .ok (.iconst 1, 1) := by decide +kernel
theorem dX12_mean_77 : decode cX12_mean 77 = .ok (.iaload, 1) := by decide +kernel
theorem dX12_mean_78 : decode cX12_mean 78 = .ok (.iload_n 2, 1) := by decide +kernel
theorem dX12_mean_79 : decode cX12_mean 79 = .ok (.idiv, 1) := by decide +kernel
theorem dX12_mean_80 : decode cX12_mean 80 = .ok (.ireturn, 1) := by decide +kernel
theorem dX12_lays_0 : decode cX12_lays 0 = .ok (.aload_n 0, 1) := by decide +kernel
theorem dX12_lays_1 : decode cX12_lays 1 = .ok (.getfield 71, 3) := by decide +kernel
theorem dX12_lays_4 : decode cX12_lays 4 = .ok (.aload_n 0, 1) := by decide +kernel
theorem dX12_lays_5 : decode cX12_lays 5 = .ok (.getfield 357, 3) := by decide +kernel
theorem dX12_lays_8 : decode cX12_lays 8 = .ok (.iload_n 1, 1) := by decide +kernel
theorem dX12_lays_9 : decode cX12_lays 9 = .ok (.i2b, 1) := by decide +kernel
theorem dX12_lays_10 : decode cX12_lays 10 = .ok (.bastore, 1) := by decide +kernel
theorem dX12_lays_11 : decode cX12_lays 11 = .ok (.aload_n 0, 1) := by decide +kernel
theorem dX12_lays_12 : decode cX12_lays 12 = .ok (.dup, 1) := by decide +kernel
theorem dX12_lays_13 : decode cX12_lays 13 = .ok (.getfield 357, 3) := by decide +kernel
theorem dX12_lays_16 : decode cX12_lays 16 = .ok (.iconst 1, 1) := by decide +kernel
theorem dX12_lays_17 : decode cX12_lays 17 = .ok (.iadd, 1) := by decide +kernel
theorem dX12_lays_18 : decode cX12_lays 18 = .ok (.putfield 357, 3) := by decide +kernel
theorem dX12_lays_21 : decode cX12_lays 21 = .ok (.return_, 1) := by decide +kernel
theorem dX12_spells_0 : decode cX12_spells 0 = .ok (.bipush 56, 2) := by decide +kernel
theorem dX12_spells_2 : decode cX12_spells 2 = .ok (.istore_n 3, 1) := by decide +kernel
theorem dX12_spells_3 : decode cX12_spells 3 = .ok (.iload_n 3, 1) := by decide +kernel
theorem dX12_spells_4 : decode cX12_spells 4 = .ok (.ifCond .lt 33, 3) := by decide +kernel
theorem dX12_spells_7 : decode cX12_spells 7 = .ok (.lload_n 1, 1) := by decide +kernel
theorem dX12_spells_8 : decode cX12_spells 8 = .ok (.iload_n 3, 1) := by decide +kernel
theorem dX12_spells_9 : decode cX12_spells 9 = .ok (.lshr, 1) := by decide +kernel
theorem dX12_spells_10 : decode cX12_spells 10 = .ok (.ldc2_w 360, 3) := by decide +kernel
theorem dX12_spells_13 : decode cX12_spells 13 = .ok (.land, 1) := by decide +kernel
theorem dX12_spells_14 : decode cX12_spells 14 = .ok (.lconst 0, 1) := by decide +kernel
theorem dX12_spells_15 : decode cX12_spells 15 = .ok (.lcmp, 1) := by decide +kernel
theorem dX12_spells_16 : decode cX12_spells 16 = .ok (.ifCond .eq 15, 3) := by decide +kernel
theorem dX12_spells_19 : decode cX12_spells 19 = .ok (.aload_n 0, 1) := by decide +kernel
theorem dX12_spells_20 : decode cX12_spells 20 = .ok (.lload_n 1, 1) := by decide +kernel
theorem dX12_spells_21 : decode cX12_spells 21 = .ok (.iload_n 3, 1) := by decide +kernel
theorem dX12_spells_22 : decode cX12_spells 22 = .ok (.lshr, 1) := by decide +kernel
theorem dX12_spells_23 : decode cX12_spells 23 = .ok (.ldc2_w 360, 3) := by decide +kernel
theorem dX12_spells_26 : decode cX12_spells 26 = .ok (.land, 1) := by decide +kernel
theorem dX12_spells_27 : decode cX12_spells 27 = .ok (.l2i, 1) := by decide +kernel
theorem dX12_spells_28 : decode cX12_spells 28 = .ok (.invokevirtual 362, 3) := by decide +kernel
theorem dX12_spells_31 : decode cX12_spells 31 = .ok (.iinc 3 (-8), 3) := by decide +kernel
theorem dX12_spells_34 : decode cX12_spells 34 = .ok (.goto (-31), 3) := by decide +kernel
theorem dX12_spells_37 : decode cX12_spells 37 = .ok (.return_, 1) := by decide +kernel
theorem dX12_says_0 : decode cX12_says 0 = .ok (.aload_n 0, 1) := by decide +kernel
theorem dX12_says_1 : decode cX12_says 1 = .ok (.bipush 32, 2) := by decide +kernel
theorem dX12_says_3 : decode cX12_says 3 = .ok (.invokevirtual 362, 3) := by decide +kernel
theorem dX12_says_6 : decode cX12_says 6 = .ok (.aload_n 0, 1) := by decide +kernel
theorem dX12_says_7 : decode cX12_says 7 = .ok (.lload_n 1, 1) := by decide +kernel
theorem dX12_says_8 : decode cX12_says 8 = .ok (.invokevirtual 365, 3) := by decide +kernel
theorem dX12_says_11 : decode cX12_says 11 = .ok (.return_, 1) := by decide +kernel
theorem dX12_plate_0 : decode cX12_plate 0 = .ok (.aload_n 0, 1) := by decide +kernel
theorem dX12_plate_1 : decode cX12_plate 1 = .ok (.iconst 0, 1) := by decide +kernel
theorem dX12_plate_2 : decode cX12_plate 2 = .ok (.putfield 1, 3) := by decide +kernel
theorem dX12_plate_5 : decode cX12_plate 5 = .ok (.aload_n 0, 1) := by decide +kernel
theorem dX12_plate_6 : decode cX12_plate 6 = .ok (.iload_n 1, 1) := by decide +kernel
theorem dX12_plate_7 : decode cX12_plate 7 = .ok (.invokevirtual 254, 3) := by decide +kernel
theorem dX12_plate_10 : decode cX12_plate 10 = .ok (.ifCond .ne 5, 3) := by decide +kernel
theorem dX12_plate_13 : decode cX12_plate 13 = .ok (.iconst (-1), 1) := by decide +kernel
theorem dX12_plate_14 : decode cX12_plate 14 = .ok (.ireturn, 1) := by decide +kernel
theorem dX12_plate_15 : decode cX12_plate 15 = .ok (.aload_n 0, 1) := by decide +kernel
theorem dX12_plate_16 : decode cX12_plate 16 = .ok (.iconst 0, 1) := by decide +kernel
theorem dX12_plate_17 : decode cX12_plate 17 = .ok (.putfield 357, 3) := by decide +kernel
theorem dX12_plate_20 : decode cX12_plate 20 = .ok (.aload_n 0, 1) := by decide +kernel
theorem dX12_plate_21 : decode cX12_plate 21 = .ok (.aload_n 0, 1) := by decide +kernel
theorem dX12_plate_22 : decode cX12_plate 22 = .ok (.getfield 43, 3) := by decide +kernel
theorem dX12_plate_25 : decode cX12_plate 25 = .ok (.iload_n 1, 1) := by decide +kernel
theorem dX12_plate_26 : decode cX12_plate 26 = .ok (.laload, 1) := by decide +kernel
theorem dX12_plate_27 : decode cX12_plate 27 = .ok (.invokevirtual 365, 3) := by decide +kernel
theorem dX12_plate_30 : decode cX12_plate 30 = .ok (.aload_n 0, 1) := by decide +kernel
theorem dX12_plate_31 : decode cX12_plate 31 = .ok (.aload_n 0, 1) := by decide +kernel
theorem dX12_plate_32 : decode cX12_plate 32 = .ok (.iload_n 1, 1) := by decide +kernel
theorem dX12_plate_33 : decode cX12_plate 33 = .ok (.invokevirtual 251, 3) := by decide +kernel
theorem dX12_plate_36 : decode cX12_plate 36 = .ok (.ifCond .eq 9, 3) := by decide +kernel
theorem dX12_plate_39 : decode cX12_plate 39 = .ok (.ldc2_w 101, 3) := by decide +kernel
theorem dX12_plate_42 : decode cX12_plate 42 = .ok (.goto 6, 3) := by decide +kernel
theorem dX12_plate_45 : decode cX12_plate 45 = .ok (.ldc2_w 369, 3) := by decide +kernel
theorem dX12_plate_48 : decode cX12_plate 48 = .ok (.invokevirtual 371, 3) := by decide +kernel
theorem dX12_plate_51 : decode cX12_plate 51 = .ok (.aload_n 0, 1) := by decide +kernel
theorem dX12_plate_52 : decode cX12_plate 52 = .ok (.ldc2_w 374, 3) := by decide +kernel
theorem dX12_plate_55 : decode cX12_plate 55 = .ok (.invokevirtual 371, 3) := by decide +kernel
theorem dX12_plate_58 : decode cX12_plate 58 = .ok (.aload_n 0, 1) := by decide +kernel
theorem dX12_plate_59 : decode cX12_plate 59 = .ok (.bipush 32, 2) := by decide +kernel
theorem dX12_plate_61 : decode cX12_plate 61 = .ok (.invokevirtual 362, 3) := by decide +kernel
theorem dX12_plate_64 : decode cX12_plate 64 = .ok (.aload_n 0, 1) := by decide +kernel
theorem dX12_plate_65 : decode cX12_plate 65 = .ok (.bipush 48, 2) := by decide +kernel
theorem dX12_plate_67 : decode cX12_plate 67 = .ok (.aload_n 0, 1) := by decide +kernel
theorem dX12_plate_68 : decode cX12_plate 68 = .ok (.getfield 33, 3) := by decide +kernel
theorem dX12_plate_71 : decode cX12_plate 71 = .ok (.bipush 56, 2) := by decide +kernel
theorem dX12_plate_73 : decode cX12_plate 73 = .ok (.iload_n 1, 1) := by decide +kernel
theorem dX12_plate_74 : decode cX12_plate 74 = .ok (.iadd, 1) := by decide +kernel
theorem dX12_plate_75 : decode cX12_plate 75 = .ok (.iaload, 1) := by decide +kernel
theorem dX12_plate_76 : decode cX12_plate 76 = .ok (.iadd, 1) := by decide +kernel
theorem dX12_plate_77 : decode cX12_plate 77 = .ok (.invokevirtual 362, 3) := by decide +kernel
theorem dX12_plate_80 : decode cX12_plate 80 = .ok (.aload_n 0, 1) := by decide +kernel
theorem dX12_plate_81 : decode cX12_plate 81 = .ok (.getfield 33, 3) := by decide +kernel
theorem dX12_plate_84 : decode cX12_plate 84 = .ok (.bipush 78, 2) := by decide +kernel
theorem dX12_plate_86 : decode cX12_plate 86 = .ok (.iload_n 1, 1) := by decide +kernel
theorem dX12_plate_87 : decode cX12_plate 87 = .ok (.iadd, 1) := by decide +kernel
theorem dX12_plate_88 : decode cX12_plate 88 = .ok (.iaload, 1) := by decide +kernel
theorem dX12_plate_89 : decode cX12_plate 89 = .ok (.istore_n 2, 1) := by decide +kernel
theorem dX12_plate_90 : decode cX12_plate 90 = .ok (.iload_n 2, 1) := by decide +kernel
theorem dX12_plate_91 : decode cX12_plate 91 = .ok (.ifCond .ne 8, 3) := by decide +kernel
theorem dX12_plate_94 : decode cX12_plate 94 = .ok (.aload_n 0, 1) := by decide +kernel
theorem dX12_plate_95 : decode cX12_plate 95 = .ok (.getfield 357, 3) := by decide +kernel
theorem dX12_plate_98 : decode cX12_plate 98 = .ok (.ireturn, 1) := by decide +kernel
theorem dX12_plate_99 : decode cX12_plate 99 = .ok (.aload_n 0, 1) := by decide +kernel
theorem dX12_plate_100 : decode cX12_plate 100 = .ok (.ldc2_w 376, 3) := by decide +kernel
theorem dX12_plate_103 : decode cX12_plate 103 = .ok (.invokevirtual 371, 3) := by decide +kernel
theorem dX12_plate_106 : decode cX12_plate 106 = .ok (.aload_n 0, 1) := by decide +kernel
theorem dX12_plate_107 : decode cX12_plate 107 = .ok (.bipush 32, 2) := by decide +kernel
theorem dX12_plate_109 : decode cX12_plate 109 = .ok (.invokevirtual 362, 3) := by decide +kernel
theorem dX12_plate_112 : decode cX12_plate 112 = .ok (.sipush 10000, 3) := by decide +kernel
theorem dX12_plate_115 : decode cX12_plate 115 = .ok (.istore_n 3, 1) := by decide +kernel
theorem dX12_plate_116 : decode cX12_plate 116 = .ok (.iload_n 3, 1) := by decide +kernel
theorem dX12_plate_117 : decode cX12_plate 117 = .ok (.ifCond .le 29, 3) := by decide +kernel
theorem dX12_plate_120 : decode cX12_plate 120 = .ok (.iload_n 2, 1) := by decide +kernel
theorem dX12_plate_121 : decode cX12_plate 121 = .ok (.iload_n 3, 1) := by decide +kernel
theorem dX12_plate_122 : decode cX12_plate 122 = .ok (.if_icmp .lt 16, 3) := by decide +kernel
theorem dX12_plate_125 : decode cX12_plate 125 = .ok (.aload_n 0, 1) := by decide +kernel
theorem dX12_plate_126 : decode cX12_plate 126 = .ok (.bipush 48, 2) := by decide +kernel
theorem dX12_plate_128 : decode cX12_plate 128 = .ok (.iload_n 2, 1) := by decide +kernel
theorem dX12_plate_129 : decode cX12_plate 129 = .ok (.iload_n 3, 1) := by decide +kernel
theorem dX12_plate_130 : decode cX12_plate 130 = .ok (.idiv, 1) := by decide +kernel
theorem dX12_plate_131 : decode cX12_plate 131 = .ok (.bipush 10, 2) := by decide +kernel
theorem dX12_plate_133 : decode cX12_plate 133 = .ok (.irem, 1) := by decide +kernel
theorem dX12_plate_134 : decode cX12_plate 134 = .ok (.iadd, 1) := by decide +kernel
theorem dX12_plate_135 : decode cX12_plate 135 = .ok (.invokevirtual 362, 3) := by decide +kernel
theorem dX12_plate_138 : decode cX12_plate 138 = .ok (.iload_n 3, 1) := by decide +kernel
theorem dX12_plate_139 : decode cX12_plate 139 = .ok (.bipush 10, 2) := by decide +kernel
theorem dX12_plate_141 : decode cX12_plate 141 = .ok (.idiv, 1) := by decide +kernel
theorem dX12_plate_142 : decode cX12_plate 142 = .ok (.istore_n 3, 1) := by decide +kernel
theorem dX12_plate_143 : decode cX12_plate 143 = .ok (.goto (-27), 3) := by decide +kernel
theorem dX12_plate_146 : decode cX12_plate 146 = .ok (.aload_n 0, 1) := by decide +kernel
theorem dX12_plate_147 : decode cX12_plate 147 = .ok (.getfield 357, 3) := by decide +kernel
theorem dX12_plate_150 : decode cX12_plate 150 = .ok (.ireturn, 1) := by decide +kernel
theorem dX12_byteAt_0 : decode cX12_byteAt 0 = .ok (.aload_n 0, 1) := by decide +kernel
theorem dX12_byteAt_1 : decode cX12_byteAt 1 = .ok (.iconst 0, 1) := by decide +kernel
theorem dX12_byteAt_2 : decode cX12_byteAt 2 = .ok (.putfield 1, 3) := by decide +kernel
theorem dX12_byteAt_5 : decode cX12_byteAt 5 = .ok (.iload_n 1, 1) := by decide +kernel
theorem dX12_byteAt_6 : decode cX12_byteAt 6 = .ok (.iconst 0, 1) := by decide +kernel
theorem dX12_byteAt_7 : decode cX12_byteAt 7 = .ok (.aload_n 0, 1) := by decide +kernel
theorem dX12_byteAt_8 : decode cX12_byteAt 8 = .ok (.getfield 357, 3) := by decide +kernel
theorem dX12_byteAt_11 : decode cX12_byteAt 11 = .ok (.iconst 1, 1) := by decide +kernel
theorem dX12_byteAt_12 : decode cX12_byteAt 12 = .ok (.isub, 1) := by decide +kernel
theorem dX12_byteAt_13 : decode cX12_byteAt 13 = .ok (.invokestatic 182, 3) := by decide +kernel
theorem dX12_byteAt_16 : decode cX12_byteAt 16 = .ok (.ifCond .eq 12, 3) := by decide +kernel
theorem dX12_byteAt_19 : decode cX12_byteAt 19 = .ok (.aload_n 0, 1) := by decide +kernel
theorem dX12_byteAt_20 : decode cX12_byteAt 20 = .ok (.getfield 71, 3) := by decide +kernel
theorem dX12_byteAt_23 : decode cX12_byteAt 23 = .ok (.iload_n 1, 1) := by decide +kernel
theorem dX12_byteAt_24 : decode cX12_byteAt 24 = .ok (.baload, 1) := by decide +kernel
theorem dX12_byteAt_25 : decode cX12_byteAt 25 = .ok (.goto 4, 3) := by decide +kernel
theorem dX12_byteAt_28 : decode cX12_byteAt 28 = .ok (.iconst (-1), 1) := by decide +kernel
theorem dX12_byteAt_29 : decode cX12_byteAt 29 = .ok (.ireturn, 1) := by decide +kernel
theorem dX12_draw_0 : decode cX12_draw 0 = .ok (.aload_n 0, 1) := by decide +kernel
theorem dX12_draw_1 : decode cX12_draw 1 = .ok (.aload_n 0, 1) := by decide +kernel
theorem dX12_draw_2 : decode cX12_draw 2 = .ok (.getfield 378, 3) := by decide +kernel
theorem dX12_draw_5 : decode cX12_draw 5 = .ok (.ldc_w 381, 3) := by decide +kernel
theorem dX12_draw_8 : decode cX12_draw 8 = .ok (.imul, 1) := by decide +kernel
theorem dX12_draw_9 : decode cX12_draw 9 = .ok (.sipush 12345, 3) := by decide +kernel
theorem dX12_draw_12 : decode cX12_draw 12 = .ok (.iadd, 1) := by decide +kernel
theorem dX12_draw_13 : decode cX12_draw 13 = .ok (.putfield 378, 3) := by decide +kernel
theorem dX12_draw_16 : decode cX12_draw 16 = .ok (.aload_n 0, 1) := by decide +kernel
theorem dX12_draw_17 : decode cX12_draw 17 = .ok (.getfield 378, 3) := by decide +kernel
theorem dX12_draw_20 : decode cX12_draw 20 = .ok (.bipush 8, 2) := by decide +kernel
theorem dX12_draw_22 : decode cX12_draw 22 = .ok (.iushr, 1) := by decide +kernel
theorem dX12_draw_23 : decode cX12_draw 23 = .ok (.iload_n 1, 1) := by decide +kernel
theorem dX12_draw_24 : decode cX12_draw 24 = .ok (.irem, 1) := by decide +kernel
theorem dX12_draw_25 : decode cX12_draw 25 = .ok (.ireturn, 1) := by decide +kernel
theorem dX12_draws_0 : decode cX12_draws 0 = .ok (.aload_n 0, 1) := by decide +kernel
theorem dX12_draws_1 : decode cX12_draws 1 = .ok (.iload_n 2, 1) := by decide +kernel
theorem dX12_draws_2 : decode cX12_draws 2 = .ok (.putfield 378, 3) := by decide +kernel
theorem dX12_draws_5 : decode cX12_draws 5 = .ok (.iconst 0, 1) := by decide +kernel
theorem dX12_draws_6 : decode cX12_draws 6 = .ok (.istore_n 3, 1) := by decide +kernel
theorem dX12_draws_7 : decode cX12_draws 7 = .ok (.iload_n 3, 1) := by decide +kernel
theorem dX12_draws_8 : decode cX12_draws 8 = .ok (.iload_n 1, 1) := by decide +kernel
theorem dX12_draws_9 : decode cX12_draws 9 = .ok (.if_icmp .ge 138, 3) := by decide +kernel
theorem dX12_draws_12 : decode cX12_draws 12 = .ok (.aload_n 0, 1) := by decide +kernel
theorem dX12_draws_13 : decode cX12_draws 13 = .ok (.getfield 33, 3) := by decide +kernel
theorem dX12_draws_16 : decode cX12_draws 16 = .ok (.bipush 44, 2) := by decide +kernel
theorem dX12_draws_18 : decode cX12_draws 18 = .ok (.iaload, 1) := by decide +kernel
theorem dX12_draws_19 : decode cX12_draws 19 = .ok (.sipush 400, 3) := by decide +kernel
theorem dX12_draws_22 : decode cX12_draws 22 = .ok (.if_icmp .ge 125, 3) := by decide +kernel
theorem dX12_draws_25 : decode cX12_draws 25 = .ok (.aload_n 0, 1) := by decide +kernel
theorem dX12_draws_26 : decode cX12_draws 26 = .ok (.getfield 33, 3) := by decide +kernel
theorem dX12_draws_29 : decode cX12_draws 29 = .ok (.iconst 2, 1) := by decide +kernel
theorem dX12_draws_30 : decode cX12_draws 30 = .ok (.iaload, 1) := by decide +kernel
theorem dX12_draws_31 : decode cX12_draws 31 = .ok (.ifCond .le 33, 3) := by decide +kernel
theorem dX12_draws_34 : decode cX12_draws 34 = .ok (.aload_n 0, 1) := by decide +kernel
theorem dX12_draws_35 : decode cX12_draws 35 = .ok (.iconst 2, 1) := by decide +kernel
theorem dX12_draws_36 : decode cX12_draws 36 = .ok (.invokevirtual 382, 3) := by decide +kernel
theorem dX12_draws_39 : decode cX12_draws 39 = .ok (.ifCond .ne 25, 3) := by decide +kernel
theorem dX12_draws_42 : decode cX12_draws 42 = .ok (.aload_n 0, 1) := by decide +kernel
theorem dX12_draws_43 : decode cX12_draws 43 = .ok (.getfield 33, 3) := by decide +kernel
theorem dX12_draws_46 : decode cX12_draws 46 = .ok (.bipush 45, 2) := by decide +kernel
theorem dX12_draws_48 : decode cX12_draws 48 = .ok (.dup2, 1) := by decide +kernel
theorem dX12_draws_49 : decode cX12_draws 49 = .ok (.iaload, 1) := by decide +kernel
theorem dX12_draws_50 : decode cX12_draws 50 = .ok (.iconst 1, 1) := by decide +kernel
theorem dX12_draws_51 : decode cX12_draws 51 = .ok (.aload_n 0, 1) := by decide +kernel
theorem dX12_draws_52 : decode cX12_draws 52 = .ok (.aload_n 0, 1) := by decide +kernel
theorem dX12_draws_53 : decode cX12_draws 53 = .ok (.getfield 33, 3) := by decide +kernel
theorem dX12_draws_56 : decode cX12_draws 56 = .ok (.iconst 2, 1) := by decide +kernel
theorem dX12_draws_57 : decode cX12_draws 57 = .ok (.iaload, 1) := by decide +kernel
theorem dX12_draws_58 : decode cX12_draws 58 = .ok (.invokevirtual 382, 3) := by decide +kernel
theorem dX12_draws_61 : decode cX12_draws 61 = .ok (.ishl, 1) := by decide +kernel
theorem dX12_draws_62 : decode cX12_draws 62 = .ok (.ior, 1) := by decide +kernel
theorem dX12_draws_63 : decode cX12_draws 63 = .ok (.iastore, 1) := by decide +kernel
theorem dX12_draws_64 : decode cX12_draws 64 = .ok (.iconst 0, 1) := by decide +kernel
theorem dX12_draws_65 : decode cX12_draws 65 = .ok (.istore 4, 2) := by decide +kernel
theorem dX12_draws_67 : decode cX12_draws 67 = .ok (.iload 4, 2) := by decide +kernel
theorem dX12_draws_69 : decode cX12_draws 69 = .ok (.aload_n 0, 1) := by decide +kernel
theorem dX12_draws_70 : decode cX12_draws 70 = .ok (.getfield 33, 3) := by decide +kernel
theorem dX12_draws_73 : decode cX12_draws 73 = .ok (.iconst 1, 1) := by decide +kernel
theorem dX12_draws_74 : decode cX12_draws 74 = .ok (.iaload, 1) := by decide +kernel
theorem dX12_draws_75 : decode cX12_draws 75 = .ok (.if_icmp .ge 60, 3) := by decide +kernel
theorem dX12_draws_78 : decode cX12_draws 78 = .ok (.aload_n 0, 1) := by decide +kernel
theorem dX12_draws_79 : decode cX12_draws 79 = .ok (.bipush 8, 2) := by decide +kernel
theorem dX12_draws_81 : decode cX12_draws 81 = .ok (.invokevirtual 382, 3) := by decide +kernel
theorem dX12_draws_84 : decode cX12_draws 84 = .ok (.istore 5, 2) := by decide +kernel
theorem dX12_draws_86 : decode cX12_draws 86 = .ok (.iload 5, 2) := by decide +kernel
theorem dX12_draws_88 : decode cX12_draws 88 = .ok (.ifCond .ne 19, 3) := by decide +kernel
theorem dX12_draws_91 : decode cX12_draws 91 = .ok (.aload_n 0, 1) := by decide +kernel
theorem dX12_draws_92 : decode cX12_draws 92 = .ok (.iload 4, 2) := by decide +kernel
theorem dX12_draws_94 : decode cX12_draws 94 = .ok (.invokevirtual 284, 3) := by decide +kernel
theorem dX12_draws_97 : decode cX12_draws 97 = .ok (.ifCond .ne 10, 3) := by decide +kernel
theorem dX12_draws_100 : decode cX12_draws 100 = .ok (.aload_n 0, 1) := by decide +kernel
theorem dX12_draws_101 : decode cX12_draws 101 = .ok (.iload 4, 2) := by decide +kernel
theorem dX12_draws_103 : decode cX12_draws 103 = .ok (.invokevirtual 287, 3) := by decide +kernel
theorem dX12_draws_106 : decode cX12_draws 106 = .ok (.pop, 1) := by decide +kernel
theorem dX12_draws_107 : decode cX12_draws 107 = .ok (.iload 5, 2) := by decide +kernel
theorem dX12_draws_109 : decode cX12_draws 109 = .ok (.iconst 1, 1) := by decide +kernel
theorem dX12_draws_110 : decode cX12_draws 110 = .ok (.if_icmp .ne 19, 3) := by decide +kernel
theorem dX12_draws_113 : decode cX12_draws 113 = .ok (.aload_n 0, 1) := by decide +kernel
theorem dX12_draws_114 : decode cX12_draws 114 = .ok (.getfield 33, 3) := by decide +kernel
theorem dX12_draws_117 : decode cX12_draws 117 = .ok (.bipush 63, 2) := by decide +kernel
theorem dX12_draws_119 : decode cX12_draws 119 = .ok (.dup2, 1) := by decide +kernel
theorem dX12_draws_120 : decode cX12_draws 120 = .ok (.iaload, 1) := by decide +kernel
theorem dX12_draws_121 : decode cX12_draws 121 = .ok (.iconst 1, 1) := by decide +kernel
theorem dX12_draws_122 : decode cX12_draws 122 = .ok (.iload 4, 2) := by decide +kernel
theorem dX12_draws_124 : decode cX12_draws 124 = .ok (.ishl, 1) := by decide +kernel
theorem dX12_draws_125 : decode cX12_draws 125 = .ok (.iconst (-1), 1) := by decide +kernel
theorem dX12_draws_126 : decode cX12_draws 126 = .ok (.ixor, 1) := by decide +kernel
theorem dX12_draws_127 : decode cX12_draws 127 = .ok (.iand, 1) := by decide +kernel
theorem dX12_draws_128 : decode cX12_draws 128 = .ok (.iastore, 1) := by decide +kernel
theorem dX12_draws_129 : decode cX12_draws 129 = .ok (.iinc 4 1, 3) := by decide +kernel
theorem dX12_draws_132 : decode cX12_draws 132 = .ok (.goto (-65), 3) := by decide +kernel
theorem dX12_draws_135 : decode cX12_draws 135 = .ok (.aload_n 0, 1) := by decide +kernel
theorem dX12_draws_136 : decode cX12_draws 136 = .ok (.iconst (-1), 1) := by decide +kernel
theorem dX12_draws_137 : decode cX12_draws 137 = .ok (.invokevirtual 290, 3) := by decide +kernel
theorem dX12_draws_140 : decode cX12_draws 140 = .ok (.pop, 1) := by decide +kernel
theorem dX12_draws_141 : decode cX12_draws 141 = .ok (.iinc 3 1, 3) := by decide +kernel
theorem dX12_draws_144 : decode cX12_draws 144 = .ok (.goto (-137), 3) := by decide +kernel
theorem dX12_draws_147 : decode cX12_draws 147 = .ok (.iload_n 3, 1) := by decide +kernel
theorem dX12_draws_148 : decode cX12_draws 148 = .ok (.ireturn, 1) := by decide +kernel
theorem dX12_drawn_0 : decode cX12_drawn 0 = .ok (.aload_n 0, 1) := by decide +kernel
theorem dX12_drawn_1 : decode cX12_drawn 1 = .ok (.iconst 0, 1) := by decide +kernel
theorem dX12_drawn_2 : decode cX12_drawn 2 = .ok (.putfield 1, 3) := by decide +kernel
theorem dX12_drawn_5 : decode cX12_drawn 5 = .ok (.iload_n 1, 1) := by decide +kernel
theorem dX12_drawn_6 : decode cX12_drawn 6 = .ok (.iconst 1, 1) := by decide +kernel
theorem dX12_drawn_7 : decode cX12_drawn 7 = .ok (.bipush 60, 2) := by decide +kernel
theorem dX12_drawn_9 : decode cX12_drawn 9 = .ok (.invokestatic 182, 3) := by decide +kernel
theorem dX12_drawn_12 : decode cX12_drawn 12 = .ok (.ifCond .ne 5, 3) := by decide +kernel
theorem dX12_drawn_15 : decode cX12_drawn 15 = .ok (.iconst (-1), 1) := by decide +kernel
theorem dX12_drawn_16 : decode cX12_drawn 16 = .ok (.ireturn, 1) := by decide +kernel
theorem dX12_drawn_17 : decode cX12_drawn 17 = .ok (.aload_n 0, 1) := by decide +kernel
theorem dX12_drawn_18 : decode cX12_drawn 18 = .ok (.getfield 33, 3) := by decide +kernel
theorem dX12_drawn_21 : decode cX12_drawn 21 = .ok (.bipush 44, 2) := by decide +kernel
theorem dX12_drawn_23 : decode cX12_drawn 23 = .ok (.iaload, 1) := by decide +kernel
theorem dX12_drawn_24 : decode cX12_drawn 24 = .ok (.sipush 400, 3) := by decide +kernel
theorem dX12_drawn_27 : decode cX12_drawn 27 = .ok (.if_icmp .ge 7, 3) := by decide +kernel
theorem dX12_drawn_30 : decode cX12_drawn 30 = .ok (.aload_n 0, 1) := by decide +kernel
theorem dX12_drawn_31 : decode cX12_drawn 31 = .ok (.invokevirtual 293, 3) := by decide +kernel
theorem dX12_drawn_34 : decode cX12_drawn 34 = .ok (.aload_n 0, 1) := by decide +kernel
theorem dX12_drawn_35 : decode cX12_drawn 35 = .ok (.iload_n 1, 1) := by decide +kernel
theorem dX12_drawn_36 : decode cX12_drawn 36 = .ok (.iload_n 2, 1) := by decide +kernel
theorem dX12_drawn_37 : decode cX12_drawn 37 = .ok (.invokevirtual 385, 3) := by decide +kernel
theorem dX12_drawn_40 : decode cX12_drawn 40 = .ok (.ireturn, 1) := by decide +kernel
theorem dX12_odds_0 : decode cX12_odds 0 = .ok (.aload_n 0, 1) := by decide +kernel
theorem dX12_odds_1 : decode cX12_odds 1 = .ok (.iconst 0, 1) := by decide +kernel
theorem dX12_odds_2 : decode cX12_odds 2 = .ok (.putfield 1, 3) := by decide +kernel
theorem dX12_odds_5 : decode cX12_odds 5 = .ok (.aload_n 0, 1) := by decide +kernel
theorem dX12_odds_6 : decode cX12_odds 6 = .ok (.iload_n 1, 1) := by decide +kernel
theorem dX12_odds_7 : decode cX12_odds 7 = .ok (.invokevirtual 254, 3) := by decide +kernel
theorem dX12_odds_10 : decode cX12_odds 10 = .ok (.ifCond .eq 13, 3) := by decide +kernel
theorem dX12_odds_13 : decode cX12_odds 13 = .ok (.iload_n 2, 1) := by decide +kernel
theorem dX12_odds_14 : decode cX12_odds 14 = .ok (.iconst 1, 1) := by decide +kernel
theorem dX12_odds_15 : decode cX12_odds 15 = .ok (.bipush 30, 2) := by decide +kernel
theorem dX12_odds_17 : decode cX12_odds 17 = .ok (.invokestatic 182, 3) := by decide +kernel
theorem dX12_odds_20 : decode cX12_odds 20 = .ok (.ifCond .ne 5, 3) := by decide +kernel
theorem dX12_odds_23 : decode cX12_odds 23 = .ok (.iconst (-1), 1) := by decide +kernel
theorem dX12_odds_24 : decode cX12_odds 24 = .ok (.ireturn, 1) := by decide +kernel
theorem dX12_odds_25 : decode cX12_odds 25 = .ok (.aload_n 0, 1) := by decide +kernel
theorem dX12_odds_26 : decode cX12_odds 26 = .ok (.invokevirtual 314, 3) := by decide +kernel
theorem dX12_odds_29 : decode cX12_odds 29 = .ok (.aload_n 0, 1) := by decide +kernel
theorem dX12_odds_30 : decode cX12_odds 30 = .ok (.getfield 33, 3) := by decide +kernel
theorem dX12_odds_33 : decode cX12_odds 33 = .ok (.bipush 71, 2) := by decide +kernel
theorem dX12_odds_35 : decode cX12_odds 35 = .ok (.iload_n 1, 1) := by decide +kernel
theorem dX12_odds_36 : decode cX12_odds 36 = .ok (.iadd, 1) := by decide +kernel
theorem dX12_odds_37 : decode cX12_odds 37 = .ok (.iaload, 1) := by decide +kernel
theorem dX12_odds_38 : decode cX12_odds 38 = .ok (.istore 4, 2) := by decide +kernel
theorem dX12_odds_40 : decode cX12_odds 40 = .ok (.iconst 0, 1) := by decide +kernel
theorem dX12_odds_41 : decode cX12_odds 41 = .ok (.istore 5, 2) := by decide +kernel
theorem dX12_odds_43 : decode cX12_odds 43 = .ok (.iconst 0, 1) := by decide +kernel
theorem dX12_odds_44 : decode cX12_odds 44 = .ok (.istore 6, 2) := by decide +kernel
theorem dX12_odds_46 : decode cX12_odds 46 = .ok (.iload 6, 2) := by decide +kernel
theorem dX12_odds_48 : decode cX12_odds 48 = .ok (.iload_n 2, 1) := by decide +kernel
theorem dX12_odds_49 : decode cX12_odds 49 = .ok (.if_icmp .ge 48, 3) := by decide +kernel
theorem dX12_odds_52 : decode cX12_odds 52 = .ok (.aload_n 0, 1) := by decide +kernel
theorem dX12_odds_53 : decode cX12_odds 53 = .ok (.bipush 20, 2) := by decide +kernel
theorem dX12_odds_55 : decode cX12_odds 55 = .ok (.iload_n 3, 1) := by decide +kernel
theorem dX12_odds_56 : decode cX12_odds 56 = .ok (.iload 6, 2) := by decide +kernel
theorem dX12_odds_58 : decode cX12_odds 58 = .ok (.iadd, 1) := by decide +kernel
theorem dX12_odds_59 : decode cX12_odds 59 = .ok (.invokevirtual 385, 3) := by decide +kernel
theorem dX12_odds_62 : decode cX12_odds 62 = .ok (.pop, 1) := by decide +kernel
theorem dX12_odds_63 : decode cX12_odds 63 = .ok (.iload 5, 2) := by decide +kernel
theorem dX12_odds_65 : decode cX12_odds 65 = .ok (.aload_n 0, 1) := by decide +kernel
theorem dX12_odds_66 : decode cX12_odds 66 = .ok (.getfield 33, 3) := by decide +kernel
theorem dX12_odds_69 : decode cX12_odds 69 = .ok (.bipush 71, 2) := by decide +kernel
theorem dX12_odds_71 : decode cX12_odds 71 = .ok (.iload_n 1, 1) := by decide +kernel
theorem dX12_odds_72 : decode cX12_odds 72 = .ok (.iadd, 1) := by decide +kernel
theorem dX12_odds_73 : decode cX12_odds 73 = .ok (.iaload, 1) := by decide +kernel
theorem dX12_odds_74 : decode cX12_odds 74 = .ok (.iload 4, 2) := by decide +kernel
theorem dX12_odds_76 : decode cX12_odds 76 = .ok (.if_icmp .le 7, 3) := by decide +kernel
theorem dX12_odds_79 : decode cX12_odds 79 = .ok (.iconst 1, 1) := by decide +kernel
theorem dX12_odds_80 : decode cX12_odds 80 = .ok (.goto 4, 3) := by decide +kernel
theorem dX12_odds_83 : decode cX12_odds 83 = .ok (.iconst 0, 1) := by decide +kernel
theorem dX12_odds_84 : decode cX12_odds 84 = .ok (.iadd, 1) := by decide +kernel
theorem dX12_odds_85 : decode cX12_odds 85 = .ok (.istore 5, 2) := by decide +kernel
theorem dX12_odds_87 : decode cX12_odds 87 = .ok (.aload_n 0, 1) := by decide +kernel
theorem dX12_odds_88 : decode cX12_odds 88 = .ok (.invokevirtual 320, 3) := by decide +kernel
theorem dX12_odds_91 : decode cX12_odds 91 = .ok (.iinc 6 1, 3) := by decide +kernel
theorem dX12_odds_94 : decode cX12_odds 94 = .ok (.goto (-48), 3) := by decide +kernel
theorem dX12_odds_97 : decode cX12_odds 97 = .ok (.iload 5, 2) := by decide +kernel
theorem dX12_odds_99 : decode cX12_odds 99 = .ok (.ireturn, 1) := by decide +kernel
theorem dX12_bookLine_0 : decode cX12_bookLine 0 = .ok (.iconst 3, 1) := by decide +kernel
theorem dX12_bookLine_1 : decode cX12_bookLine 1 = .ok (.aload_n 0, 1) := by decide +kernel
theorem dX12_bookLine_2 : decode cX12_bookLine 2 = .ok (.getfield 388, 3) := by decide +kernel
theorem dX12_bookLine_5 : decode cX12_bookLine 5 = .ok (.imul, 1) := by decide +kernel
theorem dX12_bookLine_6 : decode cX12_bookLine 6 = .ok (.istore_n 1, 1) := by decide +kernel
theorem dX12_bookLine_7 : decode cX12_bookLine 7 = .ok (.aload_n 0, 1) := by decide +kernel
theorem dX12_bookLine_8 : decode cX12_bookLine 8 = .ok (.ldc2_w 105, 3) := by decide +kernel
theorem dX12_bookLine_11 : decode cX12_bookLine 11 = .ok (.invokevirtual 204, 3) := by decide +kernel
theorem dX12_bookLine_14 : decode cX12_bookLine 14 = .ok (.ifCond .eq 7, 3) := by decide +kernel
theorem dX12_bookLine_17 : decode cX12_bookLine 17 = .ok (.iconst 2, 1) := by decide +kernel
theorem dX12_bookLine_18 : decode cX12_bookLine 18 = .ok (.goto 46, 3) := by decide +kernel
theorem dX12_bookLine_21 : decode cX12_bookLine 21 = .ok (.aload_n 0, 1) := by decide +kernel
theorem dX12_bookLine_22 : decode cX12_bookLine 22 = .ok (.ldc2_w 107, 3) := by decide +kernel
theorem dX12_bookLine_25 : decode cX12_bookLine 25 = .ok (.invokevirtual 204, 3) := by decide +kernel
theorem dX12_bookLine_28 : decode cX12_bookLine 28 = .ok (.ifCond .eq 7, 3) := by decide +kernel
theorem dX12_bookLine_31 : decode cX12_bookLine 31 = .ok (.iconst 3, 1) := by decide +kernel
theorem dX12_bookLine_32 : decode cX12_bookLine 32 = .ok (.goto 32, 3) := by decide +kernel
theorem dX12_bookLine_35 : decode cX12_bookLine 35 = .ok (.aload_n 0, 1) := by decide +kernel
theorem dX12_bookLine_36 : decode cX12_bookLine 36 = .ok (.ldc2_w 109, 3) := by decide +kernel
theorem dX12_bookLine_39 : decode cX12_bookLine 39 = .ok (.invokevirtual 204, 3) := by decide +kernel
theorem dX12_bookLine_42 : decode cX12_bookLine 42 = .ok (.ifCond .eq 7, 3) := by decide +kernel
theorem dX12_bookLine_45 : decode cX12_bookLine 45 = .ok (.iconst 4, 1) := by decide +kernel
theorem dX12_bookLine_46 : decode cX12_bookLine 46 = .ok (.goto 18, 3) := by decide +kernel
theorem dX12_bookLine_49 : decode cX12_bookLine 49 = .ok (.aload_n 0, 1) := by decide +kernel
theorem dX12_bookLine_50 : decode cX12_bookLine 50 = .ok (.ldc2_w 111, 3) := by decide +kernel
theorem dX12_bookLine_53 : decode cX12_bookLine 53 = .ok (.invokevirtual 204, 3) := by decide +kernel
theorem dX12_bookLine_56 : decode cX12_bookLine 56 = .ok (.ifCond .eq 7, 3) := by decide +kernel
theorem dX12_bookLine_59 : decode cX12_bookLine 59 = .ok (.iconst 5, 1) := by decide +kernel
theorem dX12_bookLine_60 : decode cX12_bookLine 60 = .ok (.goto 4, 3) := by decide +kernel
theorem dX12_bookLine_63 : decode cX12_bookLine 63 = .ok (.iconst 0, 1) := by decide +kernel
theorem dX12_bookLine_64 : decode cX12_bookLine 64 = .ok (.istore_n 2, 1) := by decide +kernel
theorem dX12_bookLine_65 : decode cX12_bookLine 65 = .ok (.iload_n 2, 1) := by decide +kernel
theorem dX12_bookLine_66 : decode cX12_bookLine 66 = .ok (.ifCond .ne 19, 3) := by decide +kernel
theorem dX12_bookLine_69 : decode cX12_bookLine 69 = .ok (.aload_n 0, 1) := by decide +kernel
theorem dX12_bookLine_70 : decode cX12_bookLine 70 = .ok (.iconst 0, 1) := by decide +kernel
theorem dX12_bookLine_71 : decode cX12_bookLine 71 = .ok (.aload_n 0, 1) := by decide +kernel
theorem dX12_bookLine_72 : decode cX12_bookLine 72 = .ok (.getfield 33, 3) := by decide +kernel
theorem dX12_bookLine_75 : decode cX12_bookLine 75 = .ok (.iconst 1, 1) := by decide +kernel
theorem dX12_bookLine_76 : decode cX12_bookLine 76 = .ok (.iaload, 1) := by decide +kernel
theorem dX12_bookLine_77 : decode cX12_bookLine 77 = .ok (.invokevirtual 201, 3) := by decide +kernel
theorem dX12_bookLine_80 : decode cX12_bookLine 80 = .ok (.ifCond .ne 5, 3) := by decide +kernel
theorem dX12_bookLine_83 : decode cX12_bookLine 83 = .ok (.iconst 0, 1) := by decide +kernel
theorem dX12_bookLine_84 : decode cX12_bookLine 84 = .ok (.ireturn, 1) := by decide +kernel
theorem dX12_bookLine_85 : decode cX12_bookLine 85 = .ok (.aload_n 0, 1) := by decide +kernel
theorem dX12_bookLine_86 : decode cX12_bookLine 86 = .ok (.getfield 388, 3) := by decide +kernel
theorem dX12_bookLine_89 : decode cX12_bookLine 89 = .ok (.bipush 40, 2) := by decide +kernel
theorem dX12_bookLine_91 : decode cX12_bookLine 91 = .ok (.if_icmp .ne 9, 3) := by decide +kernel
theorem dX12_bookLine_94 : decode cX12_bookLine 94 = .ok (.aload_n 0, 1) := by decide +kernel
theorem dX12_bookLine_95 : decode cX12_bookLine 95 = .ok (.iconst 4, 1) := by decide +kernel
theorem dX12_bookLine_96 : decode cX12_bookLine 96 = .ok (.invokevirtual 176, 3) := by decide +kernel
theorem dX12_bookLine_99 : decode cX12_bookLine 99 = .ok (.ireturn, 1) := by decide +kernel
theorem dX12_bookLine_100 : decode cX12_bookLine 100 = .ok (.aload_n 0, 1) := by decide +kernel
theorem dX12_bookLine_101 : decode cX12_bookLine 101 = .ok (.getfield 186, 3) := by decide +kernel
theorem dX12_bookLine_104 : decode cX12_bookLine 104 = .ok (.istore_n 3, 1) := by decide +kernel
theorem dX12_bookLine_105 : decode cX12_bookLine 105 = .ok (.aload_n 0, 1) := by decide +kernel
theorem dX12_bookLine_106 : decode cX12_bookLine 106 = .ok (.invokevirtual 179, 3) := by decide +kernel
theorem dX12_bookLine_109 : decode cX12_bookLine 109 = .ok (.aload_n 0, 1) := by decide +kernel
theorem dX12_bookLine_110 : decode cX12_bookLine 110 = .ok (.getfield 40, 3) := by decide +kernel
theorem dX12_bookLine_113 : decode cX12_bookLine 113 = .ok (.iload_n 1, 1) := by decide +kernel
theorem dX12_bookLine_114 : decode cX12_bookLine 114 = .ok (.iload_n 2, 1) := by decide +kernel
theorem dX12_bookLine_115 : decode cX12_bookLine 115 = .ok (.iastore, 1) := by decide +kernel
theorem dX12_bookLine_116 : decode cX12_bookLine 116 = .ok (.aload_n 0, 1) := by decide +kernel
theorem dX12_bookLine_117 : decode cX12_bookLine 117 = .ok (.getfield 40, 3) := by decide +kernel
theorem dX12_bookLine_120 : decode cX12_bookLine 120 = .ok (.iload_n 1, 1) := by decide +kernel
theorem dX12_bookLine_121 : decode cX12_bookLine 121 = .ok (.iconst 1, 1) := by decide +kernel
theorem dX12_bookLine_122 : decode cX12_bookLine 122 = .ok (.iadd, 1) := by decide +kernel
theorem dX12_bookLine_123 : decode cX12_bookLine 123 = .ok (.iload_n 3, 1) := by decide +kernel
theorem dX12_bookLine_124 : decode cX12_bookLine 124 = .ok (.iastore, 1) := by decide +kernel
theorem dX12_bookLine_125 : decode cX12_bookLine 125 = .ok (.iload_n 2, 1) := by decide +kernel
theorem dX12_bookLine_126 : decode cX12_bookLine 126 = .ok (.ifCond .ne 55, 3) := by decide +kernel
theorem dX12_bookLine_129 : decode cX12_bookLine 129 = .ok (.aload_n 0, 1) := by decide +kernel
theorem dX12_bookLine_130 : decode cX12_bookLine 130 = .ok (.ldc2_w 103, 3) := by decide +kernel
theorem dX12_bookLine_133 : decode cX12_bookLine 133 = .ok (.invokevirtual 204, 3) := by decide +kernel
theorem dX12_bookLine_136 : decode cX12_bookLine 136 = .ok (.istore 4, 2) := by decide +kernel
theorem dX12_bookLine_138 : decode cX12_bookLine 138 = .ok (.iload 4, 2) := by decide +kernel
theorem dX12_bookLine_140 : decode cX12_bookLine 140 = .ok (.ifCond .ne 19, 3) := by decide +kernel
theorem dX12_bookLine_143 : decode cX12_bookLine 143 = .ok (.aload_n 0, 1) := by decide +kernel
theorem dX12_bookLine_144 : decode cX12_bookLine 144 = .ok (.ldc2_w 101, 3) := by decide +kernel
theorem dX12_bookLine_147 : decode cX12_bookLine 147 = .ok (.invokevirtual 204, 3) := by decide +kernel
theorem dX12_bookLine_150 : decode cX12_bookLine 150 = .ok (.ifCond .ne 9, 3) := by decide +kernel
theorem dX12_bookLine_153 : decode cX12_bookLine 153 = .ok (.aload_n 0, 1) := by decide +kernel
theorem dX12_bookLine_154 : decode cX12_bookLine 154 = .ok (.iconst 1, 1) := by decide +kernel
theorem dX12_bookLine_155 : decode cX12_bookLine 155 = .ok (.invokevirtual 176, 3) := by decide +kernel
theorem dX12_bookLine_158 : decode cX12_bookLine 158 = .ok (.ireturn, 1) := by decide +kernel
theorem dX12_bookLine_159 : decode cX12_bookLine 159 = .ok (.aload_n 0, 1) := by decide +kernel
theorem dX12_bookLine_160 : decode cX12_bookLine 160 = .ok (.invokevirtual 179, 3) := by decide +kernel
theorem dX12_bookLine_163 : decode cX12_bookLine 163 = .ok (.aload_n 0, 1) := by decide +kernel
theorem dX12_bookLine_164 : decode cX12_bookLine 164 = .ok (.getfield 40, 3) := by decide +kernel
theorem dX12_bookLine_167 : decode cX12_bookLine 167 = .ok (.iload_n 1, 1) := by decide +kernel
theorem dX12_bookLine_168 : decode cX12_bookLine 168 = .ok (.iload 4, 2) := by decide +kernel
theorem dX12_bookLine_170 : decode cX12_bookLine 170 = .ok (.ifCond .eq 7, 3) := by decide +kernel
theorem dX12_bookLine_173 : decode cX12_bookLine 173 = .ok (.iconst 1, 1) := by decide +kernel
theorem dX12_bookLine_174 : decode cX12_bookLine 174 = .ok (.goto 4, 3) := by decide +kernel
theorem dX12_bookLine_177 : decode cX12_bookLine 177 = .ok (.iconst 0, 1) := by decide +kernel
theorem dX12_bookLine_178 : decode cX12_bookLine 178 = .ok (.iastore, 1) := by decide +kernel
theorem dX12_bookLine_179 : decode cX12_bookLine 179 = .ok (.iconst 1, 1) := by decide +kernel
theorem dX12_bookLine_180 : decode cX12_bookLine 180 = .ok (.ireturn, 1) := by decide +kernel
theorem dX12_bookLine_181 : decode cX12_bookLine 181 = .ok (.iload_n 2, 1) := by decide +kernel
theorem dX12_bookLine_182 : decode cX12_bookLine 182 = .ok (.iconst 2, 1) := by decide +kernel
theorem dX12_bookLine_183 : decode cX12_bookLine 183 = .ok (.if_icmp .ne 18, 3) := by decide +kernel
theorem dX12_bookLine_186 : decode cX12_bookLine 186 = .ok (.aload_n 0, 1) := by decide +kernel
theorem dX12_bookLine_187 : decode cX12_bookLine 187 = .ok (.bipush 7, 2) := by decide +kernel
theorem dX12_bookLine_189 : decode cX12_bookLine 189 = .ok (.aload_n 0, 1) := by decide +kernel
theorem dX12_bookLine_190 : decode cX12_bookLine 190 = .ok (.getfield 33, 3) := by decide +kernel
theorem dX12_bookLine_193 : decode cX12_bookLine 193 = .ok (.iconst 2, 1) := by decide +kernel
theorem dX12_bookLine_194 : decode cX12_bookLine 194 = .ok (.iaload, 1) := by decide +kernel
theorem dX12_bookLine_195 : decode cX12_bookLine 195 = .ok (.invokevirtual 230, 3) := by decide +kernel
theorem dX12_bookLine_198 : decode cX12_bookLine 198 = .ok (.goto 25, 3) := by decide +kernel
theorem dX12_bookLine_201 : decode cX12_bookLine 201 = .ok (.iload_n 2, 1) := by decide +kernel
theorem dX12_bookLine_202 : decode cX12_bookLine 202 = .ok (.iconst 5, 1) := by decide +kernel
theorem dX12_bookLine_203 : decode cX12_bookLine 203 = .ok (.if_icmp .ne 13, 3) := by decide +kernel
theorem dX12_bookLine_206 : decode cX12_bookLine 206 = .ok (.aload_n 0, 1) := by decide +kernel
theorem dX12_bookLine_207 : decode cX12_bookLine 207 = .ok (.iconst 1, 1) := by decide +kernel
theorem dX12_bookLine_208 : decode cX12_bookLine 208 = .ok (.bipush 60, 2) := by decide +kernel
theorem dX12_bookLine_210 : decode cX12_bookLine 210 = .ok (.invokevirtual 189, 3) := by decide +kernel
theorem dX12_bookLine_213 : decode cX12_bookLine 213 = .ok (.goto 10, 3) := by decide +kernel
theorem dX12_bookLine_216 : decode cX12_bookLine 216 = .ok (.aload_n 0, 1) := by decide +kernel
theorem dX12_bookLine_217 : decode cX12_bookLine 217 = .ok (.iconst 0, 1) := by decide +kernel
theorem dX12_bookLine_218 : decode cX12_bookLine 218 = .ok (.bipush 8, 2) := by decide +kernel
theorem dX12_bookLine_220 : decode cX12_bookLine 220 = .ok (.invokevirtual 189, 3) := by decide +kernel
theorem dX12_bookLine_223 : decode cX12_bookLine 223 = .ok (.istore 4, 2) := by decide +kernel
theorem dX12_bookLine_225 : decode cX12_bookLine 225 = .ok (.aload_n 0, 1) := by decide +kernel
theorem dX12_bookLine_226 : decode cX12_bookLine 226 = .ok (.getfield 40, 3) := by decide +kernel
theorem dX12_bookLine_229 : decode cX12_bookLine 229 = .ok (.iload_n 1, 1) := by decide +kernel
theorem dX12_bookLine_230 : decode cX12_bookLine 230 = .ok (.iconst 1, 1) := by decide +kernel
theorem dX12_bookLine_231 : decode cX12_bookLine 231 = .ok (.iadd, 1) := by decide +kernel
theorem dX12_bookLine_232 : decode cX12_bookLine 232 = .ok (.aload_n 0, 1) := by decide +kernel
theorem dX12_bookLine_233 : decode cX12_bookLine 233 = .ok (.getfield 186, 3) := by decide +kernel
theorem dX12_bookLine_236 : decode cX12_bookLine 236 = .ok (.iastore, 1) := by decide +kernel
theorem dX12_bookLine_237 : decode cX12_bookLine 237 = .ok (.iload 4, 2) := by decide +kernel
theorem dX12_bookLine_239 : decode cX12_bookLine 239 = .ok (.ireturn, 1) := by decide +kernel
theorem dX12_does_0 : decode cX12_does 0 = .ok (.iconst 0, 1) := by decide +kernel
theorem dX12_does_1 : decode cX12_does 1 = .ok (.istore_n 3, 1) := by decide +kernel
theorem dX12_does_2 : decode cX12_does 2 = .ok (.iload_n 1, 1) := by decide +kernel
theorem dX12_does_3 : decode cX12_does 3 = .ok (.tableswitch 172 0 4 #[33, 52, 84, 120, 146], 33) := by decide +kernel
theorem dX12_does_36 : decode cX12_does 36 = .ok (.aload_n 0, 1) := by decide +kernel
theorem dX12_does_37 : decode cX12_does 37 = .ok (.iload_n 2, 1) := by decide +kernel
theorem dX12_does_38 : decode cX12_does 38 = .ok (.invokevirtual 284, 3) := by decide +kernel
theorem dX12_does_41 : decode cX12_does 41 = .ok (.istore_n 3, 1) := by decide +kernel
theorem dX12_does_42 : decode cX12_does 42 = .ok (.iload_n 3, 1) := by decide +kernel
theorem dX12_does_43 : decode cX12_does 43 = .ok (.ifCond .ne 163, 3) := by decide +kernel
theorem dX12_does_46 : decode cX12_does 46 = .ok (.aload_n 0, 1) := by decide +kernel
theorem dX12_does_47 : decode cX12_does 47 = .ok (.iload_n 2, 1) := by decide +kernel
theorem dX12_does_48 : decode cX12_does 48 = .ok (.invokevirtual 287, 3) := by decide +kernel
theorem dX12_does_51 : decode cX12_does 51 = .ok (.pop, 1) := by decide +kernel
theorem dX12_does_52 : decode cX12_does 52 = .ok (.goto 154, 3) := by decide +kernel
theorem dX12_does_55 : decode cX12_does 55 = .ok (.aload_n 0, 1) := by decide +kernel
theorem dX12_does_56 : decode cX12_does 56 = .ok (.iload_n 2, 1) := by decide +kernel
theorem dX12_does_57 : decode cX12_does 57 = .ok (.invokevirtual 251, 3) := by decide +kernel
theorem dX12_does_60 : decode cX12_does 60 = .ok (.ifCond .eq 7, 3) := by decide +kernel
theorem dX12_does_63 : decode cX12_does 63 = .ok (.iconst 0, 1) := by decide +kernel
theorem dX12_does_64 : decode cX12_does 64 = .ok (.goto 4, 3) := by decide +kernel
theorem dX12_does_67 : decode cX12_does 67 = .ok (.iconst 1, 1) := by decide +kernel
theorem dX12_does_68 : decode cX12_does 68 = .ok (.istore_n 3, 1) := by decide +kernel
theorem dX12_does_69 : decode cX12_does 69 = .ok (.aload_n 0, 1) := by decide +kernel
theorem dX12_does_70 : decode cX12_does 70 = .ok (.getfield 33, 3) := by decide +kernel
theorem dX12_does_73 : decode cX12_does 73 = .ok (.bipush 63, 2) := by decide +kernel
theorem dX12_does_75 : decode cX12_does 75 = .ok (.dup2, 1) := by decide +kernel
theorem dX12_does_76 : decode cX12_does 76 = .ok (.iaload, 1) := by decide +kernel
theorem dX12_does_77 : decode cX12_does 77 = .ok (.iconst 1, 1) := by decide +kernel
theorem dX12_does_78 : decode cX12_does 78 = .ok (.iload_n 2, 1) := by decide +kernel
theorem dX12_does_79 : decode cX12_does 79 = .ok (.ishl, 1) := by decide +kernel
theorem dX12_does_80 : decode cX12_does 80 = .ok (.iconst (-1), 1) := by decide +kernel
theorem dX12_does_81 : decode cX12_does 81 = .ok (.ixor, 1) := by decide +kernel
theorem dX12_does_82 : decode cX12_does 82 = .ok (.iand, 1) := by decide +kernel
theorem dX12_does_83 : decode cX12_does 83 = .ok (.iastore, 1) := by decide +kernel
theorem dX12_does_84 : decode cX12_does 84 = .ok (.goto 122, 3) := by decide +kernel
theorem dX12_does_87 : decode cX12_does 87 = .ok (.aload_n 0, 1) := by decide +kernel
theorem dX12_does_88 : decode cX12_does 88 = .ok (.getfield 33, 3) := by decide +kernel
theorem dX12_does_91 : decode cX12_does 91 = .ok (.bipush 45, 2) := by decide +kernel
theorem dX12_does_93 : decode cX12_does 93 = .ok (.iaload, 1) := by decide +kernel
theorem dX12_does_94 : decode cX12_does 94 = .ok (.iload_n 2, 1) := by decide +kernel
theorem dX12_does_95 : decode cX12_does 95 = .ok (.invokestatic 248, 3) := by decide +kernel
theorem dX12_does_98 : decode cX12_does 98 = .ok (.ifCond .eq 7, 3) := by decide +kernel
theorem dX12_does_101 : decode cX12_does 101 = .ok (.iconst 1, 1) := by decide +kernel
theorem dX12_does_102 : decode cX12_does 102 = .ok (.goto 4, 3) := by decide +kernel
theorem dX12_does_105 : decode cX12_does 105 = .ok (.iconst 0, 1) := by decide +kernel
theorem dX12_does_106 : decode cX12_does 106 = .ok (.istore_n 3, 1) := by decide +kernel
theorem dX12_does_107 : decode cX12_does 107 = .ok (.aload_n 0, 1) := by decide +kernel
theorem dX12_does_108 : decode cX12_does 108 = .ok (.getfield 33, 3) := by decide +kernel
theorem dX12_does_111 : decode cX12_does 111 = .ok (.bipush 45, 2) := by decide +kernel
theorem dX12_does_113 : decode cX12_does 113 = .ok (.dup2, 1) := by decide +kernel
theorem dX12_does_114 : decode cX12_does 114 = .ok (.iaload, 1) := by decide +kernel
theorem dX12_does_115 : decode cX12_does 115 = .ok (.iconst 1, 1) := by decide +kernel
theorem dX12_does_116 : decode cX12_does 116 = .ok (.iload_n 2, 1) := by decide +kernel
theorem dX12_does_117 : decode cX12_does 117 = .ok (.ishl, 1) := by decide +kernel
theorem dX12_does_118 : decode cX12_does 118 = .ok (.ior, 1) := by decide +kernel
theorem dX12_does_119 : decode cX12_does 119 = .ok (.iastore, 1) := by decide +kernel
theorem dX12_does_120 : decode cX12_does 120 = .ok (.goto 86, 3) := by decide +kernel
theorem dX12_does_123 : decode cX12_does 123 = .ok (.aload_n 0, 1) := by decide +kernel
theorem dX12_does_124 : decode cX12_does 124 = .ok (.iload_n 2, 1) := by decide +kernel
theorem dX12_does_125 : decode cX12_does 125 = .ok (.invokevirtual 299, 3) := by decide +kernel
theorem dX12_does_128 : decode cX12_does 128 = .ok (.istore_n 3, 1) := by decide +kernel
theorem dX12_does_129 : decode cX12_does 129 = .ok (.iload_n 3, 1) := by decide +kernel
theorem dX12_does_130 : decode cX12_does 130 = .ok (.ifCond .ne 76, 3) := by decide +kernel
theorem dX12_does_133 : decode cX12_does 133 = .ok (.aload_n 0, 1) := by decide +kernel
theorem dX12_does_134 : decode cX12_does 134 = .ok (.getfield 33, 3) := by decide +kernel
theorem dX12_does_137 : decode cX12_does 137 = .ok (.bipush 47, 2) := by decide +kernel
theorem dX12_does_139 : decode cX12_does 139 = .ok (.dup2, 1) := by decide +kernel
theorem dX12_does_140 : decode cX12_does 140 = .ok (.iaload, 1) := by decide +kernel
theorem dX12_does_141 : decode cX12_does 141 = .ok (.iconst 1, 1) := by decide +kernel
theorem dX12_does_142 : decode cX12_does 142 = .ok (.iload_n 2, 1) := by decide +kernel
theorem dX12_does_143 : decode cX12_does 143 = .ok (.ishl, 1) := by decide +kernel
theorem dX12_does_144 : decode cX12_does 144 = .ok (.ior, 1) := by decide +kernel
theorem dX12_does_145 : decode cX12_does 145 = .ok (.iastore, 1) := by decide +kernel
theorem dX12_does_146 : decode cX12_does 146 = .ok (.goto 60, 3) := by decide +kernel
theorem dX12_does_149 : decode cX12_does 149 = .ok (.aload_n 0, 1) := by decide +kernel
theorem dX12_does_150 : decode cX12_does 150 = .ok (.iload_n 2, 1) := by decide +kernel
theorem dX12_does_151 : decode cX12_does 151 = .ok (.invokevirtual 305, 3) := by decide +kernel
theorem dX12_does_154 : decode cX12_does 154 = .ok (.istore_n 3, 1) := by decide +kernel
theorem dX12_does_155 : decode cX12_does 155 = .ok (.iload_n 3, 1) := by decide +kernel
theorem dX12_does_156 : decode cX12_does 156 = .ok (.ifCond .ne 50, 3) := by decide +kernel
theorem dX12_does_159 : decode cX12_does 159 = .ok (.aload_n 0, 1) := by decide +kernel
theorem dX12_does_160 : decode cX12_does 160 = .ok (.getfield 33, 3) := by decide +kernel
theorem dX12_does_163 : decode cX12_does 163 = .ok (.bipush 47, 2) := by decide +kernel
theorem dX12_does_165 : decode cX12_does 165 = .ok (.dup2, 1) := by decide +kernel
theorem dX12_does_166 : decode cX12_does 166 = .ok (.iaload, 1) := by decide +kernel
theorem dX12_does_167 : decode cX12_does 167 = .ok (.iconst 1, 1) := by decide +kernel
theorem dX12_does_168 : decode cX12_does 168 = .ok (.iload_n 2, 1) := by decide +kernel
theorem dX12_does_169 : decode cX12_does 169 = .ok (.ishl, 1) := by decide +kernel
theorem dX12_does_170 : decode cX12_does 170 = .ok (.ixor, 1) := by decide +kernel
theorem dX12_does_171 : decode cX12_does 171 = .ok (.iastore, 1) := by decide +kernel
theorem dX12_does_172 : decode cX12_does 172 = .ok (.goto 34, 3) := by decide +kernel
theorem dX12_does_175 : decode cX12_does 175 = .ok (.aload_n 0, 1) := by decide +kernel
theorem dX12_does_176 : decode cX12_does 176 = .ok (.getfield 33, 3) := by decide +kernel
theorem dX12_does_179 : decode cX12_does 179 = .ok (.bipush 44, 2) := by decide +kernel
theorem dX12_does_181 : decode cX12_does 181 = .ok (.iaload, 1) := by decide +kernel
theorem dX12_does_182 : decode cX12_does 182 = .ok (.iload_n 2, 1) := by decide +kernel
theorem dX12_does_183 : decode cX12_does 183 = .ok (.iadd, 1) := by decide +kernel
theorem dX12_does_184 : decode cX12_does 184 = .ok (.sipush 400, 3) := by decide +kernel
theorem dX12_does_187 : decode cX12_does 187 = .ok (.if_icmp .le 7, 3) := by decide +kernel
theorem dX12_does_190 : decode cX12_does 190 = .ok (.iconst 1, 1) := by decide +kernel
theorem dX12_does_191 : decode cX12_does 191 = .ok (.goto 4, 3) := by decide +kernel
theorem dX12_does_194 : decode cX12_does 194 = .ok (.iconst 0, 1) := by decide +kernel
theorem dX12_does_195 : decode cX12_does 195 = .ok (.istore_n 3, 1) := by decide +kernel
theorem dX12_does_196 : decode cX12_does 196 = .ok (.iload_n 3, 1) := by decide +kernel
theorem dX12_does_197 : decode cX12_does 197 = .ok (.ifCond .ne 9, 3) := by decide +kernel
theorem dX12_does_200 : decode cX12_does 200 = .ok (.aload_n 0, 1) := by decide +kernel
theorem dX12_does_201 : decode cX12_does 201 = .ok (.iload_n 2, 1) := by decide +kernel
theorem dX12_does_202 : decode cX12_does 202 = .ok (.invokevirtual 308, 3) := by decide +kernel
theorem dX12_does_205 : decode cX12_does 205 = .ok (.pop, 1) := by decide +kernel
theorem dX12_does_206 : decode cX12_does 206 = .ok (.iload_n 3, 1) := by decide +kernel
theorem dX12_does_207 : decode cX12_does 207 = .ok (.ifCond .le 12, 3) := by decide +kernel
theorem dX12_does_210 : decode cX12_does 210 = .ok (.bipush 10, 2) := by decide +kernel
theorem dX12_does_212 : decode cX12_does 212 = .ok (.iload_n 1, 1) := by decide +kernel
theorem dX12_does_213 : decode cX12_does 213 = .ok (.imul, 1) := by decide +kernel
theorem dX12_does_214 : decode cX12_does 214 = .ok (.iload_n 3, 1) := by decide +kernel
theorem dX12_does_215 : decode cX12_does 215 = .ok (.iadd, 1) := by decide +kernel
theorem dX12_does_216 : decode cX12_does 216 = .ok (.goto 4, 3) := by decide +kernel
theorem dX12_does_219 : decode cX12_does 219 = .ok (.iconst 0, 1) := by decide +kernel
theorem dX12_does_220 : decode cX12_does 220 = .ok (.ireturn, 1) := by decide +kernel
theorem dX12_book_0 : decode cX12_book 0 = .ok (.aload_n 0, 1) := by decide +kernel
theorem dX12_book_1 : decode cX12_book 1 = .ok (.iconst 0, 1) := by decide +kernel
theorem dX12_book_2 : decode cX12_book 2 = .ok (.putfield 1, 3) := by decide +kernel
theorem dX12_book_5 : decode cX12_book 5 = .ok (.iload_n 1, 1) := by decide +kernel
theorem dX12_book_6 : decode cX12_book 6 = .ok (.iconst 0, 1) := by decide +kernel
theorem dX12_book_7 : decode cX12_book 7 = .ok (.iconst 1, 1) := by decide +kernel
theorem dX12_book_8 : decode cX12_book 8 = .ok (.invokestatic 182, 3) := by decide +kernel
theorem dX12_book_11 : decode cX12_book 11 = .ok (.ifCond .ne 7, 3) := by decide +kernel
theorem dX12_book_14 : decode cX12_book 14 = .ok (.sipush (-1000), 3) := by decide +kernel
theorem dX12_book_17 : decode cX12_book 17 = .ok (.ireturn, 1) := by decide +kernel
theorem dX12_book_18 : decode cX12_book 18 = .ok (.aload_n 0, 1) := by decide +kernel
theorem dX12_book_19 : decode cX12_book 19 = .ok (.sipush 400, 3) := by decide +kernel
theorem dX12_book_22 : decode cX12_book 22 = .ok (.invokevirtual 233, 3) := by decide +kernel
theorem dX12_book_25 : decode cX12_book 25 = .ok (.aload_n 0, 1) := by decide +kernel
theorem dX12_book_26 : decode cX12_book 26 = .ok (.iconst 0, 1) := by decide +kernel
theorem dX12_book_27 : decode cX12_book 27 = .ok (.putfield 167, 3) := by decide +kernel
theorem dX12_book_30 : decode cX12_book 30 = .ok (.aload_n 0, 1) := by decide +kernel
theorem dX12_book_31 : decode cX12_book 31 = .ok (.iconst 0, 1) := by decide +kernel
theorem dX12_book_32 : decode cX12_book 32 = .ok (.putfield 388, 3) := by decide +kernel
theorem dX12_book_35 : decode cX12_book 35 = .ok (.aload_n 0, 1) := by decide +kernel
theorem dX12_book_36 : decode cX12_book 36 = .ok (.invokevirtual 179, 3) := by decide +kernel
theorem dX12_book_39 : decode cX12_book 39 = .ok (.aload_n 0, 1) := by decide +kernel
theorem dX12_book_40 : decode cX12_book 40 = .ok (.getfield 150, 3) := by decide +kernel
theorem dX12_book_43 : decode cX12_book 43 = .ok (.ifCond .eq 40, 3) := by decide +kernel
theorem dX12_book_46 : decode cX12_book 46 = .ok (.aload_n 0, 1) := by decide +kernel
theorem dX12_book_47 : decode cX12_book 47 = .ok (.invokevirtual 391, 3) := by decide +kernel
theorem dX12_book_50 : decode cX12_book 50 = .ok (.ifCond .eq 12, 3) := by decide +kernel
theorem dX12_book_53 : decode cX12_book 53 = .ok (.aload_n 0, 1) := by decide +kernel
theorem dX12_book_54 : decode cX12_book 54 = .ok (.bipush 59, 2) := by decide +kernel
theorem dX12_book_56 : decode cX12_book 56 = .ok (.invokevirtual 242, 3) := by decide +kernel
theorem dX12_book_59 : decode cX12_book 59 = .ok (.ifCond .ne 11, 3) := by decide +kernel
theorem dX12_book_62 : decode cX12_book 62 = .ok (.bipush (-2), 2) := by decide +kernel
theorem dX12_book_64 : decode cX12_book 64 = .ok (.aload_n 0, 1) := by decide +kernel
theorem dX12_book_65 : decode cX12_book 65 = .ok (.getfield 170, 3) := by decide +kernel
theorem dX12_book_68 : decode cX12_book 68 = .ok (.isub, 1) := by decide +kernel
theorem dX12_book_69 : decode cX12_book 69 = .ok (.ireturn, 1) := by decide +kernel
theorem dX12_book_70 : decode cX12_book 70 = .ok (.aload_n 0, 1) := by decide +kernel
theorem dX12_book_71 : decode cX12_book 71 = .ok (.dup, 1) := by decide +kernel
theorem dX12_book_72 : decode cX12_book 72 = .ok (.getfield 388, 3) := by decide +kernel
theorem dX12_book_75 : decode cX12_book 75 = .ok (.iconst 1, 1) := by decide +kernel
theorem dX12_book_76 : decode cX12_book 76 = .ok (.iadd, 1) := by decide +kernel
theorem dX12_book_77 : decode cX12_book 77 = .ok (.putfield 388, 3) := by decide +kernel
theorem dX12_book_80 : decode cX12_book 80 = .ok (.goto (-41), 3) := by decide +kernel
theorem dX12_book_83 : decode cX12_book 83 = .ok (.aload_n 0, 1) := by decide +kernel
theorem dX12_book_84 : decode cX12_book 84 = .ok (.invokevirtual 314, 3) := by decide +kernel
theorem dX12_book_87 : decode cX12_book 87 = .ok (.iconst 0, 1) := by decide +kernel
theorem dX12_book_88 : decode cX12_book 88 = .ok (.istore_n 2, 1) := by decide +kernel
theorem dX12_book_89 : decode cX12_book 89 = .ok (.iload_n 2, 1) := by decide +kernel
theorem dX12_book_90 : decode cX12_book 90 = .ok (.iconst 4, 1) := by decide +kernel
theorem dX12_book_91 : decode cX12_book 91 = .ok (.if_icmp .ge 16, 3) := by decide +kernel
theorem dX12_book_94 : decode cX12_book 94 = .ok (.aload_n 0, 1) := by decide +kernel
theorem dX12_book_95 : decode cX12_book 95 = .ok (.getfield 74, 3) := by decide +kernel
theorem dX12_book_98 : decode cX12_book 98 = .ok (.iload_n 2, 1) := by decide +kernel
theorem dX12_book_99 : decode cX12_book 99 = .ok (.iconst 0, 1) := by decide +kernel
theorem dX12_book_100 : decode cX12_book 100 = .ok (.iastore, 1) := by decide +kernel
theorem dX12_book_101 : decode cX12_book 101 = .ok (.iinc 2 1, 3) := by decide +kernel
theorem dX12_book_104 : decode cX12_book 104 = .ok (.goto (-15), 3) := by decide +kernel
theorem dX12_book_107 : decode cX12_book 107 = .ok (.iconst (-1), 1) := by decide +kernel
theorem dX12_book_108 : decode cX12_book 108 = .ok (.istore_n 2, 1) := by decide +kernel
theorem dX12_book_109 : decode cX12_book 109 = .ok (.iconst 0, 1) := by decide +kernel
theorem dX12_book_110 : decode cX12_book 110 = .ok (.istore_n 3, 1) := by decide +kernel
theorem dX12_book_111 : decode cX12_book 111 = .ok (.iload_n 3, 1) := by decide +kernel
theorem dX12_book_112 : decode cX12_book 112 = .ok (.aload_n 0, 1) := by decide +kernel
theorem dX12_book_113 : decode cX12_book 113 = .ok (.getfield 388, 3) := by decide +kernel
theorem dX12_book_116 : decode cX12_book 116 = .ok (.if_icmp .ge 65, 3) := by decide +kernel
theorem dX12_book_119 : decode cX12_book 119 = .ok (.iload_n 2, 1) := by decide +kernel
theorem dX12_book_120 : decode cX12_book 120 = .ok (.ifCond .ge 61, 3) := by decide +kernel
theorem dX12_book_123 : decode cX12_book 123 = .ok (.aload_n 0, 1) := by decide +kernel
theorem dX12_book_124 : decode cX12_book 124 = .ok (.getfield 74, 3) := by decide +kernel
theorem dX12_book_127 : decode cX12_book 127 = .ok (.iconst 0, 1) := by decide +kernel
theorem dX12_book_128 : decode cX12_book 128 = .ok (.aload_n 0, 1) := by decide +kernel
theorem dX12_book_129 : decode cX12_book 129 = .ok (.aload_n 0, 1) := by decide +kernel
theorem dX12_book_130 : decode cX12_book 130 = .ok (.getfield 40, 3) := by decide +kernel
theorem dX12_book_133 : decode cX12_book 133 = .ok (.iconst 3, 1) := by decide +kernel
theorem dX12_book_134 : decode cX12_book 134 = .ok (.iload_n 3, 1) := by decide +kernel
theorem dX12_book_135 : decode cX12_book 135 = .ok (.imul, 1) := by decide +kernel
theorem dX12_book_136 : decode cX12_book 136 = .ok (.iaload, 1) := by decide +kernel
theorem dX12_book_137 : decode cX12_book 137 = .ok (.aload_n 0, 1) := by decide +kernel
theorem dX12_book_138 : decode cX12_book 138 = .ok (.getfield 40, 3) := by decide +kernel
theorem dX12_book_141 : decode cX12_book 141 = .ok (.iconst 3, 1) := by decide +kernel
theorem dX12_book_142 : decode cX12_book 142 = .ok (.iload_n 3, 1) := by decide +kernel
theorem dX12_book_143 : decode cX12_book 143 = .ok (.imul, 1) := by decide +kernel
theorem dX12_book_144 : decode cX12_book 144 = .ok (.iconst 1, 1) := by decide +kernel
theorem dX12_book_145 : decode cX12_book 145 = .ok (.iadd, 1) := by decide +kernel
theorem dX12_book_146 : decode cX12_book 146 = .ok (.iaload, 1) := by decide +kernel
theorem dX12_book_147 : decode cX12_book 147 = .ok (.invokevirtual 394, 3) := by decide +kernel
theorem dX12_book_150 : decode cX12_book 150 = .ok (.iastore, 1) := by decide +kernel
theorem dX12_book_151 : decode cX12_book 151 = .ok (.aload_n 0, 1) := by decide +kernel
theorem dX12_book_152 : decode cX12_book 152 = .ok (.getfield 74, 3) := by decide +kernel
theorem dX12_book_155 : decode cX12_book 155 = .ok (.iconst 0, 1) := by decide +kernel
theorem dX12_book_156 : decode cX12_book 156 = .ok (.iaload, 1) := by decide +kernel
theorem dX12_book_157 : decode cX12_book 157 = .ok (.ifCond .le 8, 3) := by decide +kernel
theorem dX12_book_160 : decode cX12_book 160 = .ok (.iload_n 3, 1) := by decide +kernel
theorem dX12_book_161 : decode cX12_book 161 = .ok (.istore_n 2, 1) := by decide +kernel
theorem dX12_book_162 : decode cX12_book 162 = .ok (.goto 13, 3) := by decide +kernel
theorem dX12_book_165 : decode cX12_book 165 = .ok (.aload_n 0, 1) := by decide +kernel
theorem dX12_book_166 : decode cX12_book 166 = .ok (.getfield 74, 3) := by decide +kernel
theorem dX12_book_169 : decode cX12_book 169 = .ok (.iconst 1, 1) := by decide +kernel
theorem dX12_book_170 : decode cX12_book 170 = .ok (.dup2, 1) := by decide +kernel
theorem dX12_book_171 : decode cX12_book 171 = .ok (.iaload, 1) := by decide +kernel
theorem dX12_book_172 : decode cX12_book 172 = .ok (.iconst 1, 1) := by decide +kernel
theorem dX12_book_173 : decode cX12_book 173 = .ok (.iadd, 1) := by decide +kernel
theorem dX12_book_174 : decode cX12_book 174 = .ok (.iastore, 1) := by decide +kernel
theorem dX12_book_175 : decode cX12_book 175 = .ok (.iinc 3 1, 3) := by decide +kernel
theorem dX12_book_178 : decode cX12_book 178 = .ok (.goto (-67), 3) := by decide +kernel
theorem dX12_book_181 : decode cX12_book 181 = .ok (.aload_n 0, 1) := by decide +kernel
theorem dX12_book_182 : decode cX12_book 182 = .ok (.getfield 74, 3) := by decide +kernel
theorem dX12_book_185 : decode cX12_book 185 = .ok (.iconst 2, 1) := by decide +kernel
theorem dX12_book_186 : decode cX12_book 186 = .ok (.aload_n 0, 1) := by decide +kernel
theorem dX12_book_187 : decode cX12_book 187 = .ok (.getfield 33, 3) := by decide +kernel
theorem dX12_book_190 : decode cX12_book 190 = .ok (.bipush 44, 2) := by decide +kernel
theorem dX12_book_192 : decode cX12_book 192 = .ok (.iaload, 1) := by decide +kernel
theorem dX12_book_193 : decode cX12_book 193 = .ok (.iastore, 1) := by decide +kernel
theorem dX12_book_194 : decode cX12_book 194 = .ok (.aload_n 0, 1) := by decide +kernel
theorem dX12_book_195 : decode cX12_book 195 = .ok (.getfield 74, 3) := by decide +kernel
theorem dX12_book_198 : decode cX12_book 198 = .ok (.iconst 3, 1) := by decide +kernel
theorem dX12_book_199 : decode cX12_book 199 = .ok (.aload_n 0, 1) := by decide +kernel
theorem dX12_book_200 : decode cX12_book 200 = .ok (.getfield 33, 3) := by decide +kernel
theorem dX12_book_203 : decode cX12_book 203 = .ok (.bipush 63, 2) := by decide +kernel
theorem dX12_book_205 : decode cX12_book 205 = .ok (.iaload, 1) := by decide +kernel
theorem dX12_book_206 : decode cX12_book 206 = .ok (.iastore, 1) := by decide +kernel
theorem dX12_book_207 : decode cX12_book 207 = .ok (.aload_n 0, 1) := by decide +kernel
theorem dX12_book_208 : decode cX12_book 208 = .ok (.iconst 1, 1) := by decide +kernel
theorem dX12_book_209 : decode cX12_book 209 = .ok (.putfield 397, 3) := by decide +kernel
theorem dX12_book_212 : decode cX12_book 212 = .ok (.iload_n 1, 1) := by decide +kernel
theorem dX12_book_213 : decode cX12_book 213 = .ok (.iconst 1, 1) := by decide +kernel
theorem dX12_book_214 : decode cX12_book 214 = .ok (.if_icmp .ne 52, 3) := by decide +kernel
theorem dX12_book_217 : decode cX12_book 217 = .ok (.aload_n 0, 1) := by decide +kernel
theorem dX12_book_218 : decode cX12_book 218 = .ok (.getfield 74, 3) := by decide +kernel
theorem dX12_book_221 : decode cX12_book 221 = .ok (.iconst 1, 1) := by decide +kernel
theorem dX12_book_222 : decode cX12_book 222 = .ok (.iaload, 1) := by decide +kernel
theorem dX12_book_223 : decode cX12_book 223 = .ok (.ifCond .le 43, 3) := by decide +kernel
theorem dX12_book_226 : decode cX12_book 226 = .ok (.aload_n 0, 1) := by decide +kernel
theorem dX12_book_227 : decode cX12_book 227 = .ok (.invokevirtual 293, 3) := by decide +kernel
theorem dX12_book_230 : decode cX12_book 230 = .ok (.iconst 0, 1) := by decide +kernel
theorem dX12_book_231 : decode cX12_book 231 = .ok (.istore_n 3, 1) := by decide +kernel
theorem dX12_book_232 : decode cX12_book 232 = .ok (.iload_n 3, 1) := by decide +kernel
theorem dX12_book_233 : decode cX12_book 233 = .ok (.bipush 48, 2) := by decide +kernel
theorem dX12_book_235 : decode cX12_book 235 = .ok (.if_icmp .ge 31, 3) := by decide +kernel
theorem dX12_book_238 : decode cX12_book 238 = .ok (.aload_n 0, 1) := by decide +kernel
theorem dX12_book_239 : decode cX12_book 239 = .ok (.getfield 50, 3) := by decide +kernel
theorem dX12_book_242 : decode cX12_book 242 = .ok (.bipush 48, 2) := by decide +kernel
theorem dX12_book_244 : decode cX12_book 244 = .ok (.aload_n 0, 1) := by decide +kernel
theorem dX12_book_245 : decode cX12_book 245 = .ok (.getfield 245, 3) := by decide +kernel
theorem dX12_book_248 : decode cX12_book 248 = .ok (.iconst 1, 1) := by decide +kernel
theorem dX12_book_249 : decode cX12_book 249 = .ok (.isub, 1) := by decide +kernel
theorem dX12_book_250 : decode cX12_book 250 = .ok (.imul, 1) := by decide +kernel
theorem dX12_book_251 : decode cX12_book 251 = .ok (.iload_n 3, 1) := by decide +kernel
theorem dX12_book_252 : decode cX12_book 252 = .ok (.iadd, 1) := by decide +kernel
theorem dX12_book_253 : decode cX12_book 253 = .ok (.aload_n 0, 1) := by decide +kernel
theorem dX12_book_254 : decode cX12_book 254 = .ok (.getfield 53, 3) := by decide +kernel
theorem dX12_book_257 : decode cX12_book 257 = .ok (.iload_n 3, 1) := by decide +kernel
theorem dX12_book_258 : decode cX12_book 258 = .ok (.iaload, 1) := by decide +kernel
theorem dX12_book_259 : decode cX12_book 259 = .ok (.iastore, 1) := by decide +kernel
theorem dX12_book_260 : decode cX12_book 260 = .ok (.iinc 3 1, 3) := by decide +kernel
theorem dX12_book_263 : decode cX12_book 263 = .ok (.goto (-31), 3) := by decide +kernel
theorem dX12_book_266 : decode cX12_book 266 = .ok (.iload_n 1, 1) := by decide +kernel
theorem dX12_book_267 : decode cX12_book 267 = .ok (.ifCond .ne 7, 3) := by decide +kernel
theorem dX12_book_270 : decode cX12_book 270 = .ok (.aload_n 0, 1) := by decide +kernel
theorem dX12_book_271 : decode cX12_book 271 = .ok (.invokevirtual 320, 3) := by decide +kernel
theorem dX12_book_274 : decode cX12_book 274 = .ok (.iload_n 2, 1) := by decide +kernel
theorem dX12_book_275 : decode cX12_book 275 = .ok (.ireturn, 1) := by decide +kernel
theorem dX12_told_0 : decode cX12_told 0 = .ok (.aload_n 0, 1) := by decide +kernel
theorem dX12_told_1 : decode cX12_told 1 = .ok (.iconst 0, 1) := by decide +kernel
theorem dX12_told_2 : decode cX12_told 2 = .ok (.putfield 1, 3) := by decide +kernel
theorem dX12_told_5 : decode cX12_told 5 = .ok (.aload_n 0, 1) := by decide +kernel
theorem dX12_told_6 : decode cX12_told 6 = .ok (.getfield 397, 3) := by decide +kernel
theorem dX12_told_9 : decode cX12_told 9 = .ok (.ifCond .eq 21, 3) := by decide +kernel
theorem dX12_told_12 : decode cX12_told 12 = .ok (.iload_n 1, 1) := by decide +kernel
theorem dX12_told_13 : decode cX12_told 13 = .ok (.iconst 0, 1) := by decide +kernel
theorem dX12_told_14 : decode cX12_told 14 = .ok (.iconst 3, 1) := by decide +kernel
theorem dX12_told_15 : decode cX12_told 15 = .ok (.invokestatic 182, 3) := by decide +kernel
theorem dX12_told_18 : decode cX12_told 18 = .ok (.ifCond .eq 12, 3) := by decide +kernel
theorem dX12_told_21 : decode cX12_told 21 = .ok (.aload_n 0, 1) := by decide +kernel
theorem dX12_told_22 : decode cX12_told 22 = .ok (.getfield 74, 3) := by decide +kernel
theorem dX12_told_25 : decode cX12_told 25 = .ok (.iload_n 1, 1) := by decide +kernel
theorem dX12_told_26 : decode cX12_told 26 = .ok (.iaload, 1) := by decide +kernel
theorem dX12_told_27 : decode cX12_told 27 = .ok (.goto 4, 3) := by decide +kernel
theorem dX12_told_30 : decode cX12_told 30 = .ok (.iconst (-1), 1) := by decide +kernel
theorem dX12_told_31 : decode cX12_told 31 = .ok (.ireturn, 1) := by decide +kernel
theorem dX12_code_0 : decode cX12_code 0 = .ok (.aload_n 0, 1) := by decide +kernel
theorem dX12_code_1 : decode cX12_code 1 = .ok (.getfield 40, 3) := by decide +kernel
theorem dX12_code_4 : decode cX12_code 4 = .ok (.iconst 3, 1) := by decide +kernel
theorem dX12_code_5 : decode cX12_code 5 = .ok (.aload_n 0, 1) := by decide +kernel
theorem dX12_code_6 : decode cX12_code 6 = .ok (.getfield 400, 3) := by decide +kernel
theorem dX12_code_9 : decode cX12_code 9 = .ok (.imul, 1) := by decide +kernel
theorem dX12_code_10 : decode cX12_code 10 = .ok (.iload_n 1, 1) := by decide +kernel
theorem dX12_code_11 : decode cX12_code 11 = .ok (.iastore, 1) := by decide +kernel
theorem dX12_code_12 : decode cX12_code 12 = .ok (.aload_n 0, 1) := by decide +kernel
theorem dX12_code_13 : decode cX12_code 13 = .ok (.getfield 40, 3) := by decide +kernel
theorem dX12_code_16 : decode cX12_code 16 = .ok (.iconst 3, 1) := by decide +kernel
theorem dX12_code_17 : decode cX12_code 17 = .ok (.aload_n 0, 1) := by decide +kernel
theorem dX12_code_18 : decode cX12_code 18 = .ok (.getfield 400, 3) := by decide +kernel
theorem dX12_code_21 : decode cX12_code 21 = .ok (.imul, 1) := by decide +kernel
theorem dX12_code_22 : decode cX12_code 22 = .ok (.iconst 1, 1) := by decide +kernel
theorem dX12_code_23 : decode cX12_code 23 = .ok (.iadd, 1) := by decide +kernel
theorem dX12_code_24 : decode cX12_code 24 = .ok (.iload_n 2, 1) := by decide +kernel
theorem dX12_code_25 : decode cX12_code 25 = .ok (.iastore, 1) := by decide +kernel
theorem dX12_code_26 : decode cX12_code 26 = .ok (.aload_n 0, 1) := by decide +kernel
theorem dX12_code_27 : decode cX12_code 27 = .ok (.getfield 40, 3) := by decide +kernel
theorem dX12_code_30 : decode cX12_code 30 = .ok (.iconst 3, 1) := by decide +kernel
theorem dX12_code_31 : decode cX12_code 31 = .ok (.aload_n 0, 1) := by decide +kernel
theorem dX12_code_32 : decode cX12_code 32 = .ok (.getfield 400, 3) := by decide +kernel
theorem dX12_code_35 : decode cX12_code 35 = .ok (.imul, 1) := by decide +kernel
theorem dX12_code_36 : decode cX12_code 36 = .ok (.iconst 2, 1) := by decide +kernel
theorem dX12_code_37 : decode cX12_code 37 = .ok (.iadd, 1) := by decide +kernel
theorem dX12_code_38 : decode cX12_code 38 = .ok (.iload_n 3, 1) := by decide +kernel
theorem dX12_code_39 : decode cX12_code 39 = .ok (.iastore, 1) := by decide +kernel
theorem dX12_code_40 : decode cX12_code 40 = .ok (.aload_n 0, 1) := by decide +kernel
theorem dX12_code_41 : decode cX12_code 41 = .ok (.dup, 1) := by decide +kernel
theorem dX12_code_42 : decode cX12_code 42 = .ok (.getfield 400, 3) := by decide +kernel
theorem dX12_code_45 : decode cX12_code 45 = .ok (.iconst 1, 1) := by decide +kernel
theorem dX12_code_46 : decode cX12_code 46 = .ok (.iadd, 1) := by decide +kernel
theorem dX12_code_47 : decode cX12_code 47 = .ok (.putfield 400, 3) := by decide +kernel
theorem dX12_code_50 : decode cX12_code 50 = .ok (.return_, 1) := by decide +kernel
theorem dX12_joins_0 : decode cX12_joins 0 = .ok (.aload_n 0, 1) := by decide +kernel
theorem dX12_joins_1 : decode cX12_joins 1 = .ok (.getfield 403, 3) := by decide +kernel
theorem dX12_joins_4 : decode cX12_joins 4 = .ok (.ifCond .le 69, 3) := by decide +kernel
theorem dX12_joins_7 : decode cX12_joins 7 = .ok (.aload_n 0, 1) := by decide +kernel
theorem dX12_joins_8 : decode cX12_joins 8 = .ok (.getfield 77, 3) := by decide +kernel
theorem dX12_joins_11 : decode cX12_joins 11 = .ok (.aload_n 0, 1) := by decide +kernel
theorem dX12_joins_12 : decode cX12_joins 12 = .ok (.getfield 403, 3) := by decide +kernel
theorem dX12_joins_15 : decode cX12_joins 15 = .ok (.iconst 1, 1) := by decide +kernel
theorem dX12_joins_16 : decode cX12_joins 16 = .ok (.isub, 1) := by decide +kernel
theorem dX12_joins_17 : decode cX12_joins 17 = .ok (.iaload, 1) := by decide +kernel
theorem dX12_joins_18 : decode cX12_joins 18 = .ok (.bipush 21, 2) := by decide +kernel
theorem dX12_joins_20 : decode cX12_joins 20 = .ok (.if_icmp .eq 25, 3) := by decide +kernel
theorem dX12_joins_23 : decode cX12_joins 23 = .ok (.aload_n 0, 1) := by decide +kernel
theorem dX12_joins_24 : decode cX12_joins 24 = .ok (.getfield 77, 3) := by decide +kernel
theorem dX12_joins_27 : decode cX12_joins 27 = .ok (.aload_n 0, 1) := by decide +kernel
theorem dX12_joins_28 : decode cX12_joins 28 = .ok (.getfield 403, 3) := by decide +kernel
theorem dX12_joins_31 : decode cX12_joins 31 = .ok (.iconst 1, 1) := by decide +kernel
theorem dX12_joins_32 : decode cX12_joins 32 = .ok (.isub, 1) := by decide +kernel
theorem dX12_joins_33 : decode cX12_joins 33 = .ok (.iaload, 1) := by decide +kernel
theorem dX12_joins_34 : decode cX12_joins 34 = .ok (.bipush 22, 2) := by decide +kernel
theorem dX12_joins_36 : decode cX12_joins 36 = .ok (.if_icmp .ne 37, 3) := by decide +kernel
theorem dX12_joins_39 : decode cX12_joins 39 = .ok (.iload_n 1, 1) := by decide +kernel
theorem dX12_joins_40 : decode cX12_joins 40 = .ok (.bipush 22, 2) := by decide +kernel
theorem dX12_joins_42 : decode cX12_joins 42 = .ok (.if_icmp .ne 31, 3) := by decide +kernel
theorem dX12_joins_45 : decode cX12_joins 45 = .ok (.aload_n 0, 1) := by decide +kernel
theorem dX12_joins_46 : decode cX12_joins 46 = .ok (.dup, 1) := by decide +kernel
theorem dX12_joins_47 : decode cX12_joins 47 = .ok (.getfield 403, 3) := by decide +kernel
theorem dX12_joins_50 : decode cX12_joins 50 = .ok (.iconst 1, 1) := by decide +kernel
theorem dX12_joins_51 : decode cX12_joins 51 = .ok (.isub, 1) := by decide +kernel
theorem dX12_joins_52 : decode cX12_joins 52 = .ok (.putfield 403, 3) := by decide +kernel
theorem dX12_joins_55 : decode cX12_joins 55 = .ok (.aload_n 0, 1) := by decide +kernel
theorem dX12_joins_56 : decode cX12_joins 56 = .ok (.aload_n 0, 1) := by decide +kernel
theorem dX12_joins_57 : decode cX12_joins 57 = .ok (.getfield 77, 3) := by decide +kernel
theorem dX12_joins_60 : decode cX12_joins 60 = .ok (.aload_n 0, 1) := by decide +kernel
theorem dX12_joins_61 : decode cX12_joins 61 = .ok (.getfield 403, 3) := by decide +kernel
theorem dX12_joins_64 : decode cX12_joins 64 = .ok (.iaload, 1) := by decide +kernel
theorem dX12_joins_65 : decode cX12_joins 65 = .ok (.iconst 0, 1) := by decide +kernel
theorem dX12_joins_66 : decode cX12_joins 66 = .ok (.iconst 0, 1) := by decide +kernel
theorem dX12_joins_67 : decode cX12_joins 67 = .ok (.invokevirtual 406, 3) := by decide +kernel
theorem dX12_joins_70 : decode cX12_joins 70 = .ok (.goto (-70), 3) := by decide +kernel
theorem dX12_joins_73 : decode cX12_joins 73 = .ok (.return_, 1) := by decide +kernel
theorem dX12_nots_0 : decode cX12_nots 0 = .ok (.aload_n 0, 1) := by decide +kernel
theorem dX12_nots_1 : decode cX12_nots 1 = .ok (.getfield 403, 3) := by decide +kernel
theorem dX12_nots_4 : decode cX12_nots 4 = .ok (.ifCond .le 50, 3) := by decide +kernel
theorem dX12_nots_7 : decode cX12_nots 7 = .ok (.aload_n 0, 1) := by decide +kernel
theorem dX12_nots_8 : decode cX12_nots 8 = .ok (.getfield 77, 3) := by decide +kernel
theorem dX12_nots_11 : decode cX12_nots 11 = .ok (.aload_n 0, 1) := by decide +kernel
theorem dX12_nots_12 : decode cX12_nots 12 = .ok (.getfield 403, 3) := by decide +kernel
theorem dX12_nots_15 : decode cX12_nots 15 = .ok (.iconst 1, 1) := by decide +kernel
theorem dX12_nots_16 : decode cX12_nots 16 = .ok (.isub, 1) := by decide +kernel
theorem dX12_nots_17 : decode cX12_nots 17 = .ok (.iaload, 1) := by decide +kernel
theorem dX12_nots_18 : decode cX12_nots 18 = .ok (.bipush 20, 2) := by decide +kernel
theorem dX12_nots_20 : decode cX12_nots 20 = .ok (.if_icmp .ne 34, 3) := by decide +kernel
theorem dX12_nots_23 : decode cX12_nots 23 = .ok (.aload_n 0, 1) := by decide +kernel
theorem dX12_nots_24 : decode cX12_nots 24 = .ok (.dup, 1) := by decide +kernel
theorem dX12_nots_25 : decode cX12_nots 25 = .ok (.getfield 403, 3) := by decide +kernel
theorem dX12_nots_28 : decode cX12_nots 28 = .ok (.iconst 1, 1) := by decide +kernel
theorem dX12_nots_29 : decode cX12_nots 29 = .ok (.isub, 1) := by decide +kernel
theorem dX12_nots_30 : decode cX12_nots 30 = .ok (.putfield 403, 3) := by decide +kernel
theorem dX12_nots_33 : decode cX12_nots 33 = .ok (.aload_n 0, 1) := by decide +kernel
theorem dX12_nots_34 : decode cX12_nots 34 = .ok (.dup, 1) := by decide +kernel
theorem dX12_nots_35 : decode cX12_nots 35 = .ok (.getfield 410, 3) := by decide +kernel
theorem dX12_nots_38 : decode cX12_nots 38 = .ok (.iconst 1, 1) := by decide +kernel
theorem dX12_nots_39 : decode cX12_nots 39 = .ok (.isub, 1) := by decide +kernel
theorem dX12_nots_40 : decode cX12_nots 40 = .ok (.putfield 410, 3) := by decide +kernel
theorem dX12_nots_43 : decode cX12_nots 43 = .ok (.aload_n 0, 1) := by decide +kernel
theorem dX12_nots_44 : decode cX12_nots 44 = .ok (.bipush 20, 2) := by decide +kernel
theorem dX12_nots_46 : decode cX12_nots 46 = .ok (.iconst 0, 1) := by decide +kernel
theorem dX12_nots_47 : decode cX12_nots 47 = .ok (.iconst 0, 1) := by decide +kernel
theorem dX12_nots_48 : decode cX12_nots 48 = .ok (.invokevirtual 406, 3) := by decide +kernel
theorem dX12_nots_51 : decode cX12_nots 51 = .ok (.goto (-51), 3) := by decide +kernel
theorem dX12_nots_54 : decode cX12_nots 54 = .ok (.return_, 1) := by decide +kernel
theorem dX12_leafOf_0 : decode cX12_leafOf 0 = .ok (.aload_n 0, 1) := by decide +kernel
theorem dX12_leafOf_1 : decode cX12_leafOf 1 = .ok (.ldc2_w 119, 3) := by decide +kernel
theorem dX12_leafOf_4 : decode cX12_leafOf 4 = .ok (.invokevirtual 204, 3) := by decide +kernel
theorem dX12_leafOf_7 : decode cX12_leafOf 7 = .ok (.ifCond .eq 7, 3) := by decide +kernel
theorem dX12_leafOf_10 : decode cX12_leafOf 10 = .ok (.iconst 0, 1) := by decide +kernel
theorem dX12_leafOf_11 : decode cX12_leafOf 11 = .ok (.goto 119, 3) := by decide +kernel
theorem dX12_leafOf_14 : decode cX12_leafOf 14 = .ok (.aload_n 0, 1) := by decide +kernel
theorem dX12_leafOf_15 : decode cX12_leafOf 15 = .ok (.ldc2_w 121, 3) := by decide +kernel
theorem dX12_leafOf_18 : decode cX12_leafOf 18 = .ok (.invokevirtual 204, 3) := by decide +kernel
theorem dX12_leafOf_21 : decode cX12_leafOf 21 = .ok (.ifCond .eq 7, 3) := by decide +kernel
theorem dX12_leafOf_24 : decode cX12_leafOf 24 = .ok (.iconst 1, 1) := by decide +kernel
theorem dX12_leafOf_25 : decode cX12_leafOf 25 = .ok (.goto 105, 3) := by decide +kernel
theorem dX12_leafOf_28 : decode cX12_leafOf 28 = .ok (.aload_n 0, 1) := by decide +kernel
theorem dX12_leafOf_29 : decode cX12_leafOf 29 = .ok (.ldc2_w 123, 3) := by decide +kernel
theorem dX12_leafOf_32 : decode cX12_leafOf 32 = .ok (.invokevirtual 204, 3) := by decide +kernel
theorem dX12_leafOf_35 : decode cX12_leafOf 35 = .ok (.ifCond .eq 7, 3) := by decide +kernel
theorem dX12_leafOf_38 : decode cX12_leafOf 38 = .ok (.iconst 2, 1) := by decide +kernel
theorem dX12_leafOf_39 : decode cX12_leafOf 39 = .ok (.goto 91, 3) := by decide +kernel
theorem dX12_leafOf_42 : decode cX12_leafOf 42 = .ok (.aload_n 0, 1) := by decide +kernel
theorem dX12_leafOf_43 : decode cX12_leafOf 43 = .ok (.ldc2_w 125, 3) := by decide +kernel
theorem dX12_leafOf_46 : decode cX12_leafOf 46 = .ok (.invokevirtual 204, 3) := by decide +kernel
theorem dX12_leafOf_49 : decode cX12_leafOf 49 = .ok (.ifCond .eq 7, 3) := by decide +kernel
theorem dX12_leafOf_52 : decode cX12_leafOf 52 = .ok (.iconst 3, 1) := by decide +kernel
theorem dX12_leafOf_53 : decode cX12_leafOf 53 = .ok (.goto 77, 3) := by decide +kernel
theorem dX12_leafOf_56 : decode cX12_leafOf 56 = .ok (.aload_n 0, 1) := by decide +kernel
theorem dX12_leafOf_57 : decode cX12_leafOf 57 = .ok (.ldc2_w 127, 3) := by decide +kernel
theorem dX12_leafOf_60 : decode cX12_leafOf 60 = .ok (.invokevirtual 204, 3) := by decide +kernel
theorem dX12_leafOf_63 : decode cX12_leafOf 63 = .ok (.ifCond .eq 7, 3) := by decide +kernel
theorem dX12_leafOf_66 : decode cX12_leafOf 66 = .ok (.iconst 4, 1) := by decide +kernel
theorem dX12_leafOf_67 : decode cX12_leafOf 67 = .ok (.goto 63, 3) := by decide +kernel
theorem dX12_leafOf_70 : decode cX12_leafOf 70 = .ok (.aload_n 0, 1) := by decide +kernel
theorem dX12_leafOf_71 : decode cX12_leafOf 71 = .ok (.ldc2_w 129, 3) := by decide +kernel
theorem dX12_leafOf_74 : decode cX12_leafOf 74 = .ok (.invokevirtual 204, 3) := by decide +kernel
theorem dX12_leafOf_77 : decode cX12_leafOf 77 = .ok (.ifCond .eq 7, 3) := by decide +kernel
theorem dX12_leafOf_80 : decode cX12_leafOf 80 = .ok (.iconst 5, 1) := by decide +kernel
theorem dX12_leafOf_81 : decode cX12_leafOf 81 = .ok (.goto 49, 3) := by decide +kernel
theorem dX12_leafOf_84 : decode cX12_leafOf 84 = .ok (.aload_n 0, 1) := by decide +kernel
theorem dX12_leafOf_85 : decode cX12_leafOf 85 = .ok (.ldc2_w 131, 3) := by decide +kernel
theorem dX12_leafOf_88 : decode cX12_leafOf 88 = .ok (.invokevirtual 204, 3) := by decide +kernel
theorem dX12_leafOf_91 : decode cX12_leafOf 91 = .ok (.ifCond .eq 8, 3) := by decide +kernel
theorem dX12_leafOf_94 : decode cX12_leafOf 94 = .ok (.bipush 6, 2) := by decide +kernel
theorem dX12_leafOf_96 : decode cX12_leafOf 96 = .ok (.goto 34, 3) := by decide +kernel
theorem dX12_leafOf_99 : decode cX12_leafOf 99 = .ok (.aload_n 0, 1) := by decide +kernel
theorem dX12_leafOf_100 : decode cX12_leafOf 100 = .ok (.ldc2_w 133, 3) := by decide +kernel
theorem dX12_leafOf_103 : decode cX12_leafOf 103 = .ok (.invokevirtual 204, 3) := by decide +kernel
theorem dX12_leafOf_106 : decode cX12_leafOf 106 = .ok (.ifCond .eq 8, 3) := by decide +kernel
theorem dX12_leafOf_109 : decode cX12_leafOf 109 = .ok (.bipush 7, 2) := by decide +kernel
theorem dX12_leafOf_111 : decode cX12_leafOf 111 = .ok (.goto 19, 3) := by decide +kernel
theorem dX12_leafOf_114 : decode cX12_leafOf 114 = .ok (.aload_n 0, 1) := by decide +kernel
theorem dX12_leafOf_115 : decode cX12_leafOf 115 = .ok (.ldc2_w 135, 3) := by decide +kernel
theorem dX12_leafOf_118 : decode cX12_leafOf 118 = .ok (.invokevirtual 204, 3) := by decide +kernel
theorem dX12_leafOf_121 : decode cX12_leafOf 121 = .ok (.ifCond .eq 8, 3) := by decide +kernel
theorem dX12_leafOf_124 : decode cX12_leafOf 124 = .ok (.bipush 8, 2) := by decide +kernel
theorem dX12_leafOf_126 : decode cX12_leafOf 126 = .ok (.goto 4, 3) := by decide +kernel
theorem dX12_leafOf_129 : decode cX12_leafOf 129 = .ok (.iconst (-1), 1) := by decide +kernel
theorem dX12_leafOf_130 : decode cX12_leafOf 130 = .ok (.ireturn, 1) := by decide +kernel
theorem dX12_operand_0 : decode cX12_operand 0 = .ok (.aload_n 0, 1) := by decide +kernel
theorem dX12_operand_1 : decode cX12_operand 1 = .ok (.ldc2_w 117, 3) := by decide +kernel
theorem dX12_operand_4 : decode cX12_operand 4 = .ok (.invokevirtual 204, 3) := by decide +kernel
theorem dX12_operand_7 : decode cX12_operand 7 = .ok (.istore_n 1, 1) := by decide +kernel
theorem dX12_operand_8 : decode cX12_operand 8 = .ok (.aload_n 0, 1) := by decide +kernel
theorem dX12_operand_9 : decode cX12_operand 9 = .ok (.bipush 40, 2) := by decide +kernel
theorem dX12_operand_11 : decode cX12_operand 11 = .ok (.invokevirtual 173, 3) := by decide +kernel
theorem dX12_operand_14 : decode cX12_operand 14 = .ok (.istore_n 2, 1) := by decide +kernel
theorem dX12_operand_15 : decode cX12_operand 15 = .ok (.aload_n 0, 1) := by decide +kernel
theorem dX12_operand_16 : decode cX12_operand 16 = .ok (.invokevirtual 413, 3) := by decide +kernel
theorem dX12_operand_19 : decode cX12_operand 19 = .ok (.istore_n 3, 1) := by decide +kernel
theorem dX12_operand_20 : decode cX12_operand 20 = .ok (.iload_n 1, 1) := by decide +kernel
theorem dX12_operand_21 : decode cX12_operand 21 = .ok (.ifCond .ne 17, 3) := by decide +kernel
theorem dX12_operand_24 : decode cX12_operand 24 = .ok (.iload_n 2, 1) := by decide +kernel
theorem dX12_operand_25 : decode cX12_operand 25 = .ok (.ifCond .ne 13, 3) := by decide +kernel
theorem dX12_operand_28 : decode cX12_operand 28 = .ok (.iload_n 3, 1) := by decide +kernel
theorem dX12_operand_29 : decode cX12_operand 29 = .ok (.ifCond .ge 9, 3) := by decide +kernel
theorem dX12_operand_32 : decode cX12_operand 32 = .ok (.aload_n 0, 1) := by decide +kernel
theorem dX12_operand_33 : decode cX12_operand 33 = .ok (.iconst 1, 1) := by decide +kernel
theorem dX12_operand_34 : decode cX12_operand 34 = .ok (.invokevirtual 176, 3) := by decide +kernel
theorem dX12_operand_37 : decode cX12_operand 37 = .ok (.ireturn, 1) := by decide +kernel
theorem dX12_operand_38 : decode cX12_operand 38 = .ok (.aload_n 0, 1) := by decide +kernel
theorem dX12_operand_39 : decode cX12_operand 39 = .ok (.getfield 416, 3) := by decide +kernel
theorem dX12_operand_42 : decode cX12_operand 42 = .ok (.bipush 20, 2) := by decide +kernel
theorem dX12_operand_44 : decode cX12_operand 44 = .ok (.if_icmp .eq 12, 3) := by decide +kernel
theorem dX12_operand_47 : decode cX12_operand 47 = .ok (.aload_n 0, 1) := by decide +kernel
theorem dX12_operand_48 : decode cX12_operand 48 = .ok (.getfield 410, 3) := by decide +kernel
theorem dX12_operand_51 : decode cX12_operand 51 = .ok (.bipush 8, 2) := by decide +kernel
theorem dX12_operand_53 : decode cX12_operand 53 = .ok (.if_icmp .le 9, 3) := by decide +kernel
theorem dX12_operand_56 : decode cX12_operand 56 = .ok (.aload_n 0, 1) := by decide +kernel
theorem dX12_operand_57 : decode cX12_operand 57 = .ok (.iconst 4, 1) := by decide +kernel
theorem dX12_operand_58 : decode cX12_operand 58 = .ok (.invokevirtual 176, 3) := by decide +kernel
theorem dX12_operand_61 : decode cX12_operand 61 = .ok (.ireturn, 1) := by decide +kernel
theorem dX12_operand_62 : decode cX12_operand 62 = .ok (.aload_n 0, 1) := by decide +kernel
theorem dX12_operand_63 : decode cX12_operand 63 = .ok (.dup, 1) := by decide +kernel
theorem dX12_operand_64 : decode cX12_operand 64 = .ok (.getfield 416, 3) := by decide +kernel
theorem dX12_operand_67 : decode cX12_operand 67 = .ok (.iconst 1, 1) := by decide +kernel
theorem dX12_operand_68 : decode cX12_operand 68 = .ok (.iadd, 1) := by decide +kernel
theorem dX12_operand_69 : decode cX12_operand 69 = .ok (.putfield 416, 3) := by decide +kernel
theorem dX12_operand_72 : decode cX12_operand 72 = .ok (.aload_n 0, 1) := by decide +kernel
theorem dX12_operand_73 : decode cX12_operand 73 = .ok (.invokevirtual 179, 3) := by decide +kernel
theorem dX12_operand_76 : decode cX12_operand 76 = .ok (.iload_n 1, 1) := by decide +kernel
theorem dX12_operand_77 : decode cX12_operand 77 = .ok (.ifCond .ne 7, 3) := by decide +kernel
theorem dX12_operand_80 : decode cX12_operand 80 = .ok (.iload_n 2, 1) := by decide +kernel
theorem dX12_operand_81 : decode cX12_operand 81 = .ok (.ifCond .eq 45, 3) := by decide +kernel
theorem dX12_operand_84 : decode cX12_operand 84 = .ok (.aload_n 0, 1) := by decide +kernel
theorem dX12_operand_85 : decode cX12_operand 85 = .ok (.getfield 77, 3) := by decide +kernel
theorem dX12_operand_88 : decode cX12_operand 88 = .ok (.aload_n 0, 1) := by decide +kernel
theorem dX12_operand_89 : decode cX12_operand 89 = .ok (.getfield 403, 3) := by decide +kernel
theorem dX12_operand_92 : decode cX12_operand 92 = .ok (.iload_n 1, 1) := by decide +kernel
theorem dX12_operand_93 : decode cX12_operand 93 = .ok (.ifCond .eq 8, 3) := by decide +kernel
theorem dX12_operand_96 : decode cX12_operand 96 = .ok (.bipush 20, 2) := by decide +kernel
theorem dX12_operand_98 : decode cX12_operand 98 = .ok (.goto 5, 3) := by decide +kernel
theorem dX12_operand_101 : decode cX12_operand 101 = .ok (.bipush 23, 2) := by decide +kernel
theorem dX12_operand_103 : decode cX12_operand 103 = .ok (.iastore, 1) := by decide +kernel
theorem dX12_operand_104 : decode cX12_operand 104 = .ok (.aload_n 0, 1) := by decide +kernel
theorem dX12_operand_105 : decode cX12_operand 105 = .ok (.dup, 1) := by decide +kernel
theorem dX12_operand_106 : decode cX12_operand 106 = .ok (.getfield 403, 3) := by decide +kernel
theorem dX12_operand_109 : decode cX12_operand 109 = .ok (.iconst 1, 1) := by decide +kernel
theorem dX12_operand_110 : decode cX12_operand 110 = .ok (.iadd, 1) := by decide +kernel
theorem dX12_operand_111 : decode cX12_operand 111 = .ok (.putfield 403, 3) := by decide +kernel
theorem dX12_operand_114 : decode cX12_operand 114 = .ok (.aload_n 0, 1) := by decide +kernel
theorem dX12_operand_115 : decode cX12_operand 115 = .ok (.dup, 1) := by decide +kernel
theorem dX12_operand_116 : decode cX12_operand 116 = .ok (.getfield 410, 3) := by decide +kernel
theorem dX12_operand_119 : decode cX12_operand 119 = .ok (.iconst 1, 1) := by decide +kernel
theorem dX12_operand_120 : decode cX12_operand 120 = .ok (.iadd, 1) := by decide +kernel
theorem dX12_operand_121 : decode cX12_operand 121 = .ok (.putfield 410, 3) := by decide +kernel
theorem dX12_operand_124 : decode cX12_operand 124 = .ok (.iconst 1, 1) := by decide +kernel
theorem dX12_operand_125 : decode cX12_operand 125 = .ok (.ireturn, 1) := by decide +kernel
theorem dX12_operand_126 : decode cX12_operand 126 = .ok (.aload_n 0, 1) := by decide +kernel
theorem dX12_operand_127 : decode cX12_operand 127 = .ok (.iconst 1, 1) := by decide +kernel
theorem dX12_operand_128 : decode cX12_operand 128 = .ok (.putfield 419, 3) := by decide +kernel
theorem dX12_operand_131 : decode cX12_operand 131 = .ok (.iload_n 3, 1) := by decide +kernel
theorem dX12_operand_132 : decode cX12_operand 132 = .ok (.iconst 3, 1) := by decide +kernel
theorem dX12_operand_133 : decode cX12_operand 133 = .ok (.if_icmp .ge 12, 3) := by decide +kernel
theorem dX12_operand_136 : decode cX12_operand 136 = .ok (.aload_n 0, 1) := by decide +kernel
theorem dX12_operand_137 : decode cX12_operand 137 = .ok (.iload_n 3, 1) := by decide +kernel
theorem dX12_operand_138 : decode cX12_operand 138 = .ok (.iconst 0, 1) := by decide +kernel
theorem dX12_operand_139 : decode cX12_operand 139 = .ok (.iconst 0, 1) := by decide +kernel
theorem dX12_operand_140 : decode cX12_operand 140 = .ok (.invokevirtual 406, 3) := by decide +kernel
theorem dX12_operand_143 : decode cX12_operand 143 = .ok (.iconst 1, 1) := by decide +kernel
theorem dX12_operand_144 : decode cX12_operand 144 = .ok (.ireturn, 1) := by decide +kernel
theorem dX12_operand_145 : decode cX12_operand 145 = .ok (.iload_n 3, 1) := by decide +kernel
theorem dX12_operand_146 : decode cX12_operand 146 = .ok (.iconst 5, 1) := by decide +kernel
theorem dX12_operand_147 : decode cX12_operand 147 = .ok (.if_icmp .ge 35, 3) := by decide +kernel
theorem dX12_operand_150 : decode cX12_operand 150 = .ok (.aload_n 0, 1) := by decide +kernel
theorem dX12_operand_151 : decode cX12_operand 151 = .ok (.iconst 0, 1) := by decide +kernel
theorem dX12_operand_152 : decode cX12_operand 152 = .ok (.aload_n 0, 1) := by decide +kernel
theorem dX12_operand_153 : decode cX12_operand 153 = .ok (.getfield 33, 3) := by decide +kernel
theorem dX12_operand_156 : decode cX12_operand 156 = .ok (.iconst 1, 1) := by decide +kernel
theorem dX12_operand_157 : decode cX12_operand 157 = .ok (.iaload, 1) := by decide +kernel
theorem dX12_operand_158 : decode cX12_operand 158 = .ok (.invokevirtual 201, 3) := by decide +kernel
theorem dX12_operand_161 : decode cX12_operand 161 = .ok (.ifCond .ne 5, 3) := by decide +kernel
theorem dX12_operand_164 : decode cX12_operand 164 = .ok (.iconst 0, 1) := by decide +kernel
theorem dX12_operand_165 : decode cX12_operand 165 = .ok (.ireturn, 1) := by decide +kernel
theorem dX12_operand_166 : decode cX12_operand 166 = .ok (.aload_n 0, 1) := by decide +kernel
theorem dX12_operand_167 : decode cX12_operand 167 = .ok (.iload_n 3, 1) := by decide +kernel
theorem dX12_operand_168 : decode cX12_operand 168 = .ok (.iconst 0, 1) := by decide +kernel
theorem dX12_operand_169 : decode cX12_operand 169 = .ok (.aload_n 0, 1) := by decide +kernel
theorem dX12_operand_170 : decode cX12_operand 170 = .ok (.getfield 186, 3) := by decide +kernel
theorem dX12_operand_173 : decode cX12_operand 173 = .ok (.invokevirtual 406, 3) := by decide +kernel
theorem dX12_operand_176 : decode cX12_operand 176 = .ok (.aload_n 0, 1) := by decide +kernel
theorem dX12_operand_177 : decode cX12_operand 177 = .ok (.invokevirtual 179, 3) := by decide +kernel
theorem dX12_operand_180 : decode cX12_operand 180 = .ok (.iconst 1, 1) := by decide +kernel
theorem dX12_operand_181 : decode cX12_operand 181 = .ok (.ireturn, 1) := by decide +kernel
theorem dX12_operand_182 : decode cX12_operand 182 = .ok (.aload_n 0, 1) := by decide +kernel
theorem dX12_operand_183 : decode cX12_operand 183 = .ok (.getfield 150, 3) := by decide +kernel
theorem dX12_operand_186 : decode cX12_operand 186 = .ok (.iconst 3, 1) := by decide +kernel
theorem dX12_operand_187 : decode cX12_operand 187 = .ok (.if_icmp .ne 21, 3) := by decide +kernel
theorem dX12_operand_190 : decode cX12_operand 190 = .ok (.aload_n 0, 1) := by decide +kernel
theorem dX12_operand_191 : decode cX12_operand 191 = .ok (.getfield 160, 3) := by decide +kernel
theorem dX12_operand_194 : decode cX12_operand 194 = .ok (.bipush 60, 2) := by decide +kernel
theorem dX12_operand_196 : decode cX12_operand 196 = .ok (.if_icmp .lt 12, 3) := by decide +kernel
theorem dX12_operand_199 : decode cX12_operand 199 = .ok (.aload_n 0, 1) := by decide +kernel
theorem dX12_operand_200 : decode cX12_operand 200 = .ok (.getfield 160, 3) := by decide +kernel
theorem dX12_operand_203 : decode cX12_operand 203 = .ok (.bipush 62, 2) := by decide +kernel
theorem dX12_operand_205 : decode cX12_operand 205 = .ok (.if_icmp .le 9, 3) := by decide +kernel
theorem dX12_operand_208 : decode cX12_operand 208 = .ok (.aload_n 0, 1) := by decide +kernel
theorem dX12_operand_209 : decode cX12_operand 209 = .ok (.iconst 1, 1) := by decide +kernel
theorem dX12_operand_210 : decode cX12_operand 210 = .ok (.invokevirtual 176, 3) := by decide +kernel
theorem dX12_operand_213 : decode cX12_operand 213 = .ok (.ireturn, 1) := by decide +kernel
theorem dX12_operand_214 : decode cX12_operand 214 = .ok (.aload_n 0, 1) := by decide +kernel
theorem dX12_operand_215 : decode cX12_operand 215 = .ok (.getfield 160, 3) := by decide +kernel
theorem dX12_operand_218 : decode cX12_operand 218 = .ok (.istore 4, 2) := by decide +kernel
theorem dX12_operand_220 : decode cX12_operand 220 = .ok (.aload_n 0, 1) := by decide +kernel
theorem dX12_operand_221 : decode cX12_operand 221 = .ok (.invokevirtual 179, 3) := by decide +kernel
theorem dX12_operand_224 : decode cX12_operand 224 = .ok (.aload_n 0, 1) := by decide +kernel
theorem dX12_operand_225 : decode cX12_operand 225 = .ok (.getfield 150, 3) := by decide +kernel
theorem dX12_operand_228 : decode cX12_operand 228 = .ok (.iconst 2, 1) := by decide +kernel
theorem dX12_operand_229 : decode cX12_operand 229 = .ok (.if_icmp .eq 9, 3) := by decide +kernel
theorem dX12_operand_232 : decode cX12_operand 232 = .ok (.aload_n 0, 1) := by decide +kernel
theorem dX12_operand_233 : decode cX12_operand 233 = .ok (.iconst 1, 1) := by decide +kernel
theorem dX12_operand_234 : decode cX12_operand 234 = .ok (.invokevirtual 176, 3) := by decide +kernel
theorem dX12_operand_237 : decode cX12_operand 237 = .ok (.ireturn, 1) := by decide +kernel
theorem dX12_operand_238 : decode cX12_operand 238 = .ok (.aload_n 0, 1) := by decide +kernel
theorem dX12_operand_239 : decode cX12_operand 239 = .ok (.iload_n 3, 1) := by decide +kernel
theorem dX12_operand_240 : decode cX12_operand 240 = .ok (.iload 4, 2) := by decide +kernel
theorem dX12_operand_242 : decode cX12_operand 242 = .ok (.aload_n 0, 1) := by decide +kernel
theorem dX12_operand_243 : decode cX12_operand 243 = .ok (.getfield 160, 3) := by decide +kernel
theorem dX12_operand_246 : decode cX12_operand 246 = .ok (.invokevirtual 406, 3) := by decide +kernel
theorem dX12_operand_249 : decode cX12_operand 249 = .ok (.aload_n 0, 1) := by decide +kernel
theorem dX12_operand_250 : decode cX12_operand 250 = .ok (.invokevirtual 179, 3) := by decide +kernel
theorem dX12_operand_253 : decode cX12_operand 253 = .ok (.iconst 1, 1) := by decide +kernel
theorem dX12_operand_254 : decode cX12_operand 254 = .ok (.ireturn, 1) := by decide +kernel
theorem dX12_behind_0 : decode cX12_behind 0 = .ok (.aload_n 0, 1) := by decide +kernel
theorem dX12_behind_1 : decode cX12_behind 1 = .ok (.invokevirtual 422, 3) := by decide +kernel
theorem dX12_behind_4 : decode cX12_behind 4 = .ok (.aload_n 0, 1) := by decide +kernel
theorem dX12_behind_5 : decode cX12_behind 5 = .ok (.ldc2_w 115, 3) := by decide +kernel
theorem dX12_behind_8 : decode cX12_behind 8 = .ok (.invokevirtual 204, 3) := by decide +kernel
theorem dX12_behind_11 : decode cX12_behind 11 = .ok (.ifCond .ne 13, 3) := by decide +kernel
theorem dX12_behind_14 : decode cX12_behind 14 = .ok (.aload_n 0, 1) := by decide +kernel
theorem dX12_behind_15 : decode cX12_behind 15 = .ok (.ldc2_w 113, 3) := by decide +kernel
theorem dX12_behind_18 : decode cX12_behind 18 = .ok (.invokevirtual 204, 3) := by decide +kernel
theorem dX12_behind_21 : decode cX12_behind 21 = .ok (.ifCond .eq 71, 3) := by decide +kernel
theorem dX12_behind_24 : decode cX12_behind 24 = .ok (.aload_n 0, 1) := by decide +kernel
theorem dX12_behind_25 : decode cX12_behind 25 = .ok (.aload_n 0, 1) := by decide +kernel
theorem dX12_behind_26 : decode cX12_behind 26 = .ok (.ldc2_w 115, 3) := by decide +kernel
theorem dX12_behind_29 : decode cX12_behind 29 = .ok (.invokevirtual 204, 3) := by decide +kernel
theorem dX12_behind_32 : decode cX12_behind 32 = .ok (.ifCond .eq 8, 3) := by decide +kernel
theorem dX12_behind_35 : decode cX12_behind 35 = .ok (.bipush 21, 2) := by decide +kernel
theorem dX12_behind_37 : decode cX12_behind 37 = .ok (.goto 5, 3) := by decide +kernel
theorem dX12_behind_40 : decode cX12_behind 40 = .ok (.bipush 22, 2) := by decide +kernel
theorem dX12_behind_42 : decode cX12_behind 42 = .ok (.invokevirtual 425, 3) := by decide +kernel
theorem dX12_behind_45 : decode cX12_behind 45 = .ok (.aload_n 0, 1) := by decide +kernel
theorem dX12_behind_46 : decode cX12_behind 46 = .ok (.getfield 77, 3) := by decide +kernel
theorem dX12_behind_49 : decode cX12_behind 49 = .ok (.aload_n 0, 1) := by decide +kernel
theorem dX12_behind_50 : decode cX12_behind 50 = .ok (.getfield 403, 3) := by decide +kernel
theorem dX12_behind_53 : decode cX12_behind 53 = .ok (.aload_n 0, 1) := by decide +kernel
theorem dX12_behind_54 : decode cX12_behind 54 = .ok (.ldc2_w 115, 3) := by decide +kernel
theorem dX12_behind_57 : decode cX12_behind 57 = .ok (.invokevirtual 204, 3) := by decide +kernel
theorem dX12_behind_60 : decode cX12_behind 60 = .ok (.ifCond .eq 8, 3) := by decide +kernel
theorem dX12_behind_63 : decode cX12_behind 63 = .ok (.bipush 21, 2) := by decide +kernel
theorem dX12_behind_65 : decode cX12_behind 65 = .ok (.goto 5, 3) := by decide +kernel
theorem dX12_behind_68 : decode cX12_behind 68 = .ok (.bipush 22, 2) := by decide +kernel
theorem dX12_behind_70 : decode cX12_behind 70 = .ok (.iastore, 1) := by decide +kernel
theorem dX12_behind_71 : decode cX12_behind 71 = .ok (.aload_n 0, 1) := by decide +kernel
theorem dX12_behind_72 : decode cX12_behind 72 = .ok (.dup, 1) := by decide +kernel
theorem dX12_behind_73 : decode cX12_behind 73 = .ok (.getfield 403, 3) := by decide +kernel
theorem dX12_behind_76 : decode cX12_behind 76 = .ok (.iconst 1, 1) := by decide +kernel
theorem dX12_behind_77 : decode cX12_behind 77 = .ok (.iadd, 1) := by decide +kernel
theorem dX12_behind_78 : decode cX12_behind 78 = .ok (.putfield 403, 3) := by decide +kernel
theorem dX12_behind_81 : decode cX12_behind 81 = .ok (.aload_n 0, 1) := by decide +kernel
theorem dX12_behind_82 : decode cX12_behind 82 = .ok (.iconst 0, 1) := by decide +kernel
theorem dX12_behind_83 : decode cX12_behind 83 = .ok (.putfield 419, 3) := by decide +kernel
theorem dX12_behind_86 : decode cX12_behind 86 = .ok (.aload_n 0, 1) := by decide +kernel
theorem dX12_behind_87 : decode cX12_behind 87 = .ok (.invokevirtual 179, 3) := by decide +kernel
theorem dX12_behind_90 : decode cX12_behind 90 = .ok (.iconst 1, 1) := by decide +kernel
theorem dX12_behind_91 : decode cX12_behind 91 = .ok (.ireturn, 1) := by decide +kernel
theorem dX12_behind_92 : decode cX12_behind 92 = .ok (.aload_n 0, 1) := by decide +kernel
theorem dX12_behind_93 : decode cX12_behind 93 = .ok (.bipush 22, 2) := by decide +kernel
theorem dX12_behind_95 : decode cX12_behind 95 = .ok (.invokevirtual 425, 3) := by decide +kernel
theorem dX12_behind_98 : decode cX12_behind 98 = .ok (.aload_n 0, 1) := by decide +kernel
theorem dX12_behind_99 : decode cX12_behind 99 = .ok (.bipush 41, 2) := by decide +kernel
theorem dX12_behind_101 : decode cX12_behind 101 = .ok (.invokevirtual 173, 3) := by decide +kernel
theorem dX12_behind_104 : decode cX12_behind 104 = .ok (.ifCond .eq 10, 3) := by decide +kernel
theorem dX12_behind_107 : decode cX12_behind 107 = .ok (.aload_n 0, 1) := by decide +kernel
theorem dX12_behind_108 : decode cX12_behind 108 = .ok (.getfield 403, 3) := by decide +kernel
theorem dX12_behind_111 : decode cX12_behind 111 = .ok (.ifCond .ne 9, 3) := by decide +kernel
theorem dX12_behind_114 : decode cX12_behind 114 = .ok (.aload_n 0, 1) := by decide +kernel
theorem dX12_behind_115 : decode cX12_behind 115 = .ok (.iconst 1, 1) := by decide +kernel
theorem dX12_behind_116 : decode cX12_behind 116 = .ok (.invokevirtual 176, 3) := by decide +kernel
theorem dX12_behind_119 : decode cX12_behind 119 = .ok (.ireturn, 1) := by decide +kernel
theorem dX12_behind_120 : decode cX12_behind 120 = .ok (.aload_n 0, 1) := by decide +kernel
theorem dX12_behind_121 : decode cX12_behind 121 = .ok (.dup, 1) := by decide +kernel
theorem dX12_behind_122 : decode cX12_behind 122 = .ok (.getfield 403, 3) := by decide +kernel
theorem dX12_behind_125 : decode cX12_behind 125 = .ok (.iconst 1, 1) := by decide +kernel
theorem dX12_behind_126 : decode cX12_behind 126 = .ok (.isub, 1) := by decide +kernel
theorem dX12_behind_127 : decode cX12_behind 127 = .ok (.putfield 403, 3) := by decide +kernel
theorem dX12_behind_130 : decode cX12_behind 130 = .ok (.aload_n 0, 1) := by decide +kernel
theorem dX12_behind_131 : decode cX12_behind 131 = .ok (.dup, 1) := by decide +kernel
theorem dX12_behind_132 : decode cX12_behind 132 = .ok (.getfield 410, 3) := by decide +kernel
theorem dX12_behind_135 : decode cX12_behind 135 = .ok (.iconst 1, 1) := by decide +kernel
theorem dX12_behind_136 : decode cX12_behind 136 = .ok (.isub, 1) := by decide +kernel
theorem dX12_behind_137 : decode cX12_behind 137 = .ok (.putfield 410, 3) := by decide +kernel
theorem dX12_behind_140 : decode cX12_behind 140 = .ok (.aload_n 0, 1) := by decide +kernel
theorem dX12_behind_141 : decode cX12_behind 141 = .ok (.invokevirtual 179, 3) := by decide +kernel
theorem dX12_behind_144 : decode cX12_behind 144 = .ok (.iconst 1, 1) := by decide +kernel
theorem dX12_behind_145 : decode cX12_behind 145 = .ok (.ireturn, 1) := by decide +kernel
theorem dX12_sentence_0 : decode cX12_sentence 0 = .ok (.aload_n 0, 1) := by decide +kernel
theorem dX12_sentence_1 : decode cX12_sentence 1 = .ok (.iconst 0, 1) := by decide +kernel
theorem dX12_sentence_2 : decode cX12_sentence 2 = .ok (.putfield 1, 3) := by decide +kernel
theorem dX12_sentence_5 : decode cX12_sentence 5 = .ok (.aload_n 0, 1) := by decide +kernel
theorem dX12_sentence_6 : decode cX12_sentence 6 = .ok (.sipush 200, 3) := by decide +kernel
theorem dX12_sentence_9 : decode cX12_sentence 9 = .ok (.invokevirtual 233, 3) := by decide +kernel
theorem dX12_sentence_12 : decode cX12_sentence 12 = .ok (.aload_n 0, 1) := by decide +kernel
theorem dX12_sentence_13 : decode cX12_sentence 13 = .ok (.iconst 0, 1) := by decide +kernel
theorem dX12_sentence_14 : decode cX12_sentence 14 = .ok (.putfield 167, 3) := by decide +kernel
theorem dX12_sentence_17 : decode cX12_sentence 17 = .ok (.aload_n 0, 1) := by decide +kernel
theorem dX12_sentence_18 : decode cX12_sentence 18 = .ok (.iconst 0, 1) := by decide +kernel
theorem dX12_sentence_19 : decode cX12_sentence 19 = .ok (.putfield 400, 3) := by decide +kernel
theorem dX12_sentence_22 : decode cX12_sentence 22 = .ok (.aload_n 0, 1) := by decide +kernel
theorem dX12_sentence_23 : decode cX12_sentence 23 = .ok (.iconst 0, 1) := by decide +kernel
theorem dX12_sentence_24 : decode cX12_sentence 24 = .ok (.putfield 416, 3) := by decide +kernel
theorem dX12_sentence_27 : decode cX12_sentence 27 = .ok (.aload_n 0, 1) := by decide +kernel
theorem dX12_sentence_28 : decode cX12_sentence 28 = .ok (.iconst 0, 1) := by decide +kernel
theorem dX12_sentence_29 : decode cX12_sentence 29 = .ok (.putfield 403, 3) := by decide +kernel
theorem dX12_sentence_32 : decode cX12_sentence 32 = .ok (.aload_n 0, 1) := by decide +kernel
theorem dX12_sentence_33 : decode cX12_sentence 33 = .ok (.iconst 1, 1) := by decide +kernel
theorem dX12_sentence_34 : decode cX12_sentence 34 = .ok (.putfield 410, 3) := by decide +kernel
theorem dX12_sentence_37 : decode cX12_sentence 37 = .ok (.aload_n 0, 1) := by decide +kernel
theorem dX12_sentence_38 : decode cX12_sentence 38 = .ok (.iconst 0, 1) := by decide +kernel
theorem dX12_sentence_39 : decode cX12_sentence 39 = .ok (.putfield 419, 3) := by decide +kernel
theorem dX12_sentence_42 : decode cX12_sentence 42 = .ok (.aload_n 0, 1) := by decide +kernel
theorem dX12_sentence_43 : decode cX12_sentence 43 = .ok (.invokevirtual 179, 3) := by decide +kernel
theorem dX12_sentence_46 : decode cX12_sentence 46 = .ok (.iconst 1, 1) := by decide +kernel
theorem dX12_sentence_47 : decode cX12_sentence 47 = .ok (.istore_n 1, 1) := by decide +kernel
theorem dX12_sentence_48 : decode cX12_sentence 48 = .ok (.iload_n 1, 1) := by decide +kernel
theorem dX12_sentence_49 : decode cX12_sentence 49 = .ok (.ifCond .eq 83, 3) := by decide +kernel
theorem dX12_sentence_52 : decode cX12_sentence 52 = .ok (.aload_n 0, 1) := by decide +kernel
theorem dX12_sentence_53 : decode cX12_sentence 53 = .ok (.getfield 419, 3) := by decide +kernel
theorem dX12_sentence_56 : decode cX12_sentence 56 = .ok (.ifCond .eq 45, 3) := by decide +kernel
theorem dX12_sentence_59 : decode cX12_sentence 59 = .ok (.aload_n 0, 1) := by decide +kernel
theorem dX12_sentence_60 : decode cX12_sentence 60 = .ok (.getfield 150, 3) := by decide +kernel
theorem dX12_sentence_63 : decode cX12_sentence 63 = .ok (.ifCond .ne 38, 3) := by decide +kernel
theorem dX12_sentence_66 : decode cX12_sentence 66 = .ok (.aload_n 0, 1) := by decide +kernel
theorem dX12_sentence_67 : decode cX12_sentence 67 = .ok (.invokevirtual 422, 3) := by decide +kernel
theorem dX12_sentence_70 : decode cX12_sentence 70 = .ok (.aload_n 0, 1) := by decide +kernel
theorem dX12_sentence_71 : decode cX12_sentence 71 = .ok (.bipush 22, 2) := by decide +kernel
theorem dX12_sentence_73 : decode cX12_sentence 73 = .ok (.invokevirtual 425, 3) := by decide +kernel
theorem dX12_sentence_76 : decode cX12_sentence 76 = .ok (.aload_n 0, 1) := by decide +kernel
theorem dX12_sentence_77 : decode cX12_sentence 77 = .ok (.getfield 403, 3) := by decide +kernel
theorem dX12_sentence_80 : decode cX12_sentence 80 = .ok (.ifCond .le 16, 3) := by decide +kernel
theorem dX12_sentence_83 : decode cX12_sentence 83 = .ok (.aload_n 0, 1) := by decide +kernel
theorem dX12_sentence_84 : decode cX12_sentence 84 = .ok (.iconst 1, 1) := by decide +kernel
theorem dX12_sentence_85 : decode cX12_sentence 85 = .ok (.invokevirtual 176, 3) := by decide +kernel
theorem dX12_sentence_88 : decode cX12_sentence 88 = .ok (.pop, 1) := by decide +kernel
theorem dX12_sentence_89 : decode cX12_sentence 89 = .ok (.iconst (-1), 1) := by decide +kernel
theorem dX12_sentence_90 : decode cX12_sentence 90 = .ok (.aload_n 0, 1) := by decide +kernel
theorem dX12_sentence_91 : decode cX12_sentence 91 = .ok (.getfield 170, 3) := by decide +kernel
theorem dX12_sentence_94 : decode cX12_sentence 94 = .ok (.isub, 1) := by decide +kernel
theorem dX12_sentence_95 : decode cX12_sentence 95 = .ok (.ireturn, 1) := by decide +kernel
theorem dX12_sentence_96 : decode cX12_sentence 96 = .ok (.iconst 0, 1) := by decide +kernel
theorem dX12_sentence_97 : decode cX12_sentence 97 = .ok (.istore_n 1, 1) := by decide +kernel
theorem dX12_sentence_98 : decode cX12_sentence 98 = .ok (.goto (-50), 3) := by decide +kernel
theorem dX12_sentence_101 : decode cX12_sentence 101 = .ok (.aload_n 0, 1) := by decide +kernel
theorem dX12_sentence_102 : decode cX12_sentence 102 = .ok (.getfield 419, 3) := by decide +kernel
theorem dX12_sentence_105 : decode cX12_sentence 105 = .ok (.ifCond .eq 13, 3) := by decide +kernel
theorem dX12_sentence_108 : decode cX12_sentence 108 = .ok (.aload_n 0, 1) := by decide +kernel
theorem dX12_sentence_109 : decode cX12_sentence 109 = .ok (.invokevirtual 428, 3) := by decide +kernel
theorem dX12_sentence_112 : decode cX12_sentence 112 = .ok (.ifCond .ne (-64), 3) := by decide +kernel
theorem dX12_sentence_115 : decode cX12_sentence 115 = .ok (.goto 10, 3) := by decide +kernel
theorem dX12_sentence_118 : decode cX12_sentence 118 = .ok (.aload_n 0, 1) := by decide +kernel
theorem dX12_sentence_119 : decode cX12_sentence 119 = .ok (.invokevirtual 431, 3) := by decide +kernel
theorem dX12_sentence_122 : decode cX12_sentence 122 = .ok (.ifCond .ne (-74), 3) := by decide +kernel
theorem dX12_sentence_125 : decode cX12_sentence 125 = .ok (.iconst (-1), 1) := by decide +kernel
theorem dX12_sentence_126 : decode cX12_sentence 126 = .ok (.aload_n 0, 1) := by decide +kernel
theorem dX12_sentence_127 : decode cX12_sentence 127 = .ok (.getfield 170, 3) := by decide +kernel
theorem dX12_sentence_130 : decode cX12_sentence 130 = .ok (.isub, 1) := by decide +kernel
theorem dX12_sentence_131 : decode cX12_sentence 131 = .ok (.ireturn, 1) := by decide +kernel
theorem dX12_sentence_132 : decode cX12_sentence 132 = .ok (.aload_n 0, 1) := by decide +kernel
theorem dX12_sentence_133 : decode cX12_sentence 133 = .ok (.getfield 33, 3) := by decide +kernel
theorem dX12_sentence_136 : decode cX12_sentence 136 = .ok (.bipush 92, 2) := by decide +kernel
theorem dX12_sentence_138 : decode cX12_sentence 138 = .ok (.aload_n 0, 1) := by decide +kernel
theorem dX12_sentence_139 : decode cX12_sentence 139 = .ok (.getfield 400, 3) := by decide +kernel
theorem dX12_sentence_142 : decode cX12_sentence 142 = .ok (.iastore, 1) := by decide +kernel
theorem dX12_sentence_143 : decode cX12_sentence 143 = .ok (.iconst 0, 1) := by decide +kernel
theorem dX12_sentence_144 : decode cX12_sentence 144 = .ok (.istore_n 2, 1) := by decide +kernel
theorem dX12_sentence_145 : decode cX12_sentence 145 = .ok (.iload_n 2, 1) := by decide +kernel
theorem dX12_sentence_146 : decode cX12_sentence 146 = .ok (.iconst 3, 1) := by decide +kernel
theorem dX12_sentence_147 : decode cX12_sentence 147 = .ok (.aload_n 0, 1) := by decide +kernel
theorem dX12_sentence_148 : decode cX12_sentence 148 = .ok (.getfield 400, 3) := by decide +kernel
theorem dX12_sentence_151 : decode cX12_sentence 151 = .ok (.imul, 1) := by decide +kernel
theorem dX12_sentence_152 : decode cX12_sentence 152 = .ok (.if_icmp .ge 24, 3) := by decide +kernel
theorem dX12_sentence_155 : decode cX12_sentence 155 = .ok (.aload_n 0, 1) := by decide +kernel
theorem dX12_sentence_156 : decode cX12_sentence 156 = .ok (.getfield 33, 3) := by decide +kernel
theorem dX12_sentence_159 : decode cX12_sentence 159 = .ok (.bipush 93, 2) := by decide +kernel
theorem dX12_sentence_161 : decode cX12_sentence 161 = .ok (.iload_n 2, 1) := by decide +kernel
theorem dX12_sentence_162 : decode cX12_sentence 162 = .ok (.iadd, 1) := by decide +kernel
theorem dX12_sentence_163 : decode cX12_sentence 163 = .ok (.aload_n 0, 1) := by decide +kernel
theorem dX12_sentence_164 : decode cX12_sentence 164 = .ok (.getfield 40, 3) := by decide +kernel
theorem dX12_sentence_167 : decode cX12_sentence 167 = .ok (.iload_n 2, 1) := by decide +kernel
theorem dX12_sentence_168 : decode cX12_sentence 168 = .ok (.iaload, 1) := by decide +kernel
theorem dX12_sentence_169 : decode cX12_sentence 169 = .ok (.iastore, 1) := by decide +kernel
theorem dX12_sentence_170 : decode cX12_sentence 170 = .ok (.iinc 2 1, 3) := by decide +kernel
theorem dX12_sentence_173 : decode cX12_sentence 173 = .ok (.goto (-28), 3) := by decide +kernel
theorem dX12_sentence_176 : decode cX12_sentence 176 = .ok (.aload_n 0, 1) := by decide +kernel
theorem dX12_sentence_177 : decode cX12_sentence 177 = .ok (.getfield 416, 3) := by decide +kernel
theorem dX12_sentence_180 : decode cX12_sentence 180 = .ok (.ireturn, 1) := by decide +kernel
theorem dX12_isLeaf_0 : decode cX12_isLeaf 0 = .ok (.iload_n 2, 1) := by decide +kernel
theorem dX12_isLeaf_1 : decode cX12_isLeaf 1 = .ok (.tableswitch 130 0 4 #[35, 41, 59, 86, 114], 35) := by decide +kernel
theorem dX12_isLeaf_36 : decode cX12_isLeaf 36 = .ok (.aload_n 0, 1) := by decide +kernel
theorem dX12_isLeaf_37 : decode cX12_isLeaf 37 = .ok (.iload_n 1, 1) := by decide +kernel
theorem dX12_isLeaf_38 : decode cX12_isLeaf 38 = .ok (.invokevirtual 251, 3) := by decide +kernel
theorem dX12_isLeaf_41 : decode cX12_isLeaf 41 = .ok (.ireturn, 1) := by decide +kernel
theorem dX12_isLeaf_42 : decode cX12_isLeaf 42 = .ok (.aload_n 0, 1) := by decide +kernel
theorem dX12_isLeaf_43 : decode cX12_isLeaf 43 = .ok (.getfield 33, 3) := by decide +kernel
theorem dX12_isLeaf_46 : decode cX12_isLeaf 46 = .ok (.bipush 78, 2) := by decide +kernel
theorem dX12_isLeaf_48 : decode cX12_isLeaf 48 = .ok (.iload_n 1, 1) := by decide +kernel
theorem dX12_isLeaf_49 : decode cX12_isLeaf 49 = .ok (.iadd, 1) := by decide +kernel
theorem dX12_isLeaf_50 : decode cX12_isLeaf 50 = .ok (.iaload, 1) := by decide +kernel
theorem dX12_isLeaf_51 : decode cX12_isLeaf 51 = .ok (.ifCond .le 7, 3) := by decide +kernel
theorem dX12_isLeaf_54 : decode cX12_isLeaf 54 = .ok (.iconst 1, 1) := by decide +kernel
theorem dX12_isLeaf_55 : decode cX12_isLeaf 55 = .ok (.goto 4, 3) := by decide +kernel
theorem dX12_isLeaf_58 : decode cX12_isLeaf 58 = .ok (.iconst 0, 1) := by decide +kernel
theorem dX12_isLeaf_59 : decode cX12_isLeaf 59 = .ok (.ireturn, 1) := by decide +kernel
theorem dX12_isLeaf_60 : decode cX12_isLeaf 60 = .ok (.aload_n 0, 1) := by decide +kernel
theorem dX12_isLeaf_61 : decode cX12_isLeaf 61 = .ok (.getfield 33, 3) := by decide +kernel
theorem dX12_isLeaf_64 : decode cX12_isLeaf 64 = .ok (.bipush 64, 2) := by decide +kernel
theorem dX12_isLeaf_66 : decode cX12_isLeaf 66 = .ok (.iload_n 1, 1) := by decide +kernel
theorem dX12_isLeaf_67 : decode cX12_isLeaf 67 = .ok (.iadd, 1) := by decide +kernel
theorem dX12_isLeaf_68 : decode cX12_isLeaf 68 = .ok (.iaload, 1) := by decide +kernel
theorem dX12_isLeaf_69 : decode cX12_isLeaf 69 = .ok (.aload_n 0, 1) := by decide +kernel
theorem dX12_isLeaf_70 : decode cX12_isLeaf 70 = .ok (.getfield 33, 3) := by decide +kernel
theorem dX12_isLeaf_73 : decode cX12_isLeaf 73 = .ok (.bipush 10, 2) := by decide +kernel
theorem dX12_isLeaf_75 : decode cX12_isLeaf 75 = .ok (.iload_n 1, 1) := by decide +kernel
theorem dX12_isLeaf_76 : decode cX12_isLeaf 76 = .ok (.iadd, 1) := by decide +kernel
theorem dX12_isLeaf_77 : decode cX12_isLeaf 77 = .ok (.iaload, 1) := by decide +kernel
theorem dX12_isLeaf_78 : decode cX12_isLeaf 78 = .ok (.if_icmp .lt 7, 3) := by decide +kernel
theorem dX12_isLeaf_81 : decode cX12_isLeaf 81 = .ok (.iconst 1, 1) := by decide +kernel
theorem dX12_isLeaf_82 : decode cX12_isLeaf 82 = .ok (.goto 4, 3) := by decide +kernel
theorem dX12_isLeaf_85 : decode cX12_isLeaf 85 = .ok (.iconst 0, 1) := by decide +kernel
theorem dX12_isLeaf_86 : decode cX12_isLeaf 86 = .ok (.ireturn, 1) := by decide +kernel
theorem dX12_isLeaf_87 : decode cX12_isLeaf 87 = .ok (.aload_n 0, 1) := by decide +kernel
theorem dX12_isLeaf_88 : decode cX12_isLeaf 88 = .ok (.getfield 33, 3) := by decide +kernel
theorem dX12_isLeaf_91 : decode cX12_isLeaf 91 = .ok (.bipush 56, 2) := by decide +kernel
theorem dX12_isLeaf_93 : decode cX12_isLeaf 93 = .ok (.iload_n 1, 1) := by decide +kernel
theorem dX12_isLeaf_94 : decode cX12_isLeaf 94 = .ok (.iadd, 1) := by decide +kernel
theorem dX12_isLeaf_95 : decode cX12_isLeaf 95 = .ok (.iaload, 1) := by decide +kernel
theorem dX12_isLeaf_96 : decode cX12_isLeaf 96 = .ok (.aload_n 0, 1) := by decide +kernel
theorem dX12_isLeaf_97 : decode cX12_isLeaf 97 = .ok (.getfield 33, 3) := by decide +kernel
theorem dX12_isLeaf_100 : decode cX12_isLeaf 100 = .ok (.bipush 56, 2) := by decide +kernel
theorem dX12_isLeaf_102 : decode cX12_isLeaf 102 = .ok (.iload 4, 2) := by decide +kernel
theorem dX12_isLeaf_104 : decode cX12_isLeaf 104 = .ok (.iadd, 1) := by decide +kernel
theorem dX12_isLeaf_105 : decode cX12_isLeaf 105 = .ok (.iaload, 1) := by decide +kernel
theorem dX12_isLeaf_106 : decode cX12_isLeaf 106 = .ok (.if_icmp .ne 7, 3) := by decide +kernel
theorem dX12_isLeaf_109 : decode cX12_isLeaf 109 = .ok (.iconst 1, 1) := by decide +kernel
theorem dX12_isLeaf_110 : decode cX12_isLeaf 110 = .ok (.goto 4, 3) := by decide +kernel
theorem dX12_isLeaf_113 : decode cX12_isLeaf 113 = .ok (.iconst 0, 1) := by decide +kernel
theorem dX12_isLeaf_114 : decode cX12_isLeaf 114 = .ok (.ireturn, 1) := by decide +kernel
theorem dX12_isLeaf_115 : decode cX12_isLeaf 115 = .ok (.aload_n 0, 1) := by decide +kernel
theorem dX12_isLeaf_116 : decode cX12_isLeaf 116 = .ok (.iload 4, 2) := by decide +kernel
theorem dX12_isLeaf_118 : decode cX12_isLeaf 118 = .ok (.invokevirtual 261, 3) := by decide +kernel
theorem dX12_isLeaf_121 : decode cX12_isLeaf 121 = .ok (.iload_n 1, 1) := by decide +kernel
theorem dX12_isLeaf_122 : decode cX12_isLeaf 122 = .ok (.if_icmp .ne 7, 3) := by decide +kernel
theorem dX12_isLeaf_125 : decode cX12_isLeaf 125 = .ok (.iconst 1, 1) := by decide +kernel
theorem dX12_isLeaf_126 : decode cX12_isLeaf 126 = .ok (.goto 4, 3) := by decide +kernel
theorem dX12_isLeaf_129 : decode cX12_isLeaf 129 = .ok (.iconst 0, 1) := by decide +kernel
theorem dX12_isLeaf_130 : decode cX12_isLeaf 130 = .ok (.ireturn, 1) := by decide +kernel
theorem dX12_isLeaf_131 : decode cX12_isLeaf 131 = .ok (.iload_n 2, 1) := by decide +kernel
theorem dX12_isLeaf_132 : decode cX12_isLeaf 132 = .ok (.iconst 5, 1) := by decide +kernel
theorem dX12_isLeaf_133 : decode cX12_isLeaf 133 = .ok (.if_icmp .ne 15, 3) := by decide +kernel
theorem dX12_isLeaf_136 : decode cX12_isLeaf 136 = .ok (.aload_n 0, 1) := by decide +kernel
theorem dX12_isLeaf_137 : decode cX12_isLeaf 137 = .ok (.getfield 33, 3) := by decide +kernel
theorem dX12_isLeaf_140 : decode cX12_isLeaf 140 = .ok (.bipush 49, 2) := by decide +kernel
theorem dX12_isLeaf_142 : decode cX12_isLeaf 142 = .ok (.iload_n 1, 1) := by decide +kernel
theorem dX12_isLeaf_143 : decode cX12_isLeaf 143 = .ok (.iadd, 1) := by decide +kernel
theorem dX12_isLeaf_144 : decode cX12_isLeaf 144 = .ok (.iaload, 1) := by decide +kernel
theorem dX12_isLeaf_145 : decode cX12_isLeaf 145 = .ok (.goto 40, 3) := by decide +kernel
theorem dX12_isLeaf_148 : decode cX12_isLeaf 148 = .ok (.iload_n 2, 1) := by decide +kernel
theorem dX12_isLeaf_149 : decode cX12_isLeaf 149 = .ok (.bipush 6, 2) := by decide +kernel
theorem dX12_isLeaf_151 : decode cX12_isLeaf 151 = .ok (.if_icmp .ne 15, 3) := by decide +kernel
theorem dX12_isLeaf_154 : decode cX12_isLeaf 154 = .ok (.aload_n 0, 1) := by decide +kernel
theorem dX12_isLeaf_155 : decode cX12_isLeaf 155 = .ok (.getfield 33, 3) := by decide +kernel
theorem dX12_isLeaf_158 : decode cX12_isLeaf 158 = .ok (.bipush 64, 2) := by decide +kernel
theorem dX12_isLeaf_160 : decode cX12_isLeaf 160 = .ok (.iload_n 1, 1) := by decide +kernel
theorem dX12_isLeaf_161 : decode cX12_isLeaf 161 = .ok (.iadd, 1) := by decide +kernel
theorem dX12_isLeaf_162 : decode cX12_isLeaf 162 = .ok (.iaload, 1) := by decide +kernel
theorem dX12_isLeaf_163 : decode cX12_isLeaf 163 = .ok (.goto 22, 3) := by decide +kernel
theorem dX12_isLeaf_166 : decode cX12_isLeaf 166 = .ok (.iload_n 2, 1) := by decide +kernel
theorem dX12_isLeaf_167 : decode cX12_isLeaf 167 = .ok (.bipush 7, 2) := by decide +kernel
theorem dX12_isLeaf_169 : decode cX12_isLeaf 169 = .ok (.if_icmp .ne 15, 3) := by decide +kernel
theorem dX12_isLeaf_172 : decode cX12_isLeaf 172 = .ok (.aload_n 0, 1) := by decide +kernel
theorem dX12_isLeaf_173 : decode cX12_isLeaf 173 = .ok (.getfield 33, 3) := by decide +kernel
theorem dX12_isLeaf_176 : decode cX12_isLeaf 176 = .ok (.bipush 71, 2) := by decide +kernel
theorem dX12_isLeaf_178 : decode cX12_isLeaf 178 = .ok (.iload_n 1, 1) := by decide +kernel
theorem dX12_isLeaf_179 : decode cX12_isLeaf 179 = .ok (.iadd, 1) := by decide +kernel
theorem dX12_isLeaf_180 : decode cX12_isLeaf 180 = .ok (.iaload, 1) := by decide +kernel
theorem dX12_isLeaf_181 : decode cX12_isLeaf 181 = .ok (.goto 4, 3) := by decide +kernel
theorem dX12_isLeaf_184 : decode cX12_isLeaf 184 = .ok (.iload_n 1, 1) := by decide +kernel
theorem dX12_isLeaf_185 : decode cX12_isLeaf 185 = .ok (.istore 5, 2) := by decide +kernel
theorem dX12_isLeaf_187 : decode cX12_isLeaf 187 = .ok (.iload_n 3, 1) := by decide +kernel
theorem dX12_isLeaf_188 : decode cX12_isLeaf 188 = .ok (.bipush 60, 2) := by decide +kernel
theorem dX12_isLeaf_190 : decode cX12_isLeaf 190 = .ok (.if_icmp .ne 18, 3) := by decide +kernel
theorem dX12_isLeaf_193 : decode cX12_isLeaf 193 = .ok (.iload 5, 2) := by decide +kernel
theorem dX12_isLeaf_195 : decode cX12_isLeaf 195 = .ok (.iload 4, 2) := by decide +kernel
theorem dX12_isLeaf_197 : decode cX12_isLeaf 197 = .ok (.if_icmp .ge 7, 3) := by decide +kernel
theorem dX12_isLeaf_200 : decode cX12_isLeaf 200 = .ok (.iconst 1, 1) := by decide +kernel
theorem dX12_isLeaf_201 : decode cX12_isLeaf 201 = .ok (.goto 40, 3) := by decide +kernel
theorem dX12_isLeaf_204 : decode cX12_isLeaf 204 = .ok (.iconst 0, 1) := by decide +kernel
theorem dX12_isLeaf_205 : decode cX12_isLeaf 205 = .ok (.goto 36, 3) := by decide +kernel
theorem dX12_isLeaf_208 : decode cX12_isLeaf 208 = .ok (.iload_n 3, 1) := by decide +kernel
theorem dX12_isLeaf_209 : decode cX12_isLeaf 209 = .ok (.bipush 61, 2) := by decide +kernel
theorem dX12_isLeaf_211 : decode cX12_isLeaf 211 = .ok (.if_icmp .ne 18, 3) := by decide +kernel
theorem dX12_isLeaf_214 : decode cX12_isLeaf 214 = .ok (.iload 5, 2) := by decide +kernel
theorem dX12_isLeaf_216 : decode cX12_isLeaf 216 = .ok (.iload 4, 2) := by decide +kernel
theorem dX12_isLeaf_218 : decode cX12_isLeaf 218 = .ok (.if_icmp .ne 7, 3) := by decide +kernel
theorem dX12_isLeaf_221 : decode cX12_isLeaf 221 = .ok (.iconst 1, 1) := by decide +kernel
theorem dX12_isLeaf_222 : decode cX12_isLeaf 222 = .ok (.goto 19, 3) := by decide +kernel
theorem dX12_isLeaf_225 : decode cX12_isLeaf 225 = .ok (.iconst 0, 1) := by decide +kernel
theorem dX12_isLeaf_226 : decode cX12_isLeaf 226 = .ok (.goto 15, 3) := by decide +kernel
theorem dX12_isLeaf_229 : decode cX12_isLeaf 229 = .ok (.iload 5, 2) := by decide +kernel
theorem dX12_isLeaf_231 : decode cX12_isLeaf 231 = .ok (.iload 4, 2) := by decide +kernel
theorem dX12_isLeaf_233 : decode cX12_isLeaf 233 = .ok (.if_icmp .le 7, 3) := by decide +kernel
theorem dX12_isLeaf_236 : decode cX12_isLeaf 236 = .ok (.iconst 1, 1) := by decide +kernel
theorem dX12_isLeaf_237 : decode cX12_isLeaf 237 = .ok (.goto 4, 3) := by decide +kernel
theorem dX12_isLeaf_240 : decode cX12_isLeaf 240 = .ok (.iconst 0, 1) := by decide +kernel
theorem dX12_isLeaf_241 : decode cX12_isLeaf 241 = .ok (.ireturn, 1) := by decide +kernel
theorem dX12_isSaid_0 : decode cX12_isSaid 0 = .ok (.iconst 0, 1) := by decide +kernel
theorem dX12_isSaid_1 : decode cX12_isSaid 1 = .ok (.istore_n 2, 1) := by decide +kernel
theorem dX12_isSaid_2 : decode cX12_isSaid 2 = .ok (.iconst 0, 1) := by decide +kernel
theorem dX12_isSaid_3 : decode cX12_isSaid 3 = .ok (.istore_n 3, 1) := by decide +kernel
theorem dX12_isSaid_4 : decode cX12_isSaid 4 = .ok (.iload_n 3, 1) := by decide +kernel
theorem dX12_isSaid_5 : decode cX12_isSaid 5 = .ok (.aload_n 0, 1) := by decide +kernel
theorem dX12_isSaid_6 : decode cX12_isSaid 6 = .ok (.getfield 33, 3) := by decide +kernel
theorem dX12_isSaid_9 : decode cX12_isSaid 9 = .ok (.bipush 92, 2) := by decide +kernel
theorem dX12_isSaid_11 : decode cX12_isSaid 11 = .ok (.iaload, 1) := by decide +kernel
theorem dX12_isSaid_12 : decode cX12_isSaid 12 = .ok (.if_icmp .ge 198, 3) := by decide +kernel
theorem dX12_isSaid_15 : decode cX12_isSaid 15 = .ok (.bipush 93, 2) := by decide +kernel
theorem dX12_isSaid_17 : decode cX12_isSaid 17 = .ok (.iconst 3, 1) := by decide +kernel
theorem dX12_isSaid_18 : decode cX12_isSaid 18 = .ok (.iload_n 3, 1) := by decide +kernel
theorem dX12_isSaid_19 : decode cX12_isSaid 19 = .ok (.imul, 1) := by decide +kernel
theorem dX12_isSaid_20 : decode cX12_isSaid 20 = .ok (.iadd, 1) := by decide +kernel
theorem dX12_isSaid_21 : decode cX12_isSaid 21 = .ok (.istore 4, 2) := by decide +kernel
theorem dX12_isSaid_23 : decode cX12_isSaid 23 = .ok (.aload_n 0, 1) := by decide +kernel
theorem dX12_isSaid_24 : decode cX12_isSaid 24 = .ok (.getfield 33, 3) := by decide +kernel
theorem dX12_isSaid_27 : decode cX12_isSaid 27 = .ok (.iload 4, 2) := by decide +kernel
theorem dX12_isSaid_29 : decode cX12_isSaid 29 = .ok (.iaload, 1) := by decide +kernel
theorem dX12_isSaid_30 : decode cX12_isSaid 30 = .ok (.bipush 20, 2) := by decide +kernel
theorem dX12_isSaid_32 : decode cX12_isSaid 32 = .ok (.if_icmp .ne 30, 3) := by decide +kernel
theorem dX12_isSaid_35 : decode cX12_isSaid 35 = .ok (.aload_n 0, 1) := by decide +kernel
theorem dX12_isSaid_36 : decode cX12_isSaid 36 = .ok (.getfield 80, 3) := by decide +kernel
theorem dX12_isSaid_39 : decode cX12_isSaid 39 = .ok (.iload_n 2, 1) := by decide +kernel
theorem dX12_isSaid_40 : decode cX12_isSaid 40 = .ok (.iconst 1, 1) := by decide +kernel
theorem dX12_isSaid_41 : decode cX12_isSaid 41 = .ok (.isub, 1) := by decide +kernel
theorem dX12_isSaid_42 : decode cX12_isSaid 42 = .ok (.aload_n 0, 1) := by decide +kernel
theorem dX12_isSaid_43 : decode cX12_isSaid 43 = .ok (.getfield 80, 3) := by decide +kernel
theorem dX12_isSaid_46 : decode cX12_isSaid 46 = .ok (.iload_n 2, 1) := by decide +kernel
theorem dX12_isSaid_47 : decode cX12_isSaid 47 = .ok (.iconst 1, 1) := by decide +kernel
theorem dX12_isSaid_48 : decode cX12_isSaid 48 = .ok (.isub, 1) := by decide +kernel
theorem dX12_isSaid_49 : decode cX12_isSaid 49 = .ok (.baload, 1) := by decide +kernel
theorem dX12_isSaid_50 : decode cX12_isSaid 50 = .ok (.ifCond .ne 7, 3) := by decide +kernel
theorem dX12_isSaid_53 : decode cX12_isSaid 53 = .ok (.iconst 1, 1) := by decide +kernel
theorem dX12_isSaid_54 : decode cX12_isSaid 54 = .ok (.goto 4, 3) := by decide +kernel
theorem dX12_isSaid_57 : decode cX12_isSaid 57 = .ok (.iconst 0, 1) := by decide +kernel
theorem dX12_isSaid_58 : decode cX12_isSaid 58 = .ok (.bastore, 1) := by decide +kernel
theorem dX12_isSaid_59 : decode cX12_isSaid 59 = .ok (.goto 145, 3) := by decide +kernel
theorem dX12_isSaid_62 : decode cX12_isSaid 62 = .ok (.aload_n 0, 1) := by decide +kernel
theorem dX12_isSaid_63 : decode cX12_isSaid 63 = .ok (.getfield 33, 3) := by decide +kernel
theorem dX12_isSaid_66 : decode cX12_isSaid 66 = .ok (.iload 4, 2) := by decide +kernel
theorem dX12_isSaid_68 : decode cX12_isSaid 68 = .ok (.iaload, 1) := by decide +kernel
theorem dX12_isSaid_69 : decode cX12_isSaid 69 = .ok (.bipush 21, 2) := by decide +kernel
theorem dX12_isSaid_71 : decode cX12_isSaid 71 = .ok (.if_icmp .eq 15, 3) := by decide +kernel
theorem dX12_isSaid_74 : decode cX12_isSaid 74 = .ok (.aload_n 0, 1) := by decide +kernel
theorem dX12_isSaid_75 : decode cX12_isSaid 75 = .ok (.getfield 33, 3) := by decide +kernel
theorem dX12_isSaid_78 : decode cX12_isSaid 78 = .ok (.iload 4, 2) := by decide +kernel
theorem dX12_isSaid_80 : decode cX12_isSaid 80 = .ok (.iaload, 1) := by decide +kernel
theorem dX12_isSaid_81 : decode cX12_isSaid 81 = .ok (.bipush 22, 2) := by decide +kernel
theorem dX12_isSaid_83 : decode cX12_isSaid 83 = .ok (.if_icmp .ne 82, 3) := by decide +kernel
theorem dX12_isSaid_86 : decode cX12_isSaid 86 = .ok (.iinc 2 (-1), 3) := by decide +kernel
theorem dX12_isSaid_89 : decode cX12_isSaid 89 = .ok (.aload_n 0, 1) := by decide +kernel
theorem dX12_isSaid_90 : decode cX12_isSaid 90 = .ok (.getfield 80, 3) := by decide +kernel
theorem dX12_isSaid_93 : decode cX12_isSaid 93 = .ok (.iload_n 2, 1) := by decide +kernel
theorem dX12_isSaid_94 : decode cX12_isSaid 94 = .ok (.iconst 1, 1) := by decide +kernel
theorem dX12_isSaid_95 : decode cX12_isSaid 95 = .ok (.isub, 1) := by decide +kernel
theorem dX12_isSaid_96 : decode cX12_isSaid 96 = .ok (.aload_n 0, 1) := by decide +kernel
theorem dX12_isSaid_97 : decode cX12_isSaid 97 = .ok (.getfield 33, 3) := by decide +kernel
theorem dX12_isSaid_100 : decode cX12_isSaid 100 = .ok (.iload 4, 2) := by decide +kernel
theorem dX12_isSaid_102 : decode cX12_isSaid 102 = .ok (.iaload, 1) := by decide +kernel
theorem dX12_isSaid_103 : decode cX12_isSaid 103 = .ok (.bipush 21, 2) := by decide +kernel
theorem dX12_isSaid_105 : decode cX12_isSaid 105 = .ok (.if_icmp .ne 31, 3) := by decide +kernel
theorem dX12_isSaid_108 : decode cX12_isSaid 108 = .ok (.aload_n 0, 1) := by decide +kernel
theorem dX12_isSaid_109 : decode cX12_isSaid 109 = .ok (.getfield 80, 3) := by decide +kernel
theorem dX12_isSaid_112 : decode cX12_isSaid 112 = .ok (.iload_n 2, 1) := by decide +kernel
theorem dX12_isSaid_113 : decode cX12_isSaid 113 = .ok (.iconst 1, 1) := by decide +kernel
theorem dX12_isSaid_114 : decode cX12_isSaid 114 = .ok (.isub, 1) := by decide +kernel
theorem dX12_isSaid_115 : decode cX12_isSaid 115 = .ok (.baload, 1) := by decide +kernel
theorem dX12_isSaid_116 : decode cX12_isSaid 116 = .ok (.ifCond .eq 16, 3) := by decide +kernel
theorem dX12_isSaid_119 : decode cX12_isSaid 119 = .ok (.aload_n 0, 1) := by decide +kernel
theorem dX12_isSaid_120 : decode cX12_isSaid 120 = .ok (.getfield 80, 3) := by decide +kernel
theorem dX12_isSaid_123 : decode cX12_isSaid 123 = .ok (.iload_n 2, 1) := by decide +kernel
theorem dX12_isSaid_124 : decode cX12_isSaid 124 = .ok (.baload, 1) := by decide +kernel
theorem dX12_isSaid_125 : decode cX12_isSaid 125 = .ok (.ifCond .eq 7, 3) := by decide +kernel
theorem dX12_isSaid_128 : decode cX12_isSaid 128 = .ok (.iconst 1, 1) := by decide +kernel
theorem dX12_isSaid_129 : decode cX12_isSaid 129 = .ok (.goto 32, 3) := by decide +kernel
theorem dX12_isSaid_132 : decode cX12_isSaid 132 = .ok (.iconst 0, 1) := by decide +kernel
theorem dX12_isSaid_133 : decode cX12_isSaid 133 = .ok (.goto 28, 3) := by decide +kernel
theorem dX12_isSaid_136 : decode cX12_isSaid 136 = .ok (.aload_n 0, 1) := by decide +kernel
theorem dX12_isSaid_137 : decode cX12_isSaid 137 = .ok (.getfield 80, 3) := by decide +kernel
theorem dX12_isSaid_140 : decode cX12_isSaid 140 = .ok (.iload_n 2, 1) := by decide +kernel
theorem dX12_isSaid_141 : decode cX12_isSaid 141 = .ok (.iconst 1, 1) := by decide +kernel
theorem dX12_isSaid_142 : decode cX12_isSaid 142 = .ok (.isub, 1) := by decide +kernel
theorem dX12_isSaid_143 : decode cX12_isSaid 143 = .ok (.baload, 1) := by decide +kernel
theorem dX12_isSaid_144 : decode cX12_isSaid 144 = .ok (.ifCond .ne 12, 3) := by decide +kernel
theorem dX12_isSaid_147 : decode cX12_isSaid 147 = .ok (.aload_n 0, 1) := by decide +kernel
theorem dX12_isSaid_148 : decode cX12_isSaid 148 = .ok (.getfield 80, 3) := by decide +kernel
theorem dX12_isSaid_151 : decode cX12_isSaid 151 = .ok (.iload_n 2, 1) := by decide +kernel
theorem dX12_isSaid_152 : decode cX12_isSaid 152 = .ok (.baload, 1) := by decide +kernel
theorem dX12_isSaid_153 : decode cX12_isSaid 153 = .ok (.ifCond .eq 7, 3) := by decide +kernel
theorem dX12_isSaid_156 : decode cX12_isSaid 156 = .ok (.iconst 1, 1) := by decide +kernel
theorem dX12_isSaid_157 : decode cX12_isSaid 157 = .ok (.goto 4, 3) := by decide +kernel
theorem dX12_isSaid_160 : decode cX12_isSaid 160 = .ok (.iconst 0, 1) := by decide +kernel
theorem dX12_isSaid_161 : decode cX12_isSaid 161 = .ok (.bastore, 1) := by decide +kernel
theorem dX12_isSaid_162 : decode cX12_isSaid 162 = .ok (.goto 42, 3) := by decide +kernel
theorem dX12_isSaid_165 : decode cX12_isSaid 165 = .ok (.aload_n 0, 1) := by decide +kernel
theorem dX12_isSaid_166 : decode cX12_isSaid 166 = .ok (.getfield 80, 3) := by decide +kernel
theorem dX12_isSaid_169 : decode cX12_isSaid 169 = .ok (.iload_n 2, 1) := by decide +kernel
theorem dX12_isSaid_170 : decode cX12_isSaid 170 = .ok (.aload_n 0, 1) := by decide +kernel
theorem dX12_isSaid_171 : decode cX12_isSaid 171 = .ok (.iload_n 1, 1) := by decide +kernel
theorem dX12_isSaid_172 : decode cX12_isSaid 172 = .ok (.aload_n 0, 1) := by decide +kernel
theorem dX12_isSaid_173 : decode cX12_isSaid 173 = .ok (.getfield 33, 3) := by decide +kernel
theorem dX12_isSaid_176 : decode cX12_isSaid 176 = .ok (.iload 4, 2) := by decide +kernel
theorem dX12_isSaid_178 : decode cX12_isSaid 178 = .ok (.iaload, 1) := by decide +kernel
theorem dX12_isSaid_179 : decode cX12_isSaid 179 = .ok (.aload_n 0, 1) := by decide +kernel
theorem dX12_isSaid_180 : decode cX12_isSaid 180 = .ok (.getfield 33, 3) := by decide +kernel
theorem dX12_isSaid_183 : decode cX12_isSaid 183 = .ok (.iload 4, 2) := by decide +kernel
theorem dX12_isSaid_185 : decode cX12_isSaid 185 = .ok (.iconst 1, 1) := by decide +kernel
theorem dX12_isSaid_186 : decode cX12_isSaid 186 = .ok (.iadd, 1) := by decide +kernel
theorem dX12_isSaid_187 : decode cX12_isSaid 187 = .ok (.iaload, 1) := by decide +kernel
theorem dX12_isSaid_188 : decode cX12_isSaid 188 = .ok (.aload_n 0, 1) := by decide +kernel
theorem dX12_isSaid_189 : decode cX12_isSaid 189 = .ok (.getfield 33, 3) := by decide +kernel
theorem dX12_isSaid_192 : decode cX12_isSaid 192 = .ok (.iload 4, 2) := by decide +kernel
theorem dX12_isSaid_194 : decode cX12_isSaid 194 = .ok (.iconst 2, 1) := by decide +kernel
theorem dX12_isSaid_195 : decode cX12_isSaid 195 = .ok (.iadd, 1) := by decide +kernel
theorem dX12_isSaid_196 : decode cX12_isSaid 196 = .ok (.iaload, 1) := by decide +kernel
theorem dX12_isSaid_197 : decode cX12_isSaid 197 = .ok (.invokevirtual 434, 3) := by decide +kernel
theorem dX12_isSaid_200 : decode cX12_isSaid 200 = .ok (.bastore, 1) := by decide +kernel
theorem dX12_isSaid_201 : decode cX12_isSaid 201 = .ok (.iinc 2 1, 3) := by decide +kernel
theorem dX12_isSaid_204 : decode cX12_isSaid 204 = .ok (.iinc 3 1, 3) := by decide +kernel
theorem dX12_isSaid_207 : decode cX12_isSaid 207 = .ok (.goto (-203), 3) := by decide +kernel
theorem dX12_isSaid_210 : decode cX12_isSaid 210 = .ok (.aload_n 0, 1) := by decide +kernel
theorem dX12_isSaid_211 : decode cX12_isSaid 211 = .ok (.getfield 80, 3) := by decide +kernel
theorem dX12_isSaid_214 : decode cX12_isSaid 214 = .ok (.iconst 0, 1) := by decide +kernel
theorem dX12_isSaid_215 : decode cX12_isSaid 215 = .ok (.baload, 1) := by decide +kernel
theorem dX12_isSaid_216 : decode cX12_isSaid 216 = .ok (.ireturn, 1) := by decide +kernel
theorem dX12_said_0 : decode cX12_said 0 = .ok (.aload_n 0, 1) := by decide +kernel
theorem dX12_said_1 : decode cX12_said 1 = .ok (.iconst 0, 1) := by decide +kernel
theorem dX12_said_2 : decode cX12_said 2 = .ok (.putfield 1, 3) := by decide +kernel
theorem dX12_said_5 : decode cX12_said 5 = .ok (.aload_n 0, 1) := by decide +kernel
theorem dX12_said_6 : decode cX12_said 6 = .ok (.getfield 33, 3) := by decide +kernel
theorem dX12_said_9 : decode cX12_said 9 = .ok (.bipush 92, 2) := by decide +kernel
theorem dX12_said_11 : decode cX12_said 11 = .ok (.iaload, 1) := by decide +kernel
theorem dX12_said_12 : decode cX12_said 12 = .ok (.ifCond .eq 8, 3) := by decide +kernel
theorem dX12_said_15 : decode cX12_said 15 = .ok (.iload_n 1, 1) := by decide +kernel
theorem dX12_said_16 : decode cX12_said 16 = .ok (.iconst (-1), 1) := by decide +kernel
theorem dX12_said_17 : decode cX12_said 17 = .ok (.if_icmp .ge 5, 3) := by decide +kernel
theorem dX12_said_20 : decode cX12_said 20 = .ok (.iconst (-1), 1) := by decide +kernel
theorem dX12_said_21 : decode cX12_said 21 = .ok (.ireturn, 1) := by decide +kernel
theorem dX12_said_22 : decode cX12_said 22 = .ok (.iconst 0, 1) := by decide +kernel
theorem dX12_said_23 : decode cX12_said 23 = .ok (.istore_n 2, 1) := by decide +kernel
theorem dX12_said_24 : decode cX12_said 24 = .ok (.iconst 0, 1) := by decide +kernel
theorem dX12_said_25 : decode cX12_said 25 = .ok (.istore_n 3, 1) := by decide +kernel
theorem dX12_said_26 : decode cX12_said 26 = .ok (.iload_n 3, 1) := by decide +kernel
theorem dX12_said_27 : decode cX12_said 27 = .ok (.aload_n 0, 1) := by decide +kernel
theorem dX12_said_28 : decode cX12_said 28 = .ok (.getfield 33, 3) := by decide +kernel
theorem dX12_said_31 : decode cX12_said 31 = .ok (.iconst 1, 1) := by decide +kernel
theorem dX12_said_32 : decode cX12_said 32 = .ok (.iaload, 1) := by decide +kernel
theorem dX12_said_33 : decode cX12_said 33 = .ok (.if_icmp .ge 30, 3) := by decide +kernel
theorem dX12_said_36 : decode cX12_said 36 = .ok (.aload_n 0, 1) := by decide +kernel
theorem dX12_said_37 : decode cX12_said 37 = .ok (.iload_n 3, 1) := by decide +kernel
theorem dX12_said_38 : decode cX12_said 38 = .ok (.invokevirtual 438, 3) := by decide +kernel
theorem dX12_said_41 : decode cX12_said 41 = .ok (.ifCond .ne 6, 3) := by decide +kernel
theorem dX12_said_44 : decode cX12_said 44 = .ok (.goto 13, 3) := by decide +kernel
theorem dX12_said_47 : decode cX12_said 47 = .ok (.iload_n 2, 1) := by decide +kernel
theorem dX12_said_48 : decode cX12_said 48 = .ok (.iload_n 1, 1) := by decide +kernel
theorem dX12_said_49 : decode cX12_said 49 = .ok (.if_icmp .ne 5, 3) := by decide +kernel
theorem dX12_said_52 : decode cX12_said 52 = .ok (.iload_n 3, 1) := by decide +kernel
theorem dX12_said_53 : decode cX12_said 53 = .ok (.ireturn, 1) := by decide +kernel
theorem dX12_said_54 : decode cX12_said 54 = .ok (.iinc 2 1, 3) := by decide +kernel
theorem dX12_said_57 : decode cX12_said 57 = .ok (.iinc 3 1, 3) := by decide +kernel
theorem dX12_said_60 : decode cX12_said 60 = .ok (.goto (-34), 3) := by decide +kernel
theorem dX12_said_63 : decode cX12_said 63 = .ok (.iload_n 1, 1) := by decide +kernel
theorem dX12_said_64 : decode cX12_said 64 = .ok (.iconst (-1), 1) := by decide +kernel
theorem dX12_said_65 : decode cX12_said 65 = .ok (.if_icmp .ne 7, 3) := by decide +kernel
theorem dX12_said_68 : decode cX12_said 68 = .ok (.iload_n 2, 1) := by decide +kernel
theorem dX12_said_69 : decode cX12_said 69 = .ok (.goto 4, 3) := by decide +kernel
theorem dX12_said_72 : decode cX12_said 72 = .ok (.iconst (-1), 1) := by decide +kernel
theorem dX12_said_73 : decode cX12_said 73 = .ok (.ireturn, 1) := by decide +kernel
theorem dX12_image_0 : decode cX12_image 0 = .ok (.aload_n 0, 1) := by decide +kernel
theorem dX12_image_1 : decode cX12_image 1 = .ok (.iconst 0, 1) := by decide +kernel
theorem dX12_image_2 : decode cX12_image 2 = .ok (.putfield 1, 3) := by decide +kernel
theorem dX12_image_5 : decode cX12_image 5 = .ok (.iload_n 1, 1) := by decide +kernel
theorem dX12_image_6 : decode cX12_image 6 = .ok (.iconst 0, 1) := by decide +kernel
theorem dX12_image_7 : decode cX12_image 7 = .ok (.iconst 1, 1) := by decide +kernel
theorem dX12_image_8 : decode cX12_image 8 = .ok (.invokestatic 182, 3) := by decide +kernel
theorem dX12_image_11 : decode cX12_image 11 = .ok (.ifCond .ne 5, 3) := by decide +kernel
theorem dX12_image_14 : decode cX12_image 14 = .ok (.iconst 0, 1) := by decide +kernel
theorem dX12_image_15 : decode cX12_image 15 = .ok (.ireturn, 1) := by decide +kernel
theorem dX12_image_16 : decode cX12_image 16 = .ok (.iconst 0, 1) := by decide +kernel
theorem dX12_image_17 : decode cX12_image 17 = .ok (.istore_n 2, 1) := by decide +kernel
theorem dX12_image_18 : decode cX12_image 18 = .ok (.iload_n 2, 1) := by decide +kernel
theorem dX12_image_19 : decode cX12_image 19 = .ok (.sipush 273, 3) := by decide +kernel
theorem dX12_image_22 : decode cX12_image 22 = .ok (.if_icmp .ge 27, 3) := by decide +kernel
theorem dX12_image_25 : decode cX12_image 25 = .ok (.aload_n 0, 1) := by decide +kernel
theorem dX12_image_26 : decode cX12_image 26 = .ok (.getfield 84, 3) := by decide +kernel
theorem dX12_image_29 : decode cX12_image 29 = .ok (.sipush 273, 3) := by decide +kernel
theorem dX12_image_32 : decode cX12_image 32 = .ok (.iload_n 1, 1) := by decide +kernel
theorem dX12_image_33 : decode cX12_image 33 = .ok (.imul, 1) := by decide +kernel
theorem dX12_image_34 : decode cX12_image 34 = .ok (.iload_n 2, 1) := by decide +kernel
theorem dX12_image_35 : decode cX12_image 35 = .ok (.iadd, 1) := by decide +kernel
theorem dX12_image_36 : decode cX12_image 36 = .ok (.aload_n 0, 1) := by decide +kernel
theorem dX12_image_37 : decode cX12_image 37 = .ok (.getfield 33, 3) := by decide +kernel
theorem dX12_image_40 : decode cX12_image 40 = .ok (.iload_n 2, 1) := by decide +kernel
theorem dX12_image_41 : decode cX12_image 41 = .ok (.iaload, 1) := by decide +kernel
theorem dX12_image_42 : decode cX12_image 42 = .ok (.iastore, 1) := by decide +kernel
theorem dX12_image_43 : decode cX12_image 43 = .ok (.iinc 2 1, 3) := by decide +kernel
theorem dX12_image_46 : decode cX12_image 46 = .ok (.goto (-28), 3) := by decide +kernel
theorem dX12_image_49 : decode cX12_image 49 = .ok (.iconst 0, 1) := by decide +kernel
theorem dX12_image_50 : decode cX12_image 50 = .ok (.istore_n 2, 1) := by decide +kernel
theorem dX12_image_51 : decode cX12_image 51 = .ok (.iload_n 2, 1) := by decide +kernel
theorem dX12_image_52 : decode cX12_image 52 = .ok (.bipush 13, 2) := by decide +kernel
theorem dX12_image_54 : decode cX12_image 54 = .ok (.if_icmp .ge 26, 3) := by decide +kernel
theorem dX12_image_57 : decode cX12_image 57 = .ok (.aload_n 0, 1) := by decide +kernel
theorem dX12_image_58 : decode cX12_image 58 = .ok (.getfield 87, 3) := by decide +kernel
theorem dX12_image_61 : decode cX12_image 61 = .ok (.bipush 13, 2) := by decide +kernel
theorem dX12_image_63 : decode cX12_image 63 = .ok (.iload_n 1, 1) := by decide +kernel
theorem dX12_image_64 : decode cX12_image 64 = .ok (.imul, 1) := by decide +kernel
theorem dX12_image_65 : decode cX12_image 65 = .ok (.iload_n 2, 1) := by decide +kernel
theorem dX12_image_66 : decode cX12_image 66 = .ok (.iadd, 1) := by decide +kernel
theorem dX12_image_67 : decode cX12_image 67 = .ok (.aload_n 0, 1) := by decide +kernel
theorem dX12_image_68 : decode cX12_image 68 = .ok (.getfield 43, 3) := by decide +kernel
theorem dX12_image_71 : decode cX12_image 71 = .ok (.iload_n 2, 1) := by decide +kernel
theorem dX12_image_72 : decode cX12_image 72 = .ok (.laload, 1) := by decide +kernel
theorem dX12_image_73 : decode cX12_image 73 = .ok (.lastore, 1) := by decide +kernel
theorem dX12_image_74 : decode cX12_image 74 = .ok (.iinc 2 1, 3) := by decide +kernel
theorem dX12_image_77 : decode cX12_image 77 = .ok (.goto (-26), 3) := by decide +kernel
theorem dX12_image_80 : decode cX12_image 80 = .ok (.aload_n 0, 1) := by decide +kernel
theorem dX12_image_81 : decode cX12_image 81 = .ok (.getfield 90, 3) := by decide +kernel
theorem dX12_image_84 : decode cX12_image 84 = .ok (.iload_n 1, 1) := by decide +kernel
theorem dX12_image_85 : decode cX12_image 85 = .ok (.iconst 1, 1) := by decide +kernel
theorem dX12_image_86 : decode cX12_image 86 = .ok (.bastore, 1) := by decide +kernel
theorem dX12_image_87 : decode cX12_image 87 = .ok (.iconst 1, 1) := by decide +kernel
theorem dX12_image_88 : decode cX12_image 88 = .ok (.ireturn, 1) := by decide +kernel
theorem dX12_restore_0 : decode cX12_restore 0 = .ok (.aload_n 0, 1) := by decide +kernel
theorem dX12_restore_1 : decode cX12_restore 1 = .ok (.iconst 0, 1) := by decide +kernel
theorem dX12_restore_2 : decode cX12_restore 2 = .ok (.putfield 1, 3) := by decide +kernel
theorem dX12_restore_5 : decode cX12_restore 5 = .ok (.iload_n 1, 1) := by decide +kernel
theorem dX12_restore_6 : decode cX12_restore 6 = .ok (.iconst 0, 1) := by decide +kernel
theorem dX12_restore_7 : decode cX12_restore 7 = .ok (.iconst 1, 1) := by decide +kernel
theorem dX12_restore_8 : decode cX12_restore 8 = .ok (.invokestatic 182, 3) := by decide +kernel
theorem dX12_restore_11 : decode cX12_restore 11 = .ok (.ifCond .eq 12, 3) := by decide +kernel
theorem dX12_restore_14 : decode cX12_restore 14 = .ok (.aload_n 0, 1) := by decide +kernel
theorem dX12_restore_15 : decode cX12_restore 15 = .ok (.getfield 90, 3) := by decide +kernel
theorem dX12_restore_18 : decode cX12_restore 18 = .ok (.iload_n 1, 1) := by decide +kernel
theorem dX12_restore_19 : decode cX12_restore 19 = .ok (.baload, 1) := by decide +kernel
theorem dX12_restore_20 : decode cX12_restore 20 = .ok (.ifCond .ne 5, 3) := by decide +kernel
theorem dX12_restore_23 : decode cX12_restore 23 = .ok (.iconst 0, 1) := by decide +kernel
theorem dX12_restore_24 : decode cX12_restore 24 = .ok (.ireturn, 1) := by decide +kernel
theorem dX12_restore_25 : decode cX12_restore 25 = .ok (.iconst 0, 1) := by decide +kernel
theorem dX12_restore_26 : decode cX12_restore 26 = .ok (.istore_n 2, 1) := by decide +kernel
theorem dX12_restore_27 : decode cX12_restore 27 = .ok (.iload_n 2, 1) := by decide +kernel
theorem dX12_restore_28 : decode cX12_restore 28 = .ok (.sipush 273, 3) := by decide +kernel
theorem dX12_restore_31 : decode cX12_restore 31 = .ok (.if_icmp .ge 27, 3) := by decide +kernel
theorem dX12_restore_34 : decode cX12_restore 34 = .ok (.aload_n 0, 1) := by decide +kernel
theorem dX12_restore_35 : decode cX12_restore 35 = .ok (.getfield 33, 3) := by decide +kernel
theorem dX12_restore_38 : decode cX12_restore 38 = .ok (.iload_n 2, 1) := by decide +kernel
theorem dX12_restore_39 : decode cX12_restore 39 = .ok (.aload_n 0, 1) := by decide +kernel
theorem dX12_restore_40 : decode cX12_restore 40 = .ok (.getfield 84, 3) := by decide +kernel
theorem dX12_restore_43 : decode cX12_restore 43 = .ok (.sipush 273, 3) := by decide +kernel
theorem dX12_restore_46 : decode cX12_restore 46 = .ok (.iload_n 1, 1) := by decide +kernel
theorem dX12_restore_47 : decode cX12_restore 47 = .ok (.imul, 1) := by decide +kernel
theorem dX12_restore_48 : decode cX12_restore 48 = .ok (.iload_n 2, 1) := by decide +kernel
theorem dX12_restore_49 : decode cX12_restore 49 = .ok (.iadd, 1) := by decide +kernel
theorem dX12_restore_50 : decode cX12_restore 50 = .ok (.iaload, 1) := by decide +kernel
theorem dX12_restore_51 : decode cX12_restore 51 = .ok (.iastore, 1) := by decide +kernel
theorem dX12_restore_52 : decode cX12_restore 52 = .ok (.iinc 2 1, 3) := by decide +kernel
theorem dX12_restore_55 : decode cX12_restore 55 = .ok (.goto (-28), 3) := by decide +kernel
theorem dX12_restore_58 : decode cX12_restore 58 = .ok (.iconst 0, 1) := by decide +kernel
theorem dX12_restore_59 : decode cX12_restore 59 = .ok (.istore_n 2, 1) := by decide +kernel
theorem dX12_restore_60 : decode cX12_restore 60 = .ok (.iload_n 2, 1) := by decide +kernel
theorem dX12_restore_61 : decode cX12_restore 61 = .ok (.bipush 13, 2) := by decide +kernel
theorem dX12_restore_63 : decode cX12_restore 63 = .ok (.if_icmp .ge 26, 3) := by decide +kernel
theorem dX12_restore_66 : decode cX12_restore 66 = .ok (.aload_n 0, 1) := by decide +kernel
theorem dX12_restore_67 : decode cX12_restore 67 = .ok (.getfield 43, 3) := by decide +kernel
theorem dX12_restore_70 : decode cX12_restore 70 = .ok (.iload_n 2, 1) := by decide +kernel
theorem dX12_restore_71 : decode cX12_restore 71 = .ok (.aload_n 0, 1) := by decide +kernel
theorem dX12_restore_72 : decode cX12_restore 72 = .ok (.getfield 87, 3) := by decide +kernel
theorem dX12_restore_75 : decode cX12_restore 75 = .ok (.bipush 13, 2) := by decide +kernel
theorem dX12_restore_77 : decode cX12_restore 77 = .ok (.iload_n 1, 1) := by decide +kernel
theorem dX12_restore_78 : decode cX12_restore 78 = .ok (.imul, 1) := by decide +kernel
theorem dX12_restore_79 : decode cX12_restore 79 = .ok (.iload_n 2, 1) := by decide +kernel
theorem dX12_restore_80 : decode cX12_restore 80 = .ok (.iadd, 1) := by decide +kernel
theorem dX12_restore_81 : decode cX12_restore 81 = .ok (.laload, 1) := by decide +kernel
theorem dX12_restore_82 : decode cX12_restore 82 = .ok (.lastore, 1) := by decide +kernel
theorem dX12_restore_83 : decode cX12_restore 83 = .ok (.iinc 2 1, 3) := by decide +kernel
theorem dX12_restore_86 : decode cX12_restore 86 = .ok (.goto (-26), 3) := by decide +kernel
theorem dX12_restore_89 : decode cX12_restore 89 = .ok (.aload_n 0, 1) := by decide +kernel
theorem dX12_restore_90 : decode cX12_restore 90 = .ok (.iconst 0, 1) := by decide +kernel
theorem dX12_restore_91 : decode cX12_restore 91 = .ok (.putfield 245, 3) := by decide +kernel
theorem dX12_restore_94 : decode cX12_restore 94 = .ok (.iconst 1, 1) := by decide +kernel
theorem dX12_restore_95 : decode cX12_restore 95 = .ok (.ireturn, 1) := by decide +kernel
theorem dX12_count_0 : decode cX12_count 0 = .ok (.aload_n 0, 1) := by decide +kernel
theorem dX12_count_1 : decode cX12_count 1 = .ok (.iconst 0, 1) := by decide +kernel
theorem dX12_count_2 : decode cX12_count 2 = .ok (.putfield 1, 3) := by decide +kernel
theorem dX12_count_5 : decode cX12_count 5 = .ok (.iload_n 1, 1) := by decide +kernel
theorem dX12_count_6 : decode cX12_count 6 = .ok (.iconst 3, 1) := by decide +kernel
theorem dX12_count_7 : decode cX12_count 7 = .ok (.if_icmp .ne 10, 3) := by decide +kernel
theorem dX12_count_10 : decode cX12_count 10 = .ok (.aload_n 0, 1) := by decide +kernel
theorem dX12_count_11 : decode cX12_count 11 = .ok (.getfield 7, 3) := by decide +kernel
theorem dX12_count_14 : decode cX12_count 14 = .ok (.goto 22, 3) := by decide +kernel
theorem dX12_count_17 : decode cX12_count 17 = .ok (.iload_n 1, 1) := by decide +kernel
theorem dX12_count_18 : decode cX12_count 18 = .ok (.iconst 0, 1) := by decide +kernel
theorem dX12_count_19 : decode cX12_count 19 = .ok (.iconst 2, 1) := by decide +kernel
theorem dX12_count_20 : decode cX12_count 20 = .ok (.invokestatic 182, 3) := by decide +kernel
theorem dX12_count_23 : decode cX12_count 23 = .ok (.ifCond .eq 12, 3) := by decide +kernel
theorem dX12_count_26 : decode cX12_count 26 = .ok (.aload_n 0, 1) := by decide +kernel
theorem dX12_count_27 : decode cX12_count 27 = .ok (.getfield 33, 3) := by decide +kernel
theorem dX12_count_30 : decode cX12_count 30 = .ok (.iload_n 1, 1) := by decide +kernel
theorem dX12_count_31 : decode cX12_count 31 = .ok (.iaload, 1) := by decide +kernel
theorem dX12_count_32 : decode cX12_count 32 = .ok (.goto 4, 3) := by decide +kernel
theorem dX12_count_35 : decode cX12_count 35 = .ok (.iconst (-1), 1) := by decide +kernel
theorem dX12_count_36 : decode cX12_count 36 = .ok (.ireturn, 1) := by decide +kernel
