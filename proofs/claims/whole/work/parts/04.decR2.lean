theorem dX12_newClause_500 : decode cX12_newClause 500 = .ok (.getfield 46, 3) := by decide +kernel
theorem dX12_newClause_503 : decode cX12_newClause 503 = .ok (.iload 7, 2) := by decide +kernel
theorem dX12_newClause_505 : decode cX12_newClause 505 = .ok (.iaload, 1) := by decide +kernel
theorem dX12_newClause_506 : decode cX12_newClause 506 = .ok (.istore 7, 2) := by decide +kernel
theorem dX12_newClause_508 : decode cX12_newClause 508 = .ok (.iinc 8 1, 3) := by decide +kernel
theorem dX12_newClause_511 : decode cX12_newClause 511 = .ok (.goto (-24), 3) := by decide +kernel
theorem dX12_newClause_514 : decode cX12_newClause 514 = .ok (.aload_n 0, 1) := by decide +kernel
theorem dX12_newClause_515 : decode cX12_newClause 515 = .ok (.getfield 46, 3) := by decide +kernel
theorem dX12_newClause_518 : decode cX12_newClause 518 = .ok (.iload 6, 2) := by decide +kernel
theorem dX12_newClause_520 : decode cX12_newClause 520 = .ok (.iload 7, 2) := by decide +kernel
theorem dX12_newClause_522 : decode cX12_newClause 522 = .ok (.iastore, 1) := by decide +kernel
theorem dX12_newClause_523 : decode cX12_newClause 523 = .ok (.iinc 6 (-1), 3) := by decide +kernel
theorem dX12_newClause_526 : decode cX12_newClause 526 = .ok (.goto (-60), 3) := by decide +kernel
theorem dX12_newClause_529 : decode cX12_newClause 529 = .ok (.aload_n 0, 1) := by decide +kernel
theorem dX12_newClause_530 : decode cX12_newClause 530 = .ok (.aload_n 0, 1) := by decide +kernel
theorem dX12_newClause_531 : decode cX12_newClause 531 = .ok (.getfield 370, 3) := by decide +kernel
theorem dX12_newClause_534 : decode cX12_newClause 534 = .ok (.ifCond .ne 10, 3) := by decide +kernel
theorem dX12_newClause_537 : decode cX12_newClause 537 = .ok (.iload 5, 2) := by decide +kernel
theorem dX12_newClause_539 : decode cX12_newClause 539 = .ok (.bipush 10, 2) := by decide +kernel
theorem dX12_newClause_541 : decode cX12_newClause 541 = .ok (.if_icmp .le 7, 3) := by decide +kernel
theorem dX12_newClause_544 : decode cX12_newClause 544 = .ok (.iconst 1, 1) := by decide +kernel
theorem dX12_newClause_545 : decode cX12_newClause 545 = .ok (.goto 4, 3) := by decide +kernel
theorem dX12_newClause_548 : decode cX12_newClause 548 = .ok (.iconst 0, 1) := by decide +kernel
theorem dX12_newClause_549 : decode cX12_newClause 549 = .ok (.putfield 370, 3) := by decide +kernel
theorem dX12_newClause_552 : decode cX12_newClause 552 = .ok (.aload_n 0, 1) := by decide +kernel
theorem dX12_newClause_553 : decode cX12_newClause 553 = .ok (.getfield 34, 3) := by decide +kernel
theorem dX12_newClause_556 : decode cX12_newClause 556 = .ok (.aload_n 0, 1) := by decide +kernel
theorem dX12_newClause_557 : decode cX12_newClause 557 = .ok (.getfield 445, 3) := by decide +kernel
theorem dX12_newClause_560 : decode cX12_newClause 560 = .ok (.iload 5, 2) := by decide +kernel
theorem dX12_newClause_562 : decode cX12_newClause 562 = .ok (.iastore, 1) := by decide +kernel
theorem dX12_newClause_563 : decode cX12_newClause 563 = .ok (.aload_n 0, 1) := by decide +kernel
theorem dX12_newClause_564 : decode cX12_newClause 564 = .ok (.dup, 1) := by decide +kernel
theorem dX12_newClause_565 : decode cX12_newClause 565 = .ok (.getfield 445, 3) := by decide +kernel
theorem dX12_newClause_568 : decode cX12_newClause 568 = .ok (.iconst 1, 1) := by decide +kernel
theorem dX12_newClause_569 : decode cX12_newClause 569 = .ok (.iadd, 1) := by decide +kernel
theorem dX12_newClause_570 : decode cX12_newClause 570 = .ok (.putfield 445, 3) := by decide +kernel
theorem dX12_newClause_573 : decode cX12_newClause 573 = .ok (.return_, 1) := by decide +kernel
theorem dX12_freeOf_0 : decode cX12_freeOf 0 = .ok (.aload_n 0, 1) := by decide +kernel
theorem dX12_freeOf_1 : decode cX12_freeOf 1 = .ok (.getfield 55, 3) := by decide +kernel
theorem dX12_freeOf_4 : decode cX12_freeOf 4 = .ok (.iload_n 1, 1) := by decide +kernel
theorem dX12_freeOf_5 : decode cX12_freeOf 5 = .ok (.iaload, 1) := by decide +kernel
theorem dX12_freeOf_6 : decode cX12_freeOf 6 = .ok (.istore_n 2, 1) := by decide +kernel
theorem dX12_freeOf_7 : decode cX12_freeOf 7 = .ok (.iload_n 2, 1) := by decide +kernel
theorem dX12_freeOf_8 : decode cX12_freeOf 8 = .ok (.aload_n 0, 1) := by decide +kernel
theorem dX12_freeOf_9 : decode cX12_freeOf 9 = .ok (.getfield 58, 3) := by decide +kernel
theorem dX12_freeOf_12 : decode cX12_freeOf 12 = .ok (.iload_n 1, 1) := by decide +kernel
theorem dX12_freeOf_13 : decode cX12_freeOf 13 = .ok (.iaload, 1) := by decide +kernel
theorem dX12_freeOf_14 : decode cX12_freeOf 14 = .ok (.if_icmp .ge 146, 3) := by decide +kernel
theorem dX12_freeOf_17 : decode cX12_freeOf 17 = .ok (.aload_n 0, 1) := by decide +kernel
theorem dX12_freeOf_18 : decode cX12_freeOf 18 = .ok (.getfield 64, 3) := by decide +kernel
theorem dX12_freeOf_21 : decode cX12_freeOf 21 = .ok (.iload_n 2, 1) := by decide +kernel
theorem dX12_freeOf_22 : decode cX12_freeOf 22 = .ok (.iaload, 1) := by decide +kernel
theorem dX12_freeOf_23 : decode cX12_freeOf 23 = .ok (.ifCond .lt 6, 3) := by decide +kernel
theorem dX12_freeOf_26 : decode cX12_freeOf 26 = .ok (.goto 128, 3) := by decide +kernel
theorem dX12_freeOf_29 : decode cX12_freeOf 29 = .ok (.iconst 0, 1) := by decide +kernel
theorem dX12_freeOf_30 : decode cX12_freeOf 30 = .ok (.istore_n 3, 1) := by decide +kernel
theorem dX12_freeOf_31 : decode cX12_freeOf 31 = .ok (.iconst 0, 1) := by decide +kernel
theorem dX12_freeOf_32 : decode cX12_freeOf 32 = .ok (.istore 4, 2) := by decide +kernel
theorem dX12_freeOf_34 : decode cX12_freeOf 34 = .ok (.iload 4, 2) := by decide +kernel
theorem dX12_freeOf_36 : decode cX12_freeOf 36 = .ok (.aload_n 0, 1) := by decide +kernel
theorem dX12_freeOf_37 : decode cX12_freeOf 37 = .ok (.getfield 373, 3) := by decide +kernel
theorem dX12_freeOf_40 : decode cX12_freeOf 40 = .ok (.if_icmp .ge 37, 3) := by decide +kernel
theorem dX12_freeOf_43 : decode cX12_freeOf 43 = .ok (.iload_n 3, 1) := by decide +kernel
theorem dX12_freeOf_44 : decode cX12_freeOf 44 = .ok (.ifCond .ne 21, 3) := by decide +kernel
theorem dX12_freeOf_47 : decode cX12_freeOf 47 = .ok (.aload_n 0, 1) := by decide +kernel
theorem dX12_freeOf_48 : decode cX12_freeOf 48 = .ok (.getfield 88, 3) := by decide +kernel
theorem dX12_freeOf_51 : decode cX12_freeOf 51 = .ok (.iload 4, 2) := by decide +kernel
theorem dX12_freeOf_53 : decode cX12_freeOf 53 = .ok (.iaload, 1) := by decide +kernel
theorem dX12_freeOf_54 : decode cX12_freeOf 54 = .ok (.iconst (-1), 1) := by decide +kernel
theorem dX12_freeOf_55 : decode cX12_freeOf 55 = .ok (.aload_n 0, 1) := by decide +kernel
theorem dX12_freeOf_56 : decode cX12_freeOf 56 = .ok (.getfield 64, 3) := by decide +kernel
theorem dX12_freeOf_59 : decode cX12_freeOf 59 = .ok (.iload_n 2, 1) := by decide +kernel
theorem dX12_freeOf_60 : decode cX12_freeOf 60 = .ok (.iaload, 1) := by decide +kernel
theorem dX12_freeOf_61 : decode cX12_freeOf 61 = .ok (.isub, 1) := by decide +kernel
theorem dX12_freeOf_62 : decode cX12_freeOf 62 = .ok (.if_icmp .ne 7, 3) := by decide +kernel
theorem dX12_freeOf_65 : decode cX12_freeOf 65 = .ok (.iconst 1, 1) := by decide +kernel
theorem dX12_freeOf_66 : decode cX12_freeOf 66 = .ok (.goto 4, 3) := by decide +kernel
theorem dX12_freeOf_69 : decode cX12_freeOf 69 = .ok (.iconst 0, 1) := by decide +kernel
theorem dX12_freeOf_70 : decode cX12_freeOf 70 = .ok (.istore_n 3, 1) := by decide +kernel
theorem dX12_freeOf_71 : decode cX12_freeOf 71 = .ok (.iinc 4 1, 3) := by decide +kernel
theorem dX12_freeOf_74 : decode cX12_freeOf 74 = .ok (.goto (-40), 3) := by decide +kernel
theorem dX12_freeOf_77 : decode cX12_freeOf 77 = .ok (.iconst 0, 1) := by decide +kernel
theorem dX12_freeOf_78 : decode cX12_freeOf 78 = .ok (.istore 4, 2) := by decide +kernel
theorem dX12_freeOf_80 : decode cX12_freeOf 80 = .ok (.iload 4, 2) := by decide +kernel
theorem dX12_freeOf_82 : decode cX12_freeOf 82 = .ok (.aload_n 0, 1) := by decide +kernel
theorem dX12_freeOf_83 : decode cX12_freeOf 83 = .ok (.getfield 457, 3) := by decide +kernel
theorem dX12_freeOf_86 : decode cX12_freeOf 86 = .ok (.if_icmp .ge 37, 3) := by decide +kernel
theorem dX12_freeOf_89 : decode cX12_freeOf 89 = .ok (.iload_n 3, 1) := by decide +kernel
theorem dX12_freeOf_90 : decode cX12_freeOf 90 = .ok (.ifCond .ne 21, 3) := by decide +kernel
theorem dX12_freeOf_93 : decode cX12_freeOf 93 = .ok (.aload_n 0, 1) := by decide +kernel
theorem dX12_freeOf_94 : decode cX12_freeOf 94 = .ok (.getfield 139, 3) := by decide +kernel
theorem dX12_freeOf_97 : decode cX12_freeOf 97 = .ok (.iload 4, 2) := by decide +kernel
theorem dX12_freeOf_99 : decode cX12_freeOf 99 = .ok (.iaload, 1) := by decide +kernel
theorem dX12_freeOf_100 : decode cX12_freeOf 100 = .ok (.iconst (-1), 1) := by decide +kernel
theorem dX12_freeOf_101 : decode cX12_freeOf 101 = .ok (.aload_n 0, 1) := by decide +kernel
theorem dX12_freeOf_102 : decode cX12_freeOf 102 = .ok (.getfield 64, 3) := by decide +kernel
theorem dX12_freeOf_105 : decode cX12_freeOf 105 = .ok (.iload_n 2, 1) := by decide +kernel
theorem dX12_freeOf_106 : decode cX12_freeOf 106 = .ok (.iaload, 1) := by decide +kernel
theorem dX12_freeOf_107 : decode cX12_freeOf 107 = .ok (.isub, 1) := by decide +kernel
theorem dX12_freeOf_108 : decode cX12_freeOf 108 = .ok (.if_icmp .ne 7, 3) := by decide +kernel
theorem dX12_freeOf_111 : decode cX12_freeOf 111 = .ok (.iconst 1, 1) := by decide +kernel
theorem dX12_freeOf_112 : decode cX12_freeOf 112 = .ok (.goto 4, 3) := by decide +kernel
theorem dX12_freeOf_115 : decode cX12_freeOf 115 = .ok (.iconst 0, 1) := by decide +kernel
theorem dX12_freeOf_116 : decode cX12_freeOf 116 = .ok (.istore_n 3, 1) := by decide +kernel
theorem dX12_freeOf_117 : decode cX12_freeOf 117 = .ok (.iinc 4 1, 3) := by decide +kernel
theorem dX12_freeOf_120 : decode cX12_freeOf 120 = .ok (.goto (-40), 3) := by decide +kernel
theorem dX12_freeOf_123 : decode cX12_freeOf 123 = .ok (.iload_n 3, 1) := by decide +kernel
theorem dX12_freeOf_124 : decode cX12_freeOf 124 = .ok (.ifCond .ne 30, 3) := by decide +kernel
theorem dX12_freeOf_127 : decode cX12_freeOf 127 = .ok (.aload_n 0, 1) := by decide +kernel
theorem dX12_freeOf_128 : decode cX12_freeOf 128 = .ok (.getfield 139, 3) := by decide +kernel
theorem dX12_freeOf_131 : decode cX12_freeOf 131 = .ok (.aload_n 0, 1) := by decide +kernel
theorem dX12_freeOf_132 : decode cX12_freeOf 132 = .ok (.getfield 457, 3) := by decide +kernel
theorem dX12_freeOf_135 : decode cX12_freeOf 135 = .ok (.iconst (-1), 1) := by decide +kernel
theorem dX12_freeOf_136 : decode cX12_freeOf 136 = .ok (.aload_n 0, 1) := by decide +kernel
theorem dX12_freeOf_137 : decode cX12_freeOf 137 = .ok (.getfield 64, 3) := by decide +kernel
theorem dX12_freeOf_140 : decode cX12_freeOf 140 = .ok (.iload_n 2, 1) := by decide +kernel
theorem dX12_freeOf_141 : decode cX12_freeOf 141 = .ok (.iaload, 1) := by decide +kernel
theorem dX12_freeOf_142 : decode cX12_freeOf 142 = .ok (.isub, 1) := by decide +kernel
theorem dX12_freeOf_143 : decode cX12_freeOf 143 = .ok (.iastore, 1) := by decide +kernel
theorem dX12_freeOf_144 : decode cX12_freeOf 144 = .ok (.aload_n 0, 1) := by decide +kernel
theorem dX12_freeOf_145 : decode cX12_freeOf 145 = .ok (.dup, 1) := by decide +kernel
theorem dX12_freeOf_146 : decode cX12_freeOf 146 = .ok (.getfield 457, 3) := by decide +kernel
theorem dX12_freeOf_149 : decode cX12_freeOf 149 = .ok (.iconst 1, 1) := by decide +kernel
theorem dX12_freeOf_150 : decode cX12_freeOf 150 = .ok (.iadd, 1) := by decide +kernel
theorem dX12_freeOf_151 : decode cX12_freeOf 151 = .ok (.putfield 457, 3) := by decide +kernel
theorem dX12_freeOf_154 : decode cX12_freeOf 154 = .ok (.iinc 2 1, 3) := by decide +kernel
theorem dX12_freeOf_157 : decode cX12_freeOf 157 = .ok (.goto (-150), 3) := by decide +kernel
theorem dX12_freeOf_160 : decode cX12_freeOf 160 = .ok (.return_, 1) := by decide +kernel
theorem dX12_free_0 : decode cX12_free 0 = .ok (.aload_n 0, 1) := by decide +kernel
theorem dX12_free_1 : decode cX12_free 1 = .ok (.iconst 0, 1) := by decide +kernel
theorem dX12_free_2 : decode cX12_free 2 = .ok (.putfield 301, 3) := by decide +kernel
theorem dX12_free_5 : decode cX12_free 5 = .ok (.aload_n 0, 1) := by decide +kernel
theorem dX12_free_6 : decode cX12_free 6 = .ok (.bipush 20, 2) := by decide +kernel
theorem dX12_free_8 : decode cX12_free 8 = .ok (.iload_n 1, 1) := by decide +kernel
theorem dX12_free_9 : decode cX12_free 9 = .ok (.invokevirtual 318, 3) := by decide +kernel
theorem dX12_free_12 : decode cX12_free 12 = .ok (.aload_n 0, 1) := by decide +kernel
theorem dX12_free_13 : decode cX12_free 13 = .ok (.getfield 301, 3) := by decide +kernel
theorem dX12_free_16 : decode cX12_free 16 = .ok (.ifCond .le 166, 3) := by decide +kernel
theorem dX12_free_19 : decode cX12_free 19 = .ok (.aload_n 0, 1) := by decide +kernel
theorem dX12_free_20 : decode cX12_free 20 = .ok (.dup, 1) := by decide +kernel
theorem dX12_free_21 : decode cX12_free 21 = .ok (.getfield 301, 3) := by decide +kernel
theorem dX12_free_24 : decode cX12_free 24 = .ok (.iconst 1, 1) := by decide +kernel
theorem dX12_free_25 : decode cX12_free 25 = .ok (.isub, 1) := by decide +kernel
theorem dX12_free_26 : decode cX12_free 26 = .ok (.putfield 301, 3) := by decide +kernel
theorem dX12_free_29 : decode cX12_free 29 = .ok (.aload_n 0, 1) := by decide +kernel
theorem dX12_free_30 : decode cX12_free 30 = .ok (.getfield 73, 3) := by decide +kernel
theorem dX12_free_33 : decode cX12_free 33 = .ok (.aload_n 0, 1) := by decide +kernel
theorem dX12_free_34 : decode cX12_free 34 = .ok (.getfield 301, 3) := by decide +kernel
theorem dX12_free_37 : decode cX12_free 37 = .ok (.iaload, 1) := by decide +kernel
theorem dX12_free_38 : decode cX12_free 38 = .ok (.istore_n 2, 1) := by decide +kernel
theorem dX12_free_39 : decode cX12_free 39 = .ok (.aload_n 0, 1) := by decide +kernel
theorem dX12_free_40 : decode cX12_free 40 = .ok (.getfield 70, 3) := by decide +kernel
theorem dX12_free_43 : decode cX12_free 43 = .ok (.aload_n 0, 1) := by decide +kernel
theorem dX12_free_44 : decode cX12_free 44 = .ok (.getfield 301, 3) := by decide +kernel
theorem dX12_free_47 : decode cX12_free 47 = .ok (.iaload, 1) := by decide +kernel
theorem dX12_free_48 : decode cX12_free 48 = .ok (.bipush 24, 2) := by decide +kernel
theorem dX12_free_50 : decode cX12_free 50 = .ok (.if_icmp .ne 16, 3) := by decide +kernel
theorem dX12_free_53 : decode cX12_free 53 = .ok (.aload_n 0, 1) := by decide +kernel
theorem dX12_free_54 : decode cX12_free 54 = .ok (.dup, 1) := by decide +kernel
theorem dX12_free_55 : decode cX12_free 55 = .ok (.getfield 373, 3) := by decide +kernel
theorem dX12_free_58 : decode cX12_free 58 = .ok (.iconst 1, 1) := by decide +kernel
theorem dX12_free_59 : decode cX12_free 59 = .ok (.isub, 1) := by decide +kernel
theorem dX12_free_60 : decode cX12_free 60 = .ok (.putfield 373, 3) := by decide +kernel
theorem dX12_free_63 : decode cX12_free 63 = .ok (.goto 116, 3) := by decide +kernel
theorem dX12_free_66 : decode cX12_free 66 = .ok (.aload_n 0, 1) := by decide +kernel
theorem dX12_free_67 : decode cX12_free 67 = .ok (.getfield 52, 3) := by decide +kernel
theorem dX12_free_70 : decode cX12_free 70 = .ok (.iload_n 2, 1) := by decide +kernel
theorem dX12_free_71 : decode cX12_free 71 = .ok (.iaload, 1) := by decide +kernel
theorem dX12_free_72 : decode cX12_free 72 = .ok (.bipush 15, 2) := by decide +kernel
theorem dX12_free_74 : decode cX12_free 74 = .ok (.if_icmp .ne 11, 3) := by decide +kernel
theorem dX12_free_77 : decode cX12_free 77 = .ok (.aload_n 0, 1) := by decide +kernel
theorem dX12_free_78 : decode cX12_free 78 = .ok (.iload_n 2, 1) := by decide +kernel
theorem dX12_free_79 : decode cX12_free 79 = .ok (.invokevirtual 460, 3) := by decide +kernel
theorem dX12_free_82 : decode cX12_free 82 = .ok (.goto 97, 3) := by decide +kernel
theorem dX12_free_85 : decode cX12_free 85 = .ok (.aload_n 0, 1) := by decide +kernel
theorem dX12_free_86 : decode cX12_free 86 = .ok (.getfield 52, 3) := by decide +kernel
theorem dX12_free_89 : decode cX12_free 89 = .ok (.iload_n 2, 1) := by decide +kernel
theorem dX12_free_90 : decode cX12_free 90 = .ok (.iaload, 1) := by decide +kernel
theorem dX12_free_91 : decode cX12_free 91 = .ok (.bipush 11, 2) := by decide +kernel
theorem dX12_free_93 : decode cX12_free 93 = .ok (.if_icmp .eq 14, 3) := by decide +kernel
theorem dX12_free_96 : decode cX12_free 96 = .ok (.aload_n 0, 1) := by decide +kernel
theorem dX12_free_97 : decode cX12_free 97 = .ok (.getfield 52, 3) := by decide +kernel
theorem dX12_free_100 : decode cX12_free 100 = .ok (.iload_n 2, 1) := by decide +kernel
theorem dX12_free_101 : decode cX12_free 101 = .ok (.iaload, 1) := by decide +kernel
theorem dX12_free_102 : decode cX12_free 102 = .ok (.bipush 12, 2) := by decide +kernel
theorem dX12_free_104 : decode cX12_free 104 = .ok (.if_icmp .ne 40, 3) := by decide +kernel
theorem dX12_free_107 : decode cX12_free 107 = .ok (.aload_n 0, 1) := by decide +kernel
theorem dX12_free_108 : decode cX12_free 108 = .ok (.aload_n 0, 1) := by decide +kernel
theorem dX12_free_109 : decode cX12_free 109 = .ok (.aload_n 0, 1) := by decide +kernel
theorem dX12_free_110 : decode cX12_free 110 = .ok (.getfield 61, 3) := by decide +kernel
theorem dX12_free_113 : decode cX12_free 113 = .ok (.iload_n 2, 1) := by decide +kernel
theorem dX12_free_114 : decode cX12_free 114 = .ok (.laload, 1) := by decide +kernel
theorem dX12_free_115 : decode cX12_free 115 = .ok (.invokevirtual 353, 3) := by decide +kernel
theorem dX12_free_118 : decode cX12_free 118 = .ok (.iconst 0, 1) := by decide +kernel
theorem dX12_free_119 : decode cX12_free 119 = .ok (.invokevirtual 382, 3) := by decide +kernel
theorem dX12_free_122 : decode cX12_free 122 = .ok (.aload_n 0, 1) := by decide +kernel
theorem dX12_free_123 : decode cX12_free 123 = .ok (.bipush 24, 2) := by decide +kernel
theorem dX12_free_125 : decode cX12_free 125 = .ok (.iconst 0, 1) := by decide +kernel
theorem dX12_free_126 : decode cX12_free 126 = .ok (.invokevirtual 318, 3) := by decide +kernel
theorem dX12_free_129 : decode cX12_free 129 = .ok (.aload_n 0, 1) := by decide +kernel
theorem dX12_free_130 : decode cX12_free 130 = .ok (.bipush 20, 2) := by decide +kernel
theorem dX12_free_132 : decode cX12_free 132 = .ok (.aload_n 0, 1) := by decide +kernel
theorem dX12_free_133 : decode cX12_free 133 = .ok (.getfield 55, 3) := by decide +kernel
theorem dX12_free_136 : decode cX12_free 136 = .ok (.iload_n 2, 1) := by decide +kernel
theorem dX12_free_137 : decode cX12_free 137 = .ok (.iaload, 1) := by decide +kernel
theorem dX12_free_138 : decode cX12_free 138 = .ok (.invokevirtual 318, 3) := by decide +kernel
theorem dX12_free_141 : decode cX12_free 141 = .ok (.goto 38, 3) := by decide +kernel
theorem dX12_free_144 : decode cX12_free 144 = .ok (.aload_n 0, 1) := by decide +kernel
theorem dX12_free_145 : decode cX12_free 145 = .ok (.getfield 52, 3) := by decide +kernel
theorem dX12_free_148 : decode cX12_free 148 = .ok (.iload_n 2, 1) := by decide +kernel
theorem dX12_free_149 : decode cX12_free 149 = .ok (.iaload, 1) := by decide +kernel
theorem dX12_free_150 : decode cX12_free 150 = .ok (.bipush 8, 2) := by decide +kernel
theorem dX12_free_152 : decode cX12_free 152 = .ok (.if_icmp .eq 15, 3) := by decide +kernel
theorem dX12_free_155 : decode cX12_free 155 = .ok (.aload_n 0, 1) := by decide +kernel
theorem dX12_free_156 : decode cX12_free 156 = .ok (.bipush 20, 2) := by decide +kernel
theorem dX12_free_158 : decode cX12_free 158 = .ok (.aload_n 0, 1) := by decide +kernel
theorem dX12_free_159 : decode cX12_free 159 = .ok (.getfield 58, 3) := by decide +kernel
theorem dX12_free_162 : decode cX12_free 162 = .ok (.iload_n 2, 1) := by decide +kernel
theorem dX12_free_163 : decode cX12_free 163 = .ok (.iaload, 1) := by decide +kernel
theorem dX12_free_164 : decode cX12_free 164 = .ok (.invokevirtual 318, 3) := by decide +kernel
theorem dX12_free_167 : decode cX12_free 167 = .ok (.aload_n 0, 1) := by decide +kernel
theorem dX12_free_168 : decode cX12_free 168 = .ok (.bipush 20, 2) := by decide +kernel
theorem dX12_free_170 : decode cX12_free 170 = .ok (.aload_n 0, 1) := by decide +kernel
theorem dX12_free_171 : decode cX12_free 171 = .ok (.getfield 55, 3) := by decide +kernel
theorem dX12_free_174 : decode cX12_free 174 = .ok (.iload_n 2, 1) := by decide +kernel
theorem dX12_free_175 : decode cX12_free 175 = .ok (.iaload, 1) := by decide +kernel
theorem dX12_free_176 : decode cX12_free 176 = .ok (.invokevirtual 318, 3) := by decide +kernel
theorem dX12_free_179 : decode cX12_free 179 = .ok (.goto (-167), 3) := by decide +kernel
theorem dX12_free_182 : decode cX12_free 182 = .ok (.return_, 1) := by decide +kernel
theorem dX12_become_0 : decode cX12_become 0 = .ok (.aload_n 0, 1) := by decide +kernel
theorem dX12_become_1 : decode cX12_become 1 = .ok (.aload_n 0, 1) := by decide +kernel
theorem dX12_become_2 : decode cX12_become 2 = .ok (.getfield 344, 3) := by decide +kernel
theorem dX12_become_5 : decode cX12_become 5 = .ok (.bipush 60, 2) := by decide +kernel
theorem dX12_become_7 : decode cX12_become 7 = .ok (.if_icmp .gt 13, 3) := by decide +kernel
theorem dX12_become_10 : decode cX12_become 10 = .ok (.aload_n 0, 1) := by decide +kernel
theorem dX12_become_11 : decode cX12_become 11 = .ok (.getfield 338, 3) := by decide +kernel
theorem dX12_become_14 : decode cX12_become 14 = .ok (.sipush 250, 3) := by decide +kernel
theorem dX12_become_17 : decode cX12_become 17 = .ok (.if_icmp .le 7, 3) := by decide +kernel
theorem dX12_become_20 : decode cX12_become 20 = .ok (.iconst 1, 1) := by decide +kernel
theorem dX12_become_21 : decode cX12_become 21 = .ok (.goto 4, 3) := by decide +kernel
theorem dX12_become_24 : decode cX12_become 24 = .ok (.iconst 0, 1) := by decide +kernel
theorem dX12_become_25 : decode cX12_become 25 = .ok (.putfield 370, 3) := by decide +kernel
theorem dX12_become_28 : decode cX12_become 28 = .ok (.aload_n 0, 1) := by decide +kernel
theorem dX12_become_29 : decode cX12_become 29 = .ok (.getfield 370, 3) := by decide +kernel
theorem dX12_become_32 : decode cX12_become 32 = .ok (.ifCond .eq 4, 3) := by decide +kernel
theorem dX12_become_35 : decode cX12_become 35 = .ok (.return_, 1) := by decide +kernel
theorem dX12_become_36 : decode cX12_become 36 = .ok (.aload_n 0, 1) := by decide +kernel
theorem dX12_become_37 : decode cX12_become 37 = .ok (.aload_n 0, 1) := by decide +kernel
theorem dX12_become_38 : decode cX12_become 38 = .ok (.getfield 388, 3) := by decide +kernel
theorem dX12_become_41 : decode cX12_become 41 = .ok (.putfield 391, 3) := by decide +kernel
theorem dX12_become_44 : decode cX12_become 44 = .ok (.aload_n 0, 1) := by decide +kernel
theorem dX12_become_45 : decode cX12_become 45 = .ok (.iconst 0, 1) := by decide +kernel
theorem dX12_become_46 : decode cX12_become 46 = .ok (.putfield 373, 3) := by decide +kernel
theorem dX12_become_49 : decode cX12_become 49 = .ok (.aload_n 0, 1) := by decide +kernel
theorem dX12_become_50 : decode cX12_become 50 = .ok (.iconst 0, 1) := by decide +kernel
theorem dX12_become_51 : decode cX12_become 51 = .ok (.putfield 457, 3) := by decide +kernel
theorem dX12_become_54 : decode cX12_become 54 = .ok (.aload_n 0, 1) := by decide +kernel
theorem dX12_become_55 : decode cX12_become 55 = .ok (.iload_n 1, 1) := by decide +kernel
theorem dX12_become_56 : decode cX12_become 56 = .ok (.invokevirtual 463, 3) := by decide +kernel
theorem dX12_become_59 : decode cX12_become 59 = .ok (.aload_n 0, 1) := by decide +kernel
theorem dX12_become_60 : decode cX12_become 60 = .ok (.aload_n 0, 1) := by decide +kernel
theorem dX12_become_61 : decode cX12_become 61 = .ok (.getfield 457, 3) := by decide +kernel
theorem dX12_become_64 : decode cX12_become 64 = .ok (.putfield 376, 3) := by decide +kernel
theorem dX12_become_67 : decode cX12_become 67 = .ok (.aload_n 0, 1) := by decide +kernel
theorem dX12_become_68 : decode cX12_become 68 = .ok (.iconst 0, 1) := by decide +kernel
theorem dX12_become_69 : decode cX12_become 69 = .ok (.putfield 379, 3) := by decide +kernel
theorem dX12_become_72 : decode cX12_become 72 = .ok (.aload_n 0, 1) := by decide +kernel
theorem dX12_become_73 : decode cX12_become 73 = .ok (.iconst 0, 1) := by decide +kernel
theorem dX12_become_74 : decode cX12_become 74 = .ok (.putfield 385, 3) := by decide +kernel
theorem dX12_become_77 : decode cX12_become 77 = .ok (.aload_n 0, 1) := by decide +kernel
theorem dX12_become_78 : decode cX12_become 78 = .ok (.iconst 0, 1) := by decide +kernel
theorem dX12_become_79 : decode cX12_become 79 = .ok (.putfield 367, 3) := by decide +kernel
theorem dX12_become_82 : decode cX12_become 82 = .ok (.aload_n 0, 1) := by decide +kernel
theorem dX12_become_83 : decode cX12_become 83 = .ok (.iconst 0, 1) := by decide +kernel
theorem dX12_become_84 : decode cX12_become 84 = .ok (.putfield 417, 3) := by decide +kernel
theorem dX12_become_87 : decode cX12_become 87 = .ok (.iconst 0, 1) := by decide +kernel
theorem dX12_become_88 : decode cX12_become 88 = .ok (.istore_n 2, 1) := by decide +kernel
theorem dX12_become_89 : decode cX12_become 89 = .ok (.iload_n 2, 1) := by decide +kernel
theorem dX12_become_90 : decode cX12_become 90 = .ok (.aload_n 0, 1) := by decide +kernel
theorem dX12_become_91 : decode cX12_become 91 = .ok (.getfield 457, 3) := by decide +kernel
theorem dX12_become_94 : decode cX12_become 94 = .ok (.if_icmp .ge 56, 3) := by decide +kernel
theorem dX12_become_97 : decode cX12_become 97 = .ok (.aload_n 0, 1) := by decide +kernel
theorem dX12_become_98 : decode cX12_become 98 = .ok (.aload_n 0, 1) := by decide +kernel
theorem dX12_become_99 : decode cX12_become 99 = .ok (.getfield 139, 3) := by decide +kernel
theorem dX12_become_102 : decode cX12_become 102 = .ok (.iload_n 2, 1) := by decide +kernel
theorem dX12_become_103 : decode cX12_become 103 = .ok (.iaload, 1) := by decide +kernel
theorem dX12_become_104 : decode cX12_become 104 = .ok (.aload_n 0, 1) := by decide +kernel
theorem dX12_become_105 : decode cX12_become 105 = .ok (.getfield 379, 3) := by decide +kernel
theorem dX12_become_108 : decode cX12_become 108 = .ok (.invokevirtual 382, 3) := by decide +kernel
theorem dX12_become_111 : decode cX12_become 111 = .ok (.aload_n 0, 1) := by decide +kernel
theorem dX12_become_112 : decode cX12_become 112 = .ok (.getfield 97, 3) := by decide +kernel
theorem dX12_become_115 : decode cX12_become 115 = .ok (.aload_n 0, 1) := by decide +kernel
theorem dX12_become_116 : decode cX12_become 116 = .ok (.getfield 385, 3) := by decide +kernel
theorem dX12_become_119 : decode cX12_become 119 = .ok (.aload_n 0, 1) := by decide +kernel
theorem dX12_become_120 : decode cX12_become 120 = .ok (.getfield 379, 3) := by decide +kernel
theorem dX12_become_123 : decode cX12_become 123 = .ok (.iastore, 1) := by decide +kernel
theorem dX12_become_124 : decode cX12_become 124 = .ok (.aload_n 0, 1) := by decide +kernel
theorem dX12_become_125 : decode cX12_become 125 = .ok (.dup, 1) := by decide +kernel
theorem dX12_become_126 : decode cX12_become 126 = .ok (.getfield 379, 3) := by decide +kernel
theorem dX12_become_129 : decode cX12_become 129 = .ok (.iconst 1, 1) := by decide +kernel
theorem dX12_become_130 : decode cX12_become 130 = .ok (.iadd, 1) := by decide +kernel
theorem dX12_become_131 : decode cX12_become 131 = .ok (.putfield 379, 3) := by decide +kernel
theorem dX12_become_134 : decode cX12_become 134 = .ok (.aload_n 0, 1) := by decide +kernel
theorem dX12_become_135 : decode cX12_become 135 = .ok (.dup, 1) := by decide +kernel
theorem dX12_become_136 : decode cX12_become 136 = .ok (.getfield 385, 3) := by decide +kernel
theorem dX12_become_139 : decode cX12_become 139 = .ok (.iconst 1, 1) := by decide +kernel
theorem dX12_become_140 : decode cX12_become 140 = .ok (.iadd, 1) := by decide +kernel
theorem dX12_become_141 : decode cX12_become 141 = .ok (.putfield 385, 3) := by decide +kernel
theorem dX12_become_144 : decode cX12_become 144 = .ok (.iinc 2 1, 3) := by decide +kernel
theorem dX12_become_147 : decode cX12_become 147 = .ok (.goto (-58), 3) := by decide +kernel
theorem dX12_become_150 : decode cX12_become 150 = .ok (.aload_n 0, 1) := by decide +kernel
theorem dX12_become_151 : decode cX12_become 151 = .ok (.iload_n 1, 1) := by decide +kernel
theorem dX12_become_152 : decode cX12_become 152 = .ok (.invokevirtual 466, 3) := by decide +kernel
theorem dX12_become_155 : decode cX12_become 155 = .ok (.istore_n 2, 1) := by decide +kernel
theorem dX12_become_156 : decode cX12_become 156 = .ok (.aload_n 0, 1) := by decide +kernel
theorem dX12_become_157 : decode cX12_become 157 = .ok (.iconst 0, 1) := by decide +kernel
theorem dX12_become_158 : decode cX12_become 158 = .ok (.putfield 423, 3) := by decide +kernel
theorem dX12_become_161 : decode cX12_become 161 = .ok (.aload_n 0, 1) := by decide +kernel
theorem dX12_become_162 : decode cX12_become 162 = .ok (.iconst 0, 1) := by decide +kernel
theorem dX12_become_163 : decode cX12_become 163 = .ok (.putfield 426, 3) := by decide +kernel
theorem dX12_become_166 : decode cX12_become 166 = .ok (.aload_n 0, 1) := by decide +kernel
theorem dX12_become_167 : decode cX12_become 167 = .ok (.invokevirtual 469, 3) := by decide +kernel
theorem dX12_become_170 : decode cX12_become 170 = .ok (.aload_n 0, 1) := by decide +kernel
theorem dX12_become_171 : decode cX12_become 171 = .ok (.getfield 370, 3) := by decide +kernel
theorem dX12_become_174 : decode cX12_become 174 = .ok (.ifCond .ne 19, 3) := by decide +kernel
theorem dX12_become_177 : decode cX12_become 177 = .ok (.aload_n 0, 1) := by decide +kernel
theorem dX12_become_178 : decode cX12_become 178 = .ok (.getfield 445, 3) := by decide +kernel
theorem dX12_become_181 : decode cX12_become 181 = .ok (.aload_n 0, 1) := by decide +kernel
theorem dX12_become_182 : decode cX12_become 182 = .ok (.getfield 121, 3) := by decide +kernel
theorem dX12_become_185 : decode cX12_become 185 = .ok (.iload_n 2, 1) := by decide +kernel
theorem dX12_become_186 : decode cX12_become 186 = .ok (.iaload, 1) := by decide +kernel
theorem dX12_become_187 : decode cX12_become 187 = .ok (.iadd, 1) := by decide +kernel
theorem dX12_become_188 : decode cX12_become 188 = .ok (.bipush 100, 2) := by decide +kernel
theorem dX12_become_190 : decode cX12_become 190 = .ok (.if_icmp .le 9, 3) := by decide +kernel
theorem dX12_become_193 : decode cX12_become 193 = .ok (.aload_n 0, 1) := by decide +kernel
theorem dX12_become_194 : decode cX12_become 194 = .ok (.iconst 1, 1) := by decide +kernel
theorem dX12_become_195 : decode cX12_become 195 = .ok (.putfield 370, 3) := by decide +kernel
theorem dX12_become_198 : decode cX12_become 198 = .ok (.return_, 1) := by decide +kernel
theorem dX12_become_199 : decode cX12_become 199 = .ok (.iconst 0, 1) := by decide +kernel
theorem dX12_become_200 : decode cX12_become 200 = .ok (.istore_n 3, 1) := by decide +kernel
theorem dX12_become_201 : decode cX12_become 201 = .ok (.iload_n 3, 1) := by decide +kernel
theorem dX12_become_202 : decode cX12_become 202 = .ok (.aload_n 0, 1) := by decide +kernel
theorem dX12_become_203 : decode cX12_become 203 = .ok (.getfield 121, 3) := by decide +kernel
theorem dX12_become_206 : decode cX12_become 206 = .ok (.iload_n 2, 1) := by decide +kernel
theorem dX12_become_207 : decode cX12_become 207 = .ok (.iaload, 1) := by decide +kernel
theorem dX12_become_208 : decode cX12_become 208 = .ok (.if_icmp .ge 28, 3) := by decide +kernel
theorem dX12_become_211 : decode cX12_become 211 = .ok (.aload_n 0, 1) := by decide +kernel
theorem dX12_become_212 : decode cX12_become 212 = .ok (.getfield 370, 3) := by decide +kernel
theorem dX12_become_215 : decode cX12_become 215 = .ok (.ifCond .ne 21, 3) := by decide +kernel
theorem dX12_become_218 : decode cX12_become 218 = .ok (.aload_n 0, 1) := by decide +kernel
theorem dX12_become_219 : decode cX12_become 219 = .ok (.aload_n 0, 1) := by decide +kernel
theorem dX12_become_220 : decode cX12_become 220 = .ok (.getfield 118, 3) := by decide +kernel
theorem dX12_become_223 : decode cX12_become 223 = .ok (.iload_n 2, 1) := by decide +kernel
theorem dX12_become_224 : decode cX12_become 224 = .ok (.iaload, 1) := by decide +kernel
theorem dX12_become_225 : decode cX12_become 225 = .ok (.iload_n 3, 1) := by decide +kernel
theorem dX12_become_226 : decode cX12_become 226 = .ok (.iadd, 1) := by decide +kernel
theorem dX12_become_227 : decode cX12_become 227 = .ok (.invokevirtual 472, 3) := by decide +kernel
theorem dX12_become_230 : decode cX12_become 230 = .ok (.iinc 3 1, 3) := by decide +kernel
theorem dX12_become_233 : decode cX12_become 233 = .ok (.goto (-32), 3) := by decide +kernel
theorem dX12_become_236 : decode cX12_become 236 = .ok (.return_, 1) := by decide +kernel
theorem dX12_read_0 : decode cX12_read 0 = .ok (.aload_n 0, 1) := by decide +kernel
theorem dX12_read_1 : decode cX12_read 1 = .ok (.iconst 0, 1) := by decide +kernel
theorem dX12_read_2 : decode cX12_read 2 = .ok (.putfield 241, 3) := by decide +kernel
theorem dX12_read_5 : decode cX12_read 5 = .ok (.aload_n 0, 1) := by decide +kernel
theorem dX12_read_6 : decode cX12_read 6 = .ok (.getfield 344, 3) := by decide +kernel
theorem dX12_read_9 : decode cX12_read 9 = .ok (.istore_n 1, 1) := by decide +kernel
theorem dX12_read_10 : decode cX12_read 10 = .ok (.aload_n 0, 1) := by decide +kernel
theorem dX12_read_11 : decode cX12_read 11 = .ok (.getfield 388, 3) := by decide +kernel
theorem dX12_read_14 : decode cX12_read 14 = .ok (.istore_n 2, 1) := by decide +kernel
theorem dX12_read_15 : decode cX12_read 15 = .ok (.aload_n 0, 1) := by decide +kernel
theorem dX12_read_16 : decode cX12_read 16 = .ok (.getfield 445, 3) := by decide +kernel
theorem dX12_read_19 : decode cX12_read 19 = .ok (.istore_n 3, 1) := by decide +kernel
theorem dX12_read_20 : decode cX12_read 20 = .ok (.aload_n 0, 1) := by decide +kernel
theorem dX12_read_21 : decode cX12_read 21 = .ok (.getfield 448, 3) := by decide +kernel
theorem dX12_read_24 : decode cX12_read 24 = .ok (.istore 4, 2) := by decide +kernel
theorem dX12_read_26 : decode cX12_read 26 = .ok (.aload_n 0, 1) := by decide +kernel
theorem dX12_read_27 : decode cX12_read 27 = .ok (.getfield 451, 3) := by decide +kernel
theorem dX12_read_30 : decode cX12_read 30 = .ok (.istore 5, 2) := by decide +kernel
theorem dX12_read_32 : decode cX12_read 32 = .ok (.aload_n 0, 1) := by decide +kernel
theorem dX12_read_33 : decode cX12_read 33 = .ok (.iconst 0, 1) := by decide +kernel
theorem dX12_read_34 : decode cX12_read 34 = .ok (.putfield 252, 3) := by decide +kernel
theorem dX12_read_37 : decode cX12_read 37 = .ok (.aload_n 0, 1) := by decide +kernel
theorem dX12_read_38 : decode cX12_read 38 = .ok (.iconst (-1), 1) := by decide +kernel
theorem dX12_read_39 : decode cX12_read 39 = .ok (.putfield 255, 3) := by decide +kernel
theorem dX12_read_42 : decode cX12_read 42 = .ok (.aload_n 0, 1) := by decide +kernel
theorem dX12_read_43 : decode cX12_read 43 = .ok (.iconst 0, 1) := by decide +kernel
theorem dX12_read_44 : decode cX12_read 44 = .ok (.putfield 265, 3) := by decide +kernel
theorem dX12_read_47 : decode cX12_read 47 = .ok (.aload_n 0, 1) := by decide +kernel
theorem dX12_read_48 : decode cX12_read 48 = .ok (.iconst 0, 1) := by decide +kernel
theorem dX12_read_49 : decode cX12_read 49 = .ok (.putfield 258, 3) := by decide +kernel
theorem dX12_read_52 : decode cX12_read 52 = .ok (.aload_n 0, 1) := by decide +kernel
theorem dX12_read_53 : decode cX12_read 53 = .ok (.invokevirtual 288, 3) := by decide +kernel
theorem dX12_read_56 : decode cX12_read 56 = .ok (.ifCond .le 86, 3) := by decide +kernel
theorem dX12_read_59 : decode cX12_read 59 = .ok (.aload_n 0, 1) := by decide +kernel
theorem dX12_read_60 : decode cX12_read 60 = .ok (.getfield 272, 3) := by decide +kernel
theorem dX12_read_63 : decode cX12_read 63 = .ok (.istore 6, 2) := by decide +kernel
theorem dX12_read_65 : decode cX12_read 65 = .ok (.aload_n 0, 1) := by decide +kernel
theorem dX12_read_66 : decode cX12_read 66 = .ok (.iconst 0, 1) := by decide +kernel
theorem dX12_read_67 : decode cX12_read 67 = .ok (.putfield 295, 3) := by decide +kernel
theorem dX12_read_70 : decode cX12_read 70 = .ok (.aload_n 0, 1) := by decide +kernel
theorem dX12_read_71 : decode cX12_read 71 = .ok (.iconst 0, 1) := by decide +kernel
theorem dX12_read_72 : decode cX12_read 72 = .ok (.putfield 338, 3) := by decide +kernel
theorem dX12_read_75 : decode cX12_read 75 = .ok (.aload_n 0, 1) := by decide +kernel
theorem dX12_read_76 : decode cX12_read 76 = .ok (.iconst 0, 1) := by decide +kernel
theorem dX12_read_77 : decode cX12_read 77 = .ok (.putfield 347, 3) := by decide +kernel
theorem dX12_read_80 : decode cX12_read 80 = .ok (.aload_n 0, 1) := by decide +kernel
theorem dX12_read_81 : decode cX12_read 81 = .ok (.iconst 0, 1) := by decide +kernel
theorem dX12_read_82 : decode cX12_read 82 = .ok (.putfield 298, 3) := by decide +kernel
theorem dX12_read_85 : decode cX12_read 85 = .ok (.aload_n 0, 1) := by decide +kernel
theorem dX12_read_86 : decode cX12_read 86 = .ok (.invokevirtual 475, 3) := by decide +kernel
theorem dX12_read_89 : decode cX12_read 89 = .ok (.istore 7, 2) := by decide +kernel
theorem dX12_read_91 : decode cX12_read 91 = .ok (.aload_n 0, 1) := by decide +kernel
theorem dX12_read_92 : decode cX12_read 92 = .ok (.getfield 252, 3) := by decide +kernel
theorem dX12_read_95 : decode cX12_read 95 = .ok (.ifCond .ne 16, 3) := by decide +kernel
theorem dX12_read_98 : decode cX12_read 98 = .ok (.aload_n 0, 1) := by decide +kernel
theorem dX12_read_99 : decode cX12_read 99 = .ok (.bipush 6, 2) := by decide +kernel
theorem dX12_read_101 : decode cX12_read 101 = .ok (.invokevirtual 334, 3) := by decide +kernel
theorem dX12_read_104 : decode cX12_read 104 = .ok (.ifCond .eq 7, 3) := by decide +kernel
theorem dX12_read_107 : decode cX12_read 107 = .ok (.iconst 1, 1) := by decide +kernel
theorem dX12_read_108 : decode cX12_read 108 = .ok (.goto 4, 3) := by decide +kernel
theorem dX12_read_111 : decode cX12_read 111 = .ok (.iconst 0, 1) := by decide +kernel
theorem dX12_read_112 : decode cX12_read 112 = .ok (.istore 8, 2) := by decide +kernel
theorem dX12_read_114 : decode cX12_read 114 = .ok (.iload 8, 2) := by decide +kernel
theorem dX12_read_116 : decode cX12_read 116 = .ok (.ifCond .eq 23, 3) := by decide +kernel
theorem dX12_read_119 : decode cX12_read 119 = .ok (.aload_n 0, 1) := by decide +kernel
theorem dX12_read_120 : decode cX12_read 120 = .ok (.iload 7, 2) := by decide +kernel
theorem dX12_read_122 : decode cX12_read 122 = .ok (.invokevirtual 478, 3) := by decide +kernel
theorem dX12_read_125 : decode cX12_read 125 = .ok (.aload_n 0, 1) := by decide +kernel
theorem dX12_read_126 : decode cX12_read 126 = .ok (.getfield 370, 3) := by decide +kernel
theorem dX12_read_129 : decode cX12_read 129 = .ok (.ifCond .eq 10, 3) := by decide +kernel
theorem dX12_read_132 : decode cX12_read 132 = .ok (.aload_n 0, 1) := by decide +kernel
theorem dX12_read_133 : decode cX12_read 133 = .ok (.iconst 5, 1) := by decide +kernel
theorem dX12_read_134 : decode cX12_read 134 = .ok (.iload 6, 2) := by decide +kernel
theorem dX12_read_136 : decode cX12_read 136 = .ok (.invokevirtual 284, 3) := by decide +kernel
theorem dX12_read_139 : decode cX12_read 139 = .ok (.goto (-87), 3) := by decide +kernel
theorem dX12_read_142 : decode cX12_read 142 = .ok (.aload_n 0, 1) := by decide +kernel
theorem dX12_read_143 : decode cX12_read 143 = .ok (.getfield 252, 3) := by decide +kernel
theorem dX12_read_146 : decode cX12_read 146 = .ok (.ifCond .le 38, 3) := by decide +kernel
theorem dX12_read_149 : decode cX12_read 149 = .ok (.aload_n 0, 1) := by decide +kernel
theorem dX12_read_150 : decode cX12_read 150 = .ok (.iload_n 1, 1) := by decide +kernel
theorem dX12_read_151 : decode cX12_read 151 = .ok (.putfield 344, 3) := by decide +kernel
theorem dX12_read_154 : decode cX12_read 154 = .ok (.aload_n 0, 1) := by decide +kernel
theorem dX12_read_155 : decode cX12_read 155 = .ok (.iload_n 2, 1) := by decide +kernel
theorem dX12_read_156 : decode cX12_read 156 = .ok (.putfield 388, 3) := by decide +kernel
theorem dX12_read_159 : decode cX12_read 159 = .ok (.aload_n 0, 1) := by decide +kernel
theorem dX12_read_160 : decode cX12_read 160 = .ok (.iload_n 3, 1) := by decide +kernel
theorem dX12_read_161 : decode cX12_read 161 = .ok (.putfield 445, 3) := by decide +kernel
theorem dX12_read_164 : decode cX12_read 164 = .ok (.aload_n 0, 1) := by decide +kernel
theorem dX12_read_165 : decode cX12_read 165 = .ok (.iload 4, 2) := by decide +kernel
theorem dX12_read_167 : decode cX12_read 167 = .ok (.putfield 448, 3) := by decide +kernel
theorem dX12_read_170 : decode cX12_read 170 = .ok (.aload_n 0, 1) := by decide +kernel
theorem dX12_read_171 : decode cX12_read 171 = .ok (.iload 5, 2) := by decide +kernel
theorem dX12_read_173 : decode cX12_read 173 = .ok (.putfield 451, 3) := by decide +kernel
theorem dX12_read_176 : decode cX12_read 176 = .ok (.bipush (-10), 2) := by decide +kernel
theorem dX12_read_178 : decode cX12_read 178 = .ok (.aload_n 0, 1) := by decide +kernel
theorem dX12_read_179 : decode cX12_read 179 = .ok (.getfield 252, 3) := by decide +kernel
theorem dX12_read_182 : decode cX12_read 182 = .ok (.isub, 1) := by decide +kernel
theorem dX12_read_183 : decode cX12_read 183 = .ok (.ireturn, 1) := by decide +kernel
theorem dX12_read_184 : decode cX12_read 184 = .ok (.aload_n 0, 1) := by decide +kernel
theorem dX12_read_185 : decode cX12_read 185 = .ok (.invokevirtual 481, 3) := by decide +kernel
theorem dX12_read_188 : decode cX12_read 188 = .ok (.aload_n 0, 1) := by decide +kernel
theorem dX12_read_189 : decode cX12_read 189 = .ok (.getfield 445, 3) := by decide +kernel
theorem dX12_read_192 : decode cX12_read 192 = .ok (.ireturn, 1) := by decide +kernel
theorem dX12_place_0 : decode cX12_place 0 = .ok (.aload_n 0, 1) := by decide +kernel
theorem dX12_place_1 : decode cX12_place 1 = .ok (.iconst 0, 1) := by decide +kernel
theorem dX12_place_2 : decode cX12_place 2 = .ok (.putfield 241, 3) := by decide +kernel
theorem dX12_place_5 : decode cX12_place 5 = .ok (.aload_n 0, 1) := by decide +kernel
theorem dX12_place_6 : decode cX12_place 6 = .ok (.getfield 252, 3) := by decide +kernel
theorem dX12_place_9 : decode cX12_place 9 = .ok (.ifCond .le 10, 3) := by decide +kernel
theorem dX12_place_12 : decode cX12_place 12 = .ok (.aload_n 0, 1) := by decide +kernel
theorem dX12_place_13 : decode cX12_place 13 = .ok (.getfield 255, 3) := by decide +kernel
theorem dX12_place_16 : decode cX12_place 16 = .ok (.goto 4, 3) := by decide +kernel
theorem dX12_place_19 : decode cX12_place 19 = .ok (.iconst (-1), 1) := by decide +kernel
theorem dX12_place_20 : decode cX12_place 20 = .ok (.ireturn, 1) := by decide +kernel
theorem dX12_forget_0 : decode cX12_forget 0 = .ok (.aload_n 0, 1) := by decide +kernel
theorem dX12_forget_1 : decode cX12_forget 1 = .ok (.iconst 0, 1) := by decide +kernel
theorem dX12_forget_2 : decode cX12_forget 2 = .ok (.putfield 484, 3) := by decide +kernel
theorem dX12_forget_5 : decode cX12_forget 5 = .ok (.aload_n 0, 1) := by decide +kernel
theorem dX12_forget_6 : decode cX12_forget 6 = .ok (.iconst 0, 1) := by decide +kernel
theorem dX12_forget_7 : decode cX12_forget 7 = .ok (.putfield 487, 3) := by decide +kernel
theorem dX12_forget_10 : decode cX12_forget 10 = .ok (.aload_n 0, 1) := by decide +kernel
theorem dX12_forget_11 : decode cX12_forget 11 = .ok (.iconst 0, 1) := by decide +kernel
theorem dX12_forget_12 : decode cX12_forget 12 = .ok (.putfield 490, 3) := by decide +kernel
theorem dX12_forget_15 : decode cX12_forget 15 = .ok (.return_, 1) := by decide +kernel
theorem dX12_clear_0 : decode cX12_clear 0 = .ok (.aload_n 0, 1) := by decide +kernel
theorem dX12_clear_1 : decode cX12_clear 1 = .ok (.iconst 0, 1) := by decide +kernel
theorem dX12_clear_2 : decode cX12_clear 2 = .ok (.putfield 241, 3) := by decide +kernel
theorem dX12_clear_5 : decode cX12_clear 5 = .ok (.aload_n 0, 1) := by decide +kernel
theorem dX12_clear_6 : decode cX12_clear 6 = .ok (.getfield 445, 3) := by decide +kernel
theorem dX12_clear_9 : decode cX12_clear 9 = .ok (.istore_n 1, 1) := by decide +kernel
theorem dX12_clear_10 : decode cX12_clear 10 = .ok (.aload_n 0, 1) := by decide +kernel
theorem dX12_clear_11 : decode cX12_clear 11 = .ok (.iconst 0, 1) := by decide +kernel
theorem dX12_clear_12 : decode cX12_clear 12 = .ok (.putfield 445, 3) := by decide +kernel
theorem dX12_clear_15 : decode cX12_clear 15 = .ok (.aload_n 0, 1) := by decide +kernel
theorem dX12_clear_16 : decode cX12_clear 16 = .ok (.iconst 0, 1) := by decide +kernel
theorem dX12_clear_17 : decode cX12_clear 17 = .ok (.putfield 448, 3) := by decide +kernel
theorem dX12_clear_20 : decode cX12_clear 20 = .ok (.aload_n 0, 1) := by decide +kernel
theorem dX12_clear_21 : decode cX12_clear 21 = .ok (.iconst 0, 1) := by decide +kernel
theorem dX12_clear_22 : decode cX12_clear 22 = .ok (.putfield 451, 3) := by decide +kernel
theorem dX12_clear_25 : decode cX12_clear 25 = .ok (.aload_n 0, 1) := by decide +kernel
theorem dX12_clear_26 : decode cX12_clear 26 = .ok (.iconst 0, 1) := by decide +kernel
theorem dX12_clear_27 : decode cX12_clear 27 = .ok (.putfield 344, 3) := by decide +kernel
theorem dX12_clear_30 : decode cX12_clear 30 = .ok (.aload_n 0, 1) := by decide +kernel
theorem dX12_clear_31 : decode cX12_clear 31 = .ok (.iconst 0, 1) := by decide +kernel
theorem dX12_clear_32 : decode cX12_clear 32 = .ok (.putfield 388, 3) := by decide +kernel
theorem dX12_clear_35 : decode cX12_clear 35 = .ok (.aload_n 0, 1) := by decide +kernel
theorem dX12_clear_36 : decode cX12_clear 36 = .ok (.invokevirtual 481, 3) := by decide +kernel
theorem dX12_clear_39 : decode cX12_clear 39 = .ok (.iload_n 1, 1) := by decide +kernel
theorem dX12_clear_40 : decode cX12_clear 40 = .ok (.ireturn, 1) := by decide +kernel
theorem dX12_count_0 : decode cX12_count 0 = .ok (.aload_n 0, 1) := by decide +kernel
theorem dX12_count_1 : decode cX12_count 1 = .ok (.iconst 0, 1) := by decide +kernel
theorem dX12_count_2 : decode cX12_count 2 = .ok (.putfield 241, 3) := by decide +kernel
theorem dX12_count_5 : decode cX12_count 5 = .ok (.iload_n 1, 1) := by decide +kernel
theorem dX12_count_6 : decode cX12_count 6 = .ok (.ifCond .ne 10, 3) := by decide +kernel
theorem dX12_count_9 : decode cX12_count 9 = .ok (.aload_n 0, 1) := by decide +kernel
theorem dX12_count_10 : decode cX12_count 10 = .ok (.getfield 445, 3) := by decide +kernel
theorem dX12_count_13 : decode cX12_count 13 = .ok (.goto 29, 3) := by decide +kernel
theorem dX12_count_16 : decode cX12_count 16 = .ok (.iload_n 1, 1) := by decide +kernel
theorem dX12_count_17 : decode cX12_count 17 = .ok (.iconst 1, 1) := by decide +kernel
theorem dX12_count_18 : decode cX12_count 18 = .ok (.if_icmp .ne 10, 3) := by decide +kernel
theorem dX12_count_21 : decode cX12_count 21 = .ok (.aload_n 0, 1) := by decide +kernel
theorem dX12_count_22 : decode cX12_count 22 = .ok (.getfield 344, 3) := by decide +kernel
theorem dX12_count_25 : decode cX12_count 25 = .ok (.goto 17, 3) := by decide +kernel
theorem dX12_count_28 : decode cX12_count 28 = .ok (.iload_n 1, 1) := by decide +kernel
theorem dX12_count_29 : decode cX12_count 29 = .ok (.iconst 2, 1) := by decide +kernel
theorem dX12_count_30 : decode cX12_count 30 = .ok (.if_icmp .ne 10, 3) := by decide +kernel
theorem dX12_count_33 : decode cX12_count 33 = .ok (.aload_n 0, 1) := by decide +kernel
theorem dX12_count_34 : decode cX12_count 34 = .ok (.getfield 388, 3) := by decide +kernel
theorem dX12_count_37 : decode cX12_count 37 = .ok (.goto 5, 3) := by decide +kernel
theorem dX12_count_40 : decode cX12_count 40 = .ok (.bipush (-2), 2) := by decide +kernel
theorem dX12_count_42 : decode cX12_count 42 = .ok (.ireturn, 1) := by decide +kernel
theorem dX12_endOf_0 : decode cX12_endOf 0 = .ok (.aload_n 0, 1) := by decide +kernel
theorem dX12_endOf_1 : decode cX12_endOf 1 = .ok (.getfield 46, 3) := by decide +kernel
theorem dX12_endOf_4 : decode cX12_endOf 4 = .ok (.aload_n 0, 1) := by decide +kernel
theorem dX12_endOf_5 : decode cX12_endOf 5 = .ok (.getfield 40, 3) := by decide +kernel
theorem dX12_endOf_8 : decode cX12_endOf 8 = .ok (.iload_n 1, 1) := by decide +kernel
theorem dX12_endOf_9 : decode cX12_endOf 9 = .ok (.iaload, 1) := by decide +kernel
theorem dX12_endOf_10 : decode cX12_endOf 10 = .ok (.iaload, 1) := by decide +kernel
theorem dX12_endOf_11 : decode cX12_endOf 11 = .ok (.ireturn, 1) := by decide +kernel
theorem dX12_clause_0 : decode cX12_clause 0 = .ok (.aload_n 0, 1) := by decide +kernel
theorem dX12_clause_1 : decode cX12_clause 1 = .ok (.iconst 0, 1) := by decide +kernel
theorem dX12_clause_2 : decode cX12_clause 2 = .ok (.putfield 241, 3) := by decide +kernel
theorem dX12_clause_5 : decode cX12_clause 5 = .ok (.iload_n 1, 1) := by decide +kernel
theorem dX12_clause_6 : decode cX12_clause 6 = .ok (.iconst 0, 1) := by decide +kernel
theorem dX12_clause_7 : decode cX12_clause 7 = .ok (.aload_n 0, 1) := by decide +kernel
theorem dX12_clause_8 : decode cX12_clause 8 = .ok (.getfield 445, 3) := by decide +kernel
theorem dX12_clause_11 : decode cX12_clause 11 = .ok (.iconst 1, 1) := by decide +kernel
theorem dX12_clause_12 : decode cX12_clause 12 = .ok (.isub, 1) := by decide +kernel
theorem dX12_clause_13 : decode cX12_clause 13 = .ok (.invokestatic 245, 3) := by decide +kernel
theorem dX12_clause_16 : decode cX12_clause 16 = .ok (.ifCond .ne 5, 3) := by decide +kernel
theorem dX12_clause_19 : decode cX12_clause 19 = .ok (.iconst (-1), 1) := by decide +kernel
theorem dX12_clause_20 : decode cX12_clause 20 = .ok (.ireturn, 1) := by decide +kernel
theorem dX12_clause_21 : decode cX12_clause 21 = .ok (.iload_n 2, 1) := by decide +kernel
theorem dX12_clause_22 : decode cX12_clause 22 = .ok (.iconst 0, 1) := by decide +kernel
theorem dX12_clause_23 : decode cX12_clause 23 = .ok (.iconst 2, 1) := by decide +kernel
theorem dX12_clause_24 : decode cX12_clause 24 = .ok (.invokestatic 245, 3) := by decide +kernel
theorem dX12_clause_27 : decode cX12_clause 27 = .ok (.ifCond .ne 6, 3) := by decide +kernel
theorem dX12_clause_30 : decode cX12_clause 30 = .ok (.bipush (-2), 2) := by decide +kernel
theorem dX12_clause_32 : decode cX12_clause 32 = .ok (.ireturn, 1) := by decide +kernel
theorem dX12_clause_33 : decode cX12_clause 33 = .ok (.iconst 0, 1) := by decide +kernel
theorem dX12_clause_34 : decode cX12_clause 34 = .ok (.istore_n 3, 1) := by decide +kernel
theorem dX12_clause_35 : decode cX12_clause 35 = .ok (.aload_n 0, 1) := by decide +kernel
theorem dX12_clause_36 : decode cX12_clause 36 = .ok (.getfield 28, 3) := by decide +kernel
theorem dX12_clause_39 : decode cX12_clause 39 = .ok (.iload_n 1, 1) := by decide +kernel
theorem dX12_clause_40 : decode cX12_clause 40 = .ok (.iaload, 1) := by decide +kernel
theorem dX12_clause_41 : decode cX12_clause 41 = .ok (.istore 4, 2) := by decide +kernel
theorem dX12_clause_43 : decode cX12_clause 43 = .ok (.iload 4, 2) := by decide +kernel
theorem dX12_clause_45 : decode cX12_clause 45 = .ok (.aload_n 0, 1) := by decide +kernel
theorem dX12_clause_46 : decode cX12_clause 46 = .ok (.getfield 28, 3) := by decide +kernel
theorem dX12_clause_49 : decode cX12_clause 49 = .ok (.iload_n 1, 1) := by decide +kernel
theorem dX12_clause_50 : decode cX12_clause 50 = .ok (.iaload, 1) := by decide +kernel
theorem dX12_clause_51 : decode cX12_clause 51 = .ok (.aload_n 0, 1) := by decide +kernel
theorem dX12_clause_52 : decode cX12_clause 52 = .ok (.getfield 31, 3) := by decide +kernel
theorem dX12_clause_55 : decode cX12_clause 55 = .ok (.iload_n 1, 1) := by decide +kernel
theorem dX12_clause_56 : decode cX12_clause 56 = .ok (.iaload, 1) := by decide +kernel
theorem dX12_clause_57 : decode cX12_clause 57 = .ok (.iadd, 1) := by decide +kernel
theorem dX12_clause_58 : decode cX12_clause 58 = .ok (.if_icmp .ge 26, 3) := by decide +kernel
theorem dX12_clause_61 : decode cX12_clause 61 = .ok (.iload_n 3, 1) := by decide +kernel
theorem dX12_clause_62 : decode cX12_clause 62 = .ok (.aload_n 0, 1) := by decide +kernel
theorem dX12_clause_63 : decode cX12_clause 63 = .ok (.iload 4, 2) := by decide +kernel
theorem dX12_clause_65 : decode cX12_clause 65 = .ok (.invokevirtual 493, 3) := by decide +kernel
theorem dX12_clause_68 : decode cX12_clause 68 = .ok (.aload_n 0, 1) := by decide +kernel
theorem dX12_clause_69 : decode cX12_clause 69 = .ok (.getfield 40, 3) := by decide +kernel
theorem dX12_clause_72 : decode cX12_clause 72 = .ok (.iload 4, 2) := by decide +kernel
theorem dX12_clause_74 : decode cX12_clause 74 = .ok (.iaload, 1) := by decide +kernel
theorem dX12_clause_75 : decode cX12_clause 75 = .ok (.isub, 1) := by decide +kernel
theorem dX12_clause_76 : decode cX12_clause 76 = .ok (.iadd, 1) := by decide +kernel
theorem dX12_clause_77 : decode cX12_clause 77 = .ok (.istore_n 3, 1) := by decide +kernel
theorem dX12_clause_78 : decode cX12_clause 78 = .ok (.iinc 4 1, 3) := by decide +kernel
theorem dX12_clause_81 : decode cX12_clause 81 = .ok (.goto (-38), 3) := by decide +kernel
theorem dX12_clause_84 : decode cX12_clause 84 = .ok (.iload_n 2, 1) := by decide +kernel
theorem dX12_clause_85 : decode cX12_clause 85 = .ok (.ifCond .ne 12, 3) := by decide +kernel
theorem dX12_clause_88 : decode cX12_clause 88 = .ok (.aload_n 0, 1) := by decide +kernel
theorem dX12_clause_89 : decode cX12_clause 89 = .ok (.getfield 31, 3) := by decide +kernel
theorem dX12_clause_92 : decode cX12_clause 92 = .ok (.iload_n 1, 1) := by decide +kernel
theorem dX12_clause_93 : decode cX12_clause 93 = .ok (.iaload, 1) := by decide +kernel
theorem dX12_clause_94 : decode cX12_clause 94 = .ok (.goto 18, 3) := by decide +kernel
theorem dX12_clause_97 : decode cX12_clause 97 = .ok (.iload_n 2, 1) := by decide +kernel
theorem dX12_clause_98 : decode cX12_clause 98 = .ok (.iconst 1, 1) := by decide +kernel
theorem dX12_clause_99 : decode cX12_clause 99 = .ok (.if_icmp .ne 12, 3) := by decide +kernel
theorem dX12_clause_102 : decode cX12_clause 102 = .ok (.aload_n 0, 1) := by decide +kernel
theorem dX12_clause_103 : decode cX12_clause 103 = .ok (.getfield 34, 3) := by decide +kernel
theorem dX12_clause_106 : decode cX12_clause 106 = .ok (.iload_n 1, 1) := by decide +kernel
theorem dX12_clause_107 : decode cX12_clause 107 = .ok (.iaload, 1) := by decide +kernel
theorem dX12_clause_108 : decode cX12_clause 108 = .ok (.goto 4, 3) := by decide +kernel
theorem dX12_clause_111 : decode cX12_clause 111 = .ok (.iload_n 3, 1) := by decide +kernel
theorem dX12_clause_112 : decode cX12_clause 112 = .ok (.ireturn, 1) := by decide +kernel
theorem dX12_put_0 : decode cX12_put 0 = .ok (.aload_n 0, 1) := by decide +kernel
theorem dX12_put_1 : decode cX12_put 1 = .ok (.getfield 496, 3) := by decide +kernel
theorem dX12_put_4 : decode cX12_put 4 = .ok (.sipush 4100, 3) := by decide +kernel
theorem dX12_put_7 : decode cX12_put 7 = .ok (.if_icmp .ge 14, 3) := by decide +kernel
theorem dX12_put_10 : decode cX12_put 10 = .ok (.aload_n 0, 1) := by decide +kernel
theorem dX12_put_11 : decode cX12_put 11 = .ok (.getfield 145, 3) := by decide +kernel
theorem dX12_put_14 : decode cX12_put 14 = .ok (.aload_n 0, 1) := by decide +kernel
theorem dX12_put_15 : decode cX12_put 15 = .ok (.getfield 496, 3) := by decide +kernel
theorem dX12_put_18 : decode cX12_put 18 = .ok (.iload_n 1, 1) := by decide +kernel
theorem dX12_put_19 : decode cX12_put 19 = .ok (.i2b, 1) := by decide +kernel
theorem dX12_put_20 : decode cX12_put 20 = .ok (.bastore, 1) := by decide +kernel
theorem dX12_put_21 : decode cX12_put 21 = .ok (.aload_n 0, 1) := by decide +kernel
theorem dX12_put_22 : decode cX12_put 22 = .ok (.dup, 1) := by decide +kernel
theorem dX12_put_23 : decode cX12_put 23 = .ok (.getfield 496, 3) := by decide +kernel
theorem dX12_put_26 : decode cX12_put 26 = .ok (.iconst 1, 1) := by decide +kernel
theorem dX12_put_27 : decode cX12_put 27 = .ok (.iadd, 1) := by decide +kernel
theorem dX12_put_28 : decode cX12_put 28 = .ok (.putfield 496, 3) := by decide +kernel
theorem dX12_put_31 : decode cX12_put 31 = .ok (.return_, 1) := by decide +kernel
theorem dX12_decimal_0 : decode cX12_decimal 0 = .ok (.iconst 1, 1) := by decide +kernel
theorem dX12_decimal_1 : decode cX12_decimal 1 = .ok (.istore_n 2, 1) := by decide +kernel
theorem dX12_decimal_2 : decode cX12_decimal 2 = .ok (.iload_n 1, 1) := by decide +kernel
theorem dX12_decimal_3 : decode cX12_decimal 3 = .ok (.iload_n 2, 1) := by decide +kernel
theorem dX12_decimal_4 : decode cX12_decimal 4 = .ok (.idiv, 1) := by decide +kernel
theorem dX12_decimal_5 : decode cX12_decimal 5 = .ok (.bipush 9, 2) := by decide +kernel
theorem dX12_decimal_7 : decode cX12_decimal 7 = .ok (.if_icmp .le 11, 3) := by decide +kernel
theorem dX12_decimal_10 : decode cX12_decimal 10 = .ok (.iload_n 2, 1) := by decide +kernel
theorem dX12_decimal_11 : decode cX12_decimal 11 = .ok (.bipush 10, 2) := by decide +kernel
theorem dX12_decimal_13 : decode cX12_decimal 13 = .ok (.imul, 1) := by decide +kernel
theorem dX12_decimal_14 : decode cX12_decimal 14 = .ok (.istore_n 2, 1) := by decide +kernel
theorem dX12_decimal_15 : decode cX12_decimal 15 = .ok (.goto (-13), 3) := by decide +kernel
theorem dX12_decimal_18 : decode cX12_decimal 18 = .ok (.iload_n 2, 1) := by decide +kernel
theorem dX12_decimal_19 : decode cX12_decimal 19 = .ok (.ifCond .le 24, 3) := by decide +kernel
theorem dX12_decimal_22 : decode cX12_decimal 22 = .ok (.aload_n 0, 1) := by decide +kernel
theorem dX12_decimal_23 : decode cX12_decimal 23 = .ok (.bipush 48, 2) := by decide +kernel
theorem dX12_decimal_25 : decode cX12_decimal 25 = .ok (.iload_n 1, 1) := by decide +kernel
theorem dX12_decimal_26 : decode cX12_decimal 26 = .ok (.iload_n 2, 1) := by decide +kernel
theorem dX12_decimal_27 : decode cX12_decimal 27 = .ok (.idiv, 1) := by decide +kernel
theorem dX12_decimal_28 : decode cX12_decimal 28 = .ok (.bipush 10, 2) := by decide +kernel
theorem dX12_decimal_30 : decode cX12_decimal 30 = .ok (.irem, 1) := by decide +kernel
theorem dX12_decimal_31 : decode cX12_decimal 31 = .ok (.iadd, 1) := by decide +kernel
theorem dX12_decimal_32 : decode cX12_decimal 32 = .ok (.invokevirtual 499, 3) := by decide +kernel
theorem dX12_decimal_35 : decode cX12_decimal 35 = .ok (.iload_n 2, 1) := by decide +kernel
theorem dX12_decimal_36 : decode cX12_decimal 36 = .ok (.bipush 10, 2) := by decide +kernel
theorem dX12_decimal_38 : decode cX12_decimal 38 = .ok (.idiv, 1) := by decide +kernel
theorem dX12_decimal_39 : decode cX12_decimal 39 = .ok (.istore_n 2, 1) := by decide +kernel
theorem dX12_decimal_40 : decode cX12_decimal 40 = .ok (.goto (-22), 3) := by decide +kernel
theorem dX12_decimal_43 : decode cX12_decimal 43 = .ok (.return_, 1) := by decide +kernel
theorem dX12_signOf_0 : decode cX12_signOf 0 = .ok (.iload_n 0, 1) := by decide +kernel
theorem dX12_signOf_1 : decode cX12_signOf 1 = .ok (.bipush 27, 2) := by decide +kernel
theorem dX12_signOf_3 : decode cX12_signOf 3 = .ok (.if_icmp .ge 12, 3) := by decide +kernel
theorem dX12_signOf_6 : decode cX12_signOf 6 = .ok (.bipush 97, 2) := by decide +kernel
theorem dX12_signOf_8 : decode cX12_signOf 8 = .ok (.iload_n 0, 1) := by decide +kernel
theorem dX12_signOf_9 : decode cX12_signOf 9 = .ok (.iadd, 1) := by decide +kernel
theorem dX12_signOf_10 : decode cX12_signOf 10 = .ok (.iconst 1, 1) := by decide +kernel
theorem dX12_signOf_11 : decode cX12_signOf 11 = .ok (.isub, 1) := by decide +kernel
theorem dX12_signOf_12 : decode cX12_signOf 12 = .ok (.goto 37, 3) := by decide +kernel
theorem dX12_signOf_15 : decode cX12_signOf 15 = .ok (.iload_n 0, 1) := by decide +kernel
theorem dX12_signOf_16 : decode cX12_signOf 16 = .ok (.bipush 53, 2) := by decide +kernel
theorem dX12_signOf_18 : decode cX12_signOf 18 = .ok (.if_icmp .ge 13, 3) := by decide +kernel
theorem dX12_signOf_21 : decode cX12_signOf 21 = .ok (.bipush 65, 2) := by decide +kernel
theorem dX12_signOf_23 : decode cX12_signOf 23 = .ok (.iload_n 0, 1) := by decide +kernel
theorem dX12_signOf_24 : decode cX12_signOf 24 = .ok (.iadd, 1) := by decide +kernel
theorem dX12_signOf_25 : decode cX12_signOf 25 = .ok (.bipush 27, 2) := by decide +kernel
theorem dX12_signOf_27 : decode cX12_signOf 27 = .ok (.isub, 1) := by decide +kernel
theorem dX12_signOf_28 : decode cX12_signOf 28 = .ok (.goto 21, 3) := by decide +kernel
theorem dX12_signOf_31 : decode cX12_signOf 31 = .ok (.iload_n 0, 1) := by decide +kernel
theorem dX12_signOf_32 : decode cX12_signOf 32 = .ok (.bipush 63, 2) := by decide +kernel
theorem dX12_signOf_34 : decode cX12_signOf 34 = .ok (.if_icmp .ge 13, 3) := by decide +kernel
theorem dX12_signOf_37 : decode cX12_signOf 37 = .ok (.bipush 48, 2) := by decide +kernel
theorem dX12_signOf_39 : decode cX12_signOf 39 = .ok (.iload_n 0, 1) := by decide +kernel
theorem dX12_signOf_40 : decode cX12_signOf 40 = .ok (.iadd, 1) := by decide +kernel
theorem dX12_signOf_41 : decode cX12_signOf 41 = .ok (.bipush 53, 2) := by decide +kernel
theorem dX12_signOf_43 : decode cX12_signOf 43 = .ok (.isub, 1) := by decide +kernel
theorem dX12_signOf_44 : decode cX12_signOf 44 = .ok (.goto 5, 3) := by decide +kernel
theorem dX12_signOf_47 : decode cX12_signOf 47 = .ok (.bipush 95, 2) := by decide +kernel
theorem dX12_signOf_49 : decode cX12_signOf 49 = .ok (.ireturn, 1) := by decide +kernel
theorem dX12_nameOut_0 : decode cX12_nameOut 0 = .ok (.iload_n 1, 1) := by decide +kernel
theorem dX12_nameOut_1 : decode cX12_nameOut 1 = .ok (.sipush 1000, 3) := by decide +kernel
theorem dX12_nameOut_4 : decode cX12_nameOut 4 = .ok (.if_icmp .lt 21, 3) := by decide +kernel
theorem dX12_nameOut_7 : decode cX12_nameOut 7 = .ok (.aload_n 0, 1) := by decide +kernel
theorem dX12_nameOut_8 : decode cX12_nameOut 8 = .ok (.bipush 115, 2) := by decide +kernel
theorem dX12_nameOut_10 : decode cX12_nameOut 10 = .ok (.invokevirtual 499, 3) := by decide +kernel
theorem dX12_nameOut_13 : decode cX12_nameOut 13 = .ok (.aload_n 0, 1) := by decide +kernel
theorem dX12_nameOut_14 : decode cX12_nameOut 14 = .ok (.iload_n 1, 1) := by decide +kernel
theorem dX12_nameOut_15 : decode cX12_nameOut 15 = .ok (.sipush 1000, 3) := by decide +kernel
theorem dX12_nameOut_18 : decode cX12_nameOut 18 = .ok (.isub, 1) := by decide +kernel
theorem dX12_nameOut_19 : decode cX12_nameOut 19 = .ok (.iconst 1, 1) := by decide +kernel
theorem dX12_nameOut_20 : decode cX12_nameOut 20 = .ok (.iadd, 1) := by decide +kernel
theorem dX12_nameOut_21 : decode cX12_nameOut 21 = .ok (.invokevirtual 502, 3) := by decide +kernel
theorem dX12_nameOut_24 : decode cX12_nameOut 24 = .ok (.return_, 1) := by decide +kernel
theorem dX12_nameOut_25 : decode cX12_nameOut 25 = .ok (.iconst 0, 1) := by decide +kernel
theorem dX12_nameOut_26 : decode cX12_nameOut 26 = .ok (.istore_n 2, 1) := by decide +kernel
theorem dX12_nameOut_27 : decode cX12_nameOut 27 = .ok (.aload_n 0, 1) := by decide +kernel
theorem dX12_nameOut_28 : decode cX12_nameOut 28 = .ok (.getfield 13, 3) := by decide +kernel
theorem dX12_nameOut_31 : decode cX12_nameOut 31 = .ok (.iload_n 1, 1) := by decide +kernel
theorem dX12_nameOut_32 : decode cX12_nameOut 32 = .ok (.laload, 1) := by decide +kernel
theorem dX12_nameOut_33 : decode cX12_nameOut 33 = .ok (.bipush 6, 2) := by decide +kernel
theorem dX12_nameOut_35 : decode cX12_nameOut 35 = .ok (.iload_n 2, 1) := by decide +kernel
theorem dX12_nameOut_36 : decode cX12_nameOut 36 = .ok (.imul, 1) := by decide +kernel
theorem dX12_nameOut_37 : decode cX12_nameOut 37 = .ok (.lshr, 1) := by decide +kernel
theorem dX12_nameOut_38 : decode cX12_nameOut 38 = .ok (.lconst 0, 1) := by decide +kernel
theorem dX12_nameOut_39 : decode cX12_nameOut 39 = .ok (.lcmp, 1) := by decide +kernel
theorem dX12_nameOut_40 : decode cX12_nameOut 40 = .ok (.ifCond .le 9, 3) := by decide +kernel
theorem dX12_nameOut_43 : decode cX12_nameOut 43 = .ok (.iinc 2 1, 3) := by decide +kernel
theorem dX12_nameOut_46 : decode cX12_nameOut 46 = .ok (.goto (-19), 3) := by decide +kernel
theorem dX12_nameOut_49 : decode cX12_nameOut 49 = .ok (.iload_n 2, 1) := by decide +kernel
theorem dX12_nameOut_50 : decode cX12_nameOut 50 = .ok (.iconst 1, 1) := by decide +kernel
theorem dX12_nameOut_51 : decode cX12_nameOut 51 = .ok (.isub, 1) := by decide +kernel
theorem dX12_nameOut_52 : decode cX12_nameOut 52 = .ok (.istore_n 3, 1) := by decide +kernel
theorem dX12_nameOut_53 : decode cX12_nameOut 53 = .ok (.iload_n 3, 1) := by decide +kernel
theorem dX12_nameOut_54 : decode cX12_nameOut 54 = .ok (.ifCond .lt 32, 3) := by decide +kernel
theorem dX12_nameOut_57 : decode cX12_nameOut 57 = .ok (.aload_n 0, 1) := by decide +kernel
theorem dX12_nameOut_58 : decode cX12_nameOut 58 = .ok (.aload_n 0, 1) := by decide +kernel
theorem dX12_nameOut_59 : decode cX12_nameOut 59 = .ok (.getfield 13, 3) := by decide +kernel
theorem dX12_nameOut_62 : decode cX12_nameOut 62 = .ok (.iload_n 1, 1) := by decide +kernel
theorem dX12_nameOut_63 : decode cX12_nameOut 63 = .ok (.laload, 1) := by decide +kernel
theorem dX12_nameOut_64 : decode cX12_nameOut 64 = .ok (.bipush 6, 2) := by decide +kernel
theorem dX12_nameOut_66 : decode cX12_nameOut 66 = .ok (.iload_n 3, 1) := by decide +kernel
theorem dX12_nameOut_67 : decode cX12_nameOut 67 = .ok (.imul, 1) := by decide +kernel
theorem dX12_nameOut_68 : decode cX12_nameOut 68 = .ok (.lshr, 1) := by decide +kernel
theorem dX12_nameOut_69 : decode cX12_nameOut 69 = .ok (.ldc2_w 505, 3) := by decide +kernel
theorem dX12_nameOut_72 : decode cX12_nameOut 72 = .ok (.land, 1) := by decide +kernel
theorem dX12_nameOut_73 : decode cX12_nameOut 73 = .ok (.l2i, 1) := by decide +kernel
theorem dX12_nameOut_74 : decode cX12_nameOut 74 = .ok (.invokestatic 507, 3) := by decide +kernel
theorem dX12_nameOut_77 : decode cX12_nameOut 77 = .ok (.invokevirtual 499, 3) := by decide +kernel
theorem dX12_nameOut_80 : decode cX12_nameOut 80 = .ok (.iinc 3 (-1), 3) := by decide +kernel
theorem dX12_nameOut_83 : decode cX12_nameOut 83 = .ok (.goto (-30), 3) := by decide +kernel
theorem dX12_nameOut_86 : decode cX12_nameOut 86 = .ok (.return_, 1) := by decide +kernel
theorem dX12_later_0 : decode cX12_later 0 = .ok (.aload_n 0, 1) := by decide +kernel
theorem dX12_later_1 : decode cX12_later 1 = .ok (.getfield 151, 3) := by decide +kernel
theorem dX12_later_4 : decode cX12_later 4 = .ok (.aload_n 0, 1) := by decide +kernel
theorem dX12_later_5 : decode cX12_later 5 = .ok (.getfield 510, 3) := by decide +kernel
theorem dX12_later_8 : decode cX12_later 8 = .ok (.iload_n 1, 1) := by decide +kernel
theorem dX12_later_9 : decode cX12_later 9 = .ok (.iastore, 1) := by decide +kernel
theorem dX12_later_10 : decode cX12_later 10 = .ok (.aload_n 0, 1) := by decide +kernel
theorem dX12_later_11 : decode cX12_later 11 = .ok (.getfield 154, 3) := by decide +kernel
theorem dX12_later_14 : decode cX12_later 14 = .ok (.aload_n 0, 1) := by decide +kernel
theorem dX12_later_15 : decode cX12_later 15 = .ok (.getfield 510, 3) := by decide +kernel
theorem dX12_later_18 : decode cX12_later 18 = .ok (.iload_n 2, 1) := by decide +kernel
theorem dX12_later_19 : decode cX12_later 19 = .ok (.iastore, 1) := by decide +kernel
theorem dX12_later_20 : decode cX12_later 20 = .ok (.aload_n 0, 1) := by decide +kernel
theorem dX12_later_21 : decode cX12_later 21 = .ok (.dup, 1) := by decide +kernel
theorem dX12_later_22 : decode cX12_later 22 = .ok (.getfield 510, 3) := by decide +kernel
theorem dX12_later_25 : decode cX12_later 25 = .ok (.iconst 1, 1) := by decide +kernel
theorem dX12_later_26 : decode cX12_later 26 = .ok (.iadd, 1) := by decide +kernel
theorem dX12_later_27 : decode cX12_later 27 = .ok (.putfield 510, 3) := by decide +kernel
theorem dX12_later_30 : decode cX12_later 30 = .ok (.return_, 1) := by decide +kernel
theorem dX12_variableOut_0 : decode cX12_variableOut 0 = .ok (.aload_n 0, 1) := by decide +kernel
theorem dX12_variableOut_1 : decode cX12_variableOut 1 = .ok (.bipush 88, 2) := by decide +kernel
theorem dX12_variableOut_3 : decode cX12_variableOut 3 = .ok (.invokevirtual 499, 3) := by decide +kernel
theorem dX12_variableOut_6 : decode cX12_variableOut 6 = .ok (.iload_n 2, 1) := by decide +kernel
theorem dX12_variableOut_7 : decode cX12_variableOut 7 = .ok (.ifCond .eq 9, 3) := by decide +kernel
theorem dX12_variableOut_10 : decode cX12_variableOut 10 = .ok (.aload_n 0, 1) := by decide +kernel
theorem dX12_variableOut_11 : decode cX12_variableOut 11 = .ok (.iload_n 1, 1) := by decide +kernel
theorem dX12_variableOut_12 : decode cX12_variableOut 12 = .ok (.invokevirtual 502, 3) := by decide +kernel
theorem dX12_variableOut_15 : decode cX12_variableOut 15 = .ok (.return_, 1) := by decide +kernel
theorem dX12_variableOut_16 : decode cX12_variableOut 16 = .ok (.iconst 0, 1) := by decide +kernel
theorem dX12_variableOut_17 : decode cX12_variableOut 17 = .ok (.istore_n 3, 1) := by decide +kernel
theorem dX12_variableOut_18 : decode cX12_variableOut 18 = .ok (.iload_n 3, 1) := by decide +kernel
theorem dX12_variableOut_19 : decode cX12_variableOut 19 = .ok (.aload_n 0, 1) := by decide +kernel
theorem dX12_variableOut_20 : decode cX12_variableOut 20 = .ok (.getfield 513, 3) := by decide +kernel
theorem dX12_variableOut_23 : decode cX12_variableOut 23 = .ok (.if_icmp .ge 19, 3) := by decide +kernel
theorem dX12_variableOut_26 : decode cX12_variableOut 26 = .ok (.aload_n 0, 1) := by decide +kernel
theorem dX12_variableOut_27 : decode cX12_variableOut 27 = .ok (.getfield 148, 3) := by decide +kernel
theorem dX12_variableOut_30 : decode cX12_variableOut 30 = .ok (.iload_n 3, 1) := by decide +kernel
theorem dX12_variableOut_31 : decode cX12_variableOut 31 = .ok (.iaload, 1) := by decide +kernel
theorem dX12_variableOut_32 : decode cX12_variableOut 32 = .ok (.iload_n 1, 1) := by decide +kernel
theorem dX12_variableOut_33 : decode cX12_variableOut 33 = .ok (.if_icmp .eq 9, 3) := by decide +kernel
theorem dX12_variableOut_36 : decode cX12_variableOut 36 = .ok (.iinc 3 1, 3) := by decide +kernel
theorem dX12_variableOut_39 : decode cX12_variableOut 39 = .ok (.goto (-21), 3) := by decide +kernel
theorem dX12_variableOut_42 : decode cX12_variableOut 42 = .ok (.aload_n 0, 1) := by decide +kernel
theorem dX12_variableOut_43 : decode cX12_variableOut 43 = .ok (.getfield 148, 3) := by decide +kernel
theorem dX12_variableOut_46 : decode cX12_variableOut 46 = .ok (.iload_n 3, 1) := by decide +kernel
theorem dX12_variableOut_47 : decode cX12_variableOut 47 = .ok (.iload_n 1, 1) := by decide +kernel
theorem dX12_variableOut_48 : decode cX12_variableOut 48 = .ok (.iastore, 1) := by decide +kernel
theorem dX12_variableOut_49 : decode cX12_variableOut 49 = .ok (.aload_n 0, 1) := by decide +kernel
theorem dX12_variableOut_50 : decode cX12_variableOut 50 = .ok (.dup, 1) := by decide +kernel
theorem dX12_variableOut_51 : decode cX12_variableOut 51 = .ok (.getfield 513, 3) := by decide +kernel
theorem dX12_variableOut_54 : decode cX12_variableOut 54 = .ok (.iload_n 3, 1) := by decide +kernel
theorem dX12_variableOut_55 : decode cX12_variableOut 55 = .ok (.aload_n 0, 1) := by decide +kernel
theorem dX12_variableOut_56 : decode cX12_variableOut 56 = .ok (.getfield 513, 3) := by decide +kernel
theorem dX12_variableOut_59 : decode cX12_variableOut 59 = .ok (.if_icmp .ne 7, 3) := by decide +kernel
theorem dX12_variableOut_62 : decode cX12_variableOut 62 = .ok (.iconst 1, 1) := by decide +kernel
theorem dX12_variableOut_63 : decode cX12_variableOut 63 = .ok (.goto 4, 3) := by decide +kernel
theorem dX12_variableOut_66 : decode cX12_variableOut 66 = .ok (.iconst 0, 1) := by decide +kernel
theorem dX12_variableOut_67 : decode cX12_variableOut 67 = .ok (.iadd, 1) := by decide +kernel
theorem dX12_variableOut_68 : decode cX12_variableOut 68 = .ok (.putfield 513, 3) := by decide +kernel
theorem dX12_variableOut_71 : decode cX12_variableOut 71 = .ok (.aload_n 0, 1) := by decide +kernel
theorem dX12_variableOut_72 : decode cX12_variableOut 72 = .ok (.iload_n 3, 1) := by decide +kernel
theorem dX12_variableOut_73 : decode cX12_variableOut 73 = .ok (.invokevirtual 502, 3) := by decide +kernel
theorem dX12_variableOut_76 : decode cX12_variableOut 76 = .ok (.return_, 1) := by decide +kernel
theorem dX12_termOut_0 : decode cX12_termOut 0 = .ok (.aload_n 0, 1) := by decide +kernel
theorem dX12_termOut_1 : decode cX12_termOut 1 = .ok (.iconst 0, 1) := by decide +kernel
theorem dX12_termOut_2 : decode cX12_termOut 2 = .ok (.putfield 510, 3) := by decide +kernel
theorem dX12_termOut_5 : decode cX12_termOut 5 = .ok (.aload_n 0, 1) := by decide +kernel
theorem dX12_termOut_6 : decode cX12_termOut 6 = .ok (.iload_n 1, 1) := by decide +kernel
theorem dX12_termOut_7 : decode cX12_termOut 7 = .ok (.iload_n 2, 1) := by decide +kernel
theorem dX12_termOut_8 : decode cX12_termOut 8 = .ok (.invokevirtual 516, 3) := by decide +kernel
theorem dX12_termOut_11 : decode cX12_termOut 11 = .ok (.aload_n 0, 1) := by decide +kernel
theorem dX12_termOut_12 : decode cX12_termOut 12 = .ok (.getfield 510, 3) := by decide +kernel
theorem dX12_termOut_15 : decode cX12_termOut 15 = .ok (.ifCond .le 253, 3) := by decide +kernel
theorem dX12_termOut_18 : decode cX12_termOut 18 = .ok (.aload_n 0, 1) := by decide +kernel
theorem dX12_termOut_19 : decode cX12_termOut 19 = .ok (.getfield 496, 3) := by decide +kernel
theorem dX12_termOut_22 : decode cX12_termOut 22 = .ok (.sipush 4000, 3) := by decide +kernel
theorem dX12_termOut_25 : decode cX12_termOut 25 = .ok (.if_icmp .gt 243, 3) := by decide +kernel
theorem dX12_termOut_28 : decode cX12_termOut 28 = .ok (.aload_n 0, 1) := by decide +kernel
theorem dX12_termOut_29 : decode cX12_termOut 29 = .ok (.dup, 1) := by decide +kernel
theorem dX12_termOut_30 : decode cX12_termOut 30 = .ok (.getfield 510, 3) := by decide +kernel
theorem dX12_termOut_33 : decode cX12_termOut 33 = .ok (.iconst 1, 1) := by decide +kernel
theorem dX12_termOut_34 : decode cX12_termOut 34 = .ok (.isub, 1) := by decide +kernel
theorem dX12_termOut_35 : decode cX12_termOut 35 = .ok (.putfield 510, 3) := by decide +kernel
theorem dX12_termOut_38 : decode cX12_termOut 38 = .ok (.aload_n 0, 1) := by decide +kernel
theorem dX12_termOut_39 : decode cX12_termOut 39 = .ok (.getfield 151, 3) := by decide +kernel
theorem dX12_termOut_42 : decode cX12_termOut 42 = .ok (.aload_n 0, 1) := by decide +kernel
theorem dX12_termOut_43 : decode cX12_termOut 43 = .ok (.getfield 510, 3) := by decide +kernel
theorem dX12_termOut_46 : decode cX12_termOut 46 = .ok (.iaload, 1) := by decide +kernel
theorem dX12_termOut_47 : decode cX12_termOut 47 = .ok (.istore_n 3, 1) := by decide +kernel
theorem dX12_termOut_48 : decode cX12_termOut 48 = .ok (.aload_n 0, 1) := by decide +kernel
theorem dX12_termOut_49 : decode cX12_termOut 49 = .ok (.getfield 154, 3) := by decide +kernel
theorem dX12_termOut_52 : decode cX12_termOut 52 = .ok (.aload_n 0, 1) := by decide +kernel
theorem dX12_termOut_53 : decode cX12_termOut 53 = .ok (.getfield 510, 3) := by decide +kernel
theorem dX12_termOut_56 : decode cX12_termOut 56 = .ok (.iaload, 1) := by decide +kernel
theorem dX12_termOut_57 : decode cX12_termOut 57 = .ok (.istore 4, 2) := by decide +kernel
theorem dX12_termOut_59 : decode cX12_termOut 59 = .ok (.iload_n 3, 1) := by decide +kernel
theorem dX12_termOut_60 : decode cX12_termOut 60 = .ok (.ifCond .ge 12, 3) := by decide +kernel
theorem dX12_termOut_63 : decode cX12_termOut 63 = .ok (.aload_n 0, 1) := by decide +kernel
theorem dX12_termOut_64 : decode cX12_termOut 64 = .ok (.iload_n 3, 1) := by decide +kernel
theorem dX12_termOut_65 : decode cX12_termOut 65 = .ok (.ineg, 1) := by decide +kernel
theorem dX12_termOut_66 : decode cX12_termOut 66 = .ok (.invokevirtual 499, 3) := by decide +kernel
theorem dX12_termOut_69 : decode cX12_termOut 69 = .ok (.goto (-58), 3) := by decide +kernel
theorem dX12_termOut_72 : decode cX12_termOut 72 = .ok (.iload 4, 2) := by decide +kernel
theorem dX12_termOut_74 : decode cX12_termOut 74 = .ok (.ifCond .lt 21, 3) := by decide +kernel
theorem dX12_termOut_77 : decode cX12_termOut 77 = .ok (.aload_n 0, 1) := by decide +kernel
theorem dX12_termOut_78 : decode cX12_termOut 78 = .ok (.iload_n 3, 1) := by decide +kernel
theorem dX12_termOut_79 : decode cX12_termOut 79 = .ok (.iload 4, 2) := by decide +kernel
theorem dX12_termOut_81 : decode cX12_termOut 81 = .ok (.invokevirtual 519, 3) := by decide +kernel
theorem dX12_termOut_84 : decode cX12_termOut 84 = .ok (.aload_n 0, 1) := by decide +kernel
theorem dX12_termOut_85 : decode cX12_termOut 85 = .ok (.getfield 522, 3) := by decide +kernel
theorem dX12_termOut_88 : decode cX12_termOut 88 = .ok (.istore_n 3, 1) := by decide +kernel
theorem dX12_termOut_89 : decode cX12_termOut 89 = .ok (.aload_n 0, 1) := by decide +kernel
theorem dX12_termOut_90 : decode cX12_termOut 90 = .ok (.getfield 525, 3) := by decide +kernel
theorem dX12_termOut_93 : decode cX12_termOut 93 = .ok (.istore 4, 2) := by decide +kernel
theorem dX12_termOut_95 : decode cX12_termOut 95 = .ok (.aload_n 0, 1) := by decide +kernel
theorem dX12_termOut_96 : decode cX12_termOut 96 = .ok (.getfield 43, 3) := by decide +kernel
theorem dX12_termOut_99 : decode cX12_termOut 99 = .ok (.iload_n 3, 1) := by decide +kernel
theorem dX12_termOut_100 : decode cX12_termOut 100 = .ok (.iaload, 1) := by decide +kernel
theorem dX12_termOut_101 : decode cX12_termOut 101 = .ok (.ifCond .ge 47, 3) := by decide +kernel
theorem dX12_termOut_104 : decode cX12_termOut 104 = .ok (.aload_n 0, 1) := by decide +kernel
theorem dX12_termOut_105 : decode cX12_termOut 105 = .ok (.iload 4, 2) := by decide +kernel
theorem dX12_termOut_107 : decode cX12_termOut 107 = .ok (.ifCond .ge 14, 3) := by decide +kernel
theorem dX12_termOut_110 : decode cX12_termOut 110 = .ok (.iconst (-1), 1) := by decide +kernel
theorem dX12_termOut_111 : decode cX12_termOut 111 = .ok (.aload_n 0, 1) := by decide +kernel
theorem dX12_termOut_112 : decode cX12_termOut 112 = .ok (.getfield 43, 3) := by decide +kernel
theorem dX12_termOut_115 : decode cX12_termOut 115 = .ok (.iload_n 3, 1) := by decide +kernel
theorem dX12_termOut_116 : decode cX12_termOut 116 = .ok (.iaload, 1) := by decide +kernel
theorem dX12_termOut_117 : decode cX12_termOut 117 = .ok (.isub, 1) := by decide +kernel
theorem dX12_termOut_118 : decode cX12_termOut 118 = .ok (.goto 14, 3) := by decide +kernel
theorem dX12_termOut_121 : decode cX12_termOut 121 = .ok (.iload 4, 2) := by decide +kernel
theorem dX12_termOut_123 : decode cX12_termOut 123 = .ok (.iconst 1, 1) := by decide +kernel
theorem dX12_termOut_124 : decode cX12_termOut 124 = .ok (.isub, 1) := by decide +kernel
theorem dX12_termOut_125 : decode cX12_termOut 125 = .ok (.aload_n 0, 1) := by decide +kernel
theorem dX12_termOut_126 : decode cX12_termOut 126 = .ok (.getfield 43, 3) := by decide +kernel
theorem dX12_termOut_129 : decode cX12_termOut 129 = .ok (.iload_n 3, 1) := by decide +kernel
theorem dX12_termOut_130 : decode cX12_termOut 130 = .ok (.iaload, 1) := by decide +kernel
theorem dX12_termOut_131 : decode cX12_termOut 131 = .ok (.isub, 1) := by decide +kernel
theorem dX12_termOut_132 : decode cX12_termOut 132 = .ok (.iload 4, 2) := by decide +kernel
theorem dX12_termOut_134 : decode cX12_termOut 134 = .ok (.ifCond .ge 7, 3) := by decide +kernel
theorem dX12_termOut_137 : decode cX12_termOut 137 = .ok (.iconst 1, 1) := by decide +kernel
theorem dX12_termOut_138 : decode cX12_termOut 138 = .ok (.goto 4, 3) := by decide +kernel
theorem dX12_termOut_141 : decode cX12_termOut 141 = .ok (.iconst 0, 1) := by decide +kernel
theorem dX12_termOut_142 : decode cX12_termOut 142 = .ok (.invokevirtual 528, 3) := by decide +kernel
theorem dX12_termOut_145 : decode cX12_termOut 145 = .ok (.goto (-134), 3) := by decide +kernel
theorem dX12_termOut_148 : decode cX12_termOut 148 = .ok (.aload_n 0, 1) := by decide +kernel
theorem dX12_termOut_149 : decode cX12_termOut 149 = .ok (.aload_n 0, 1) := by decide +kernel
theorem dX12_termOut_150 : decode cX12_termOut 150 = .ok (.getfield 43, 3) := by decide +kernel
theorem dX12_termOut_153 : decode cX12_termOut 153 = .ok (.iload_n 3, 1) := by decide +kernel
theorem dX12_termOut_154 : decode cX12_termOut 154 = .ok (.iaload, 1) := by decide +kernel
theorem dX12_termOut_155 : decode cX12_termOut 155 = .ok (.invokevirtual 531, 3) := by decide +kernel
theorem dX12_termOut_158 : decode cX12_termOut 158 = .ok (.aload_n 0, 1) := by decide +kernel
theorem dX12_termOut_159 : decode cX12_termOut 159 = .ok (.getfield 49, 3) := by decide +kernel
theorem dX12_termOut_162 : decode cX12_termOut 162 = .ok (.iload_n 3, 1) := by decide +kernel
theorem dX12_termOut_163 : decode cX12_termOut 163 = .ok (.iaload, 1) := by decide +kernel
theorem dX12_termOut_164 : decode cX12_termOut 164 = .ok (.istore 5, 2) := by decide +kernel
theorem dX12_termOut_166 : decode cX12_termOut 166 = .ok (.iload_n 3, 1) := by decide +kernel
theorem dX12_termOut_167 : decode cX12_termOut 167 = .ok (.iconst 1, 1) := by decide +kernel
theorem dX12_termOut_168 : decode cX12_termOut 168 = .ok (.iadd, 1) := by decide +kernel
theorem dX12_termOut_169 : decode cX12_termOut 169 = .ok (.istore 6, 2) := by decide +kernel
theorem dX12_termOut_171 : decode cX12_termOut 171 = .ok (.iconst 0, 1) := by decide +kernel
theorem dX12_termOut_172 : decode cX12_termOut 172 = .ok (.istore 7, 2) := by decide +kernel
theorem dX12_termOut_174 : decode cX12_termOut 174 = .ok (.iload 7, 2) := by decide +kernel
theorem dX12_termOut_176 : decode cX12_termOut 176 = .ok (.iload 5, 2) := by decide +kernel
theorem dX12_termOut_178 : decode cX12_termOut 178 = .ok (.if_icmp .ge 27, 3) := by decide +kernel
theorem dX12_termOut_181 : decode cX12_termOut 181 = .ok (.aload_n 0, 1) := by decide +kernel
theorem dX12_termOut_182 : decode cX12_termOut 182 = .ok (.getfield 157, 3) := by decide +kernel
theorem dX12_termOut_185 : decode cX12_termOut 185 = .ok (.iload 7, 2) := by decide +kernel
theorem dX12_termOut_187 : decode cX12_termOut 187 = .ok (.iload 6, 2) := by decide +kernel
theorem dX12_termOut_189 : decode cX12_termOut 189 = .ok (.iastore, 1) := by decide +kernel
theorem dX12_termOut_190 : decode cX12_termOut 190 = .ok (.aload_n 0, 1) := by decide +kernel
theorem dX12_termOut_191 : decode cX12_termOut 191 = .ok (.getfield 46, 3) := by decide +kernel
theorem dX12_termOut_194 : decode cX12_termOut 194 = .ok (.iload 6, 2) := by decide +kernel
theorem dX12_termOut_196 : decode cX12_termOut 196 = .ok (.iaload, 1) := by decide +kernel
theorem dX12_termOut_197 : decode cX12_termOut 197 = .ok (.istore 6, 2) := by decide +kernel
theorem dX12_termOut_199 : decode cX12_termOut 199 = .ok (.iinc 7 1, 3) := by decide +kernel
theorem dX12_termOut_202 : decode cX12_termOut 202 = .ok (.goto (-28), 3) := by decide +kernel
theorem dX12_termOut_205 : decode cX12_termOut 205 = .ok (.iload 5, 2) := by decide +kernel
theorem dX12_termOut_207 : decode cX12_termOut 207 = .ok (.ifCond .le 16, 3) := by decide +kernel
theorem dX12_termOut_210 : decode cX12_termOut 210 = .ok (.aload_n 0, 1) := by decide +kernel
theorem dX12_termOut_211 : decode cX12_termOut 211 = .ok (.bipush 40, 2) := by decide +kernel
theorem dX12_termOut_213 : decode cX12_termOut 213 = .ok (.invokevirtual 499, 3) := by decide +kernel
theorem dX12_termOut_216 : decode cX12_termOut 216 = .ok (.aload_n 0, 1) := by decide +kernel
theorem dX12_termOut_217 : decode cX12_termOut 217 = .ok (.bipush (-41), 2) := by decide +kernel
theorem dX12_termOut_219 : decode cX12_termOut 219 = .ok (.iconst 0, 1) := by decide +kernel
theorem dX12_termOut_220 : decode cX12_termOut 220 = .ok (.invokevirtual 516, 3) := by decide +kernel
theorem dX12_termOut_223 : decode cX12_termOut 223 = .ok (.iload 5, 2) := by decide +kernel
theorem dX12_termOut_225 : decode cX12_termOut 225 = .ok (.iconst 1, 1) := by decide +kernel
theorem dX12_termOut_226 : decode cX12_termOut 226 = .ok (.isub, 1) := by decide +kernel
theorem dX12_termOut_227 : decode cX12_termOut 227 = .ok (.istore 7, 2) := by decide +kernel
theorem dX12_termOut_229 : decode cX12_termOut 229 = .ok (.iload 7, 2) := by decide +kernel
theorem dX12_termOut_231 : decode cX12_termOut 231 = .ok (.ifCond .lt 34, 3) := by decide +kernel
theorem dX12_termOut_234 : decode cX12_termOut 234 = .ok (.aload_n 0, 1) := by decide +kernel
theorem dX12_termOut_235 : decode cX12_termOut 235 = .ok (.aload_n 0, 1) := by decide +kernel
theorem dX12_termOut_236 : decode cX12_termOut 236 = .ok (.getfield 157, 3) := by decide +kernel
theorem dX12_termOut_239 : decode cX12_termOut 239 = .ok (.iload 7, 2) := by decide +kernel
theorem dX12_termOut_241 : decode cX12_termOut 241 = .ok (.iaload, 1) := by decide +kernel
theorem dX12_termOut_242 : decode cX12_termOut 242 = .ok (.iload 4, 2) := by decide +kernel
theorem dX12_termOut_244 : decode cX12_termOut 244 = .ok (.invokevirtual 516, 3) := by decide +kernel
theorem dX12_termOut_247 : decode cX12_termOut 247 = .ok (.iload 7, 2) := by decide +kernel
theorem dX12_termOut_249 : decode cX12_termOut 249 = .ok (.ifCond .le 10, 3) := by decide +kernel
theorem dX12_termOut_252 : decode cX12_termOut 252 = .ok (.aload_n 0, 1) := by decide +kernel
theorem dX12_termOut_253 : decode cX12_termOut 253 = .ok (.bipush (-44), 2) := by decide +kernel
theorem dX12_termOut_255 : decode cX12_termOut 255 = .ok (.iconst 0, 1) := by decide +kernel
theorem dX12_termOut_256 : decode cX12_termOut 256 = .ok (.invokevirtual 516, 3) := by decide +kernel
theorem dX12_termOut_259 : decode cX12_termOut 259 = .ok (.iinc 7 (-1), 3) := by decide +kernel
theorem dX12_termOut_262 : decode cX12_termOut 262 = .ok (.goto (-33), 3) := by decide +kernel
theorem dX12_termOut_265 : decode cX12_termOut 265 = .ok (.goto (-254), 3) := by decide +kernel
theorem dX12_termOut_268 : decode cX12_termOut 268 = .ok (.return_, 1) := by decide +kernel
theorem dX12_literalOut_0 : decode cX12_literalOut 0 = .ok (.aload_n 0, 1) := by decide +kernel
theorem dX12_literalOut_1 : decode cX12_literalOut 1 = .ok (.getfield 37, 3) := by decide +kernel
theorem dX12_literalOut_4 : decode cX12_literalOut 4 = .ok (.iload_n 1, 1) := by decide +kernel
theorem dX12_literalOut_5 : decode cX12_literalOut 5 = .ok (.baload, 1) := by decide +kernel
theorem dX12_literalOut_6 : decode cX12_literalOut 6 = .ok (.ifCond .eq 9, 3) := by decide +kernel
theorem dX12_literalOut_9 : decode cX12_literalOut 9 = .ok (.aload_n 0, 1) := by decide +kernel
theorem dX12_literalOut_10 : decode cX12_literalOut 10 = .ok (.bipush 126, 2) := by decide +kernel
theorem dX12_literalOut_12 : decode cX12_literalOut 12 = .ok (.invokevirtual 499, 3) := by decide +kernel
theorem dX12_literalOut_15 : decode cX12_literalOut 15 = .ok (.aload_n 0, 1) := by decide +kernel
theorem dX12_literalOut_16 : decode cX12_literalOut 16 = .ok (.aload_n 0, 1) := by decide +kernel
theorem dX12_literalOut_17 : decode cX12_literalOut 17 = .ok (.getfield 40, 3) := by decide +kernel
theorem dX12_literalOut_20 : decode cX12_literalOut 20 = .ok (.iload_n 1, 1) := by decide +kernel
theorem dX12_literalOut_21 : decode cX12_literalOut 21 = .ok (.iaload, 1) := by decide +kernel
theorem dX12_literalOut_22 : decode cX12_literalOut 22 = .ok (.iload_n 2, 1) := by decide +kernel
theorem dX12_literalOut_23 : decode cX12_literalOut 23 = .ok (.invokevirtual 534, 3) := by decide +kernel
theorem dX12_literalOut_26 : decode cX12_literalOut 26 = .ok (.return_, 1) := by decide +kernel
theorem dX12_clauseOut_0 : decode cX12_clauseOut 0 = .ok (.iconst 0, 1) := by decide +kernel
theorem dX12_clauseOut_1 : decode cX12_clauseOut 1 = .ok (.istore_n 3, 1) := by decide +kernel
theorem dX12_clauseOut_2 : decode cX12_clauseOut 2 = .ok (.iload_n 3, 1) := by decide +kernel
theorem dX12_clauseOut_3 : decode cX12_clauseOut 3 = .ok (.aload_n 0, 1) := by decide +kernel
theorem dX12_clauseOut_4 : decode cX12_clauseOut 4 = .ok (.getfield 31, 3) := by decide +kernel
theorem dX12_clauseOut_7 : decode cX12_clauseOut 7 = .ok (.iload_n 1, 1) := by decide +kernel
theorem dX12_clauseOut_8 : decode cX12_clauseOut 8 = .ok (.iaload, 1) := by decide +kernel
theorem dX12_clauseOut_9 : decode cX12_clauseOut 9 = .ok (.if_icmp .ge 32, 3) := by decide +kernel
theorem dX12_clauseOut_12 : decode cX12_clauseOut 12 = .ok (.iload_n 3, 1) := by decide +kernel
theorem dX12_clauseOut_13 : decode cX12_clauseOut 13 = .ok (.ifCond .le 9, 3) := by decide +kernel
theorem dX12_clauseOut_16 : decode cX12_clauseOut 16 = .ok (.aload_n 0, 1) := by decide +kernel
theorem dX12_clauseOut_17 : decode cX12_clauseOut 17 = .ok (.bipush 124, 2) := by decide +kernel
theorem dX12_clauseOut_19 : decode cX12_clauseOut 19 = .ok (.invokevirtual 499, 3) := by decide +kernel
theorem dX12_clauseOut_22 : decode cX12_clauseOut 22 = .ok (.aload_n 0, 1) := by decide +kernel
theorem dX12_clauseOut_23 : decode cX12_clauseOut 23 = .ok (.aload_n 0, 1) := by decide +kernel
theorem dX12_clauseOut_24 : decode cX12_clauseOut 24 = .ok (.getfield 28, 3) := by decide +kernel
theorem dX12_clauseOut_27 : decode cX12_clauseOut 27 = .ok (.iload_n 1, 1) := by decide +kernel
theorem dX12_clauseOut_28 : decode cX12_clauseOut 28 = .ok (.iaload, 1) := by decide +kernel
theorem dX12_clauseOut_29 : decode cX12_clauseOut 29 = .ok (.iload_n 3, 1) := by decide +kernel
theorem dX12_clauseOut_30 : decode cX12_clauseOut 30 = .ok (.iadd, 1) := by decide +kernel
theorem dX12_clauseOut_31 : decode cX12_clauseOut 31 = .ok (.iload_n 2, 1) := by decide +kernel
theorem dX12_clauseOut_32 : decode cX12_clauseOut 32 = .ok (.invokevirtual 537, 3) := by decide +kernel
theorem dX12_clauseOut_35 : decode cX12_clauseOut 35 = .ok (.iinc 3 1, 3) := by decide +kernel
theorem dX12_clauseOut_38 : decode cX12_clauseOut 38 = .ok (.goto (-36), 3) := by decide +kernel
theorem dX12_clauseOut_41 : decode cX12_clauseOut 41 = .ok (.aload_n 0, 1) := by decide +kernel
theorem dX12_clauseOut_42 : decode cX12_clauseOut 42 = .ok (.getfield 31, 3) := by decide +kernel
theorem dX12_clauseOut_45 : decode cX12_clauseOut 45 = .ok (.iload_n 1, 1) := by decide +kernel
theorem dX12_clauseOut_46 : decode cX12_clauseOut 46 = .ok (.iaload, 1) := by decide +kernel
theorem dX12_clauseOut_47 : decode cX12_clauseOut 47 = .ok (.ifCond .ne 9, 3) := by decide +kernel
theorem dX12_clauseOut_50 : decode cX12_clauseOut 50 = .ok (.aload_n 0, 1) := by decide +kernel
theorem dX12_clauseOut_51 : decode cX12_clauseOut 51 = .ok (.bipush 36, 2) := by decide +kernel
theorem dX12_clauseOut_53 : decode cX12_clauseOut 53 = .ok (.invokevirtual 499, 3) := by decide +kernel
theorem dX12_clauseOut_56 : decode cX12_clauseOut 56 = .ok (.return_, 1) := by decide +kernel
theorem dX12_written_0 : decode cX12_written 0 = .ok (.iconst 0, 1) := by decide +kernel
theorem dX12_written_1 : decode cX12_written 1 = .ok (.istore_n 1, 1) := by decide +kernel
theorem dX12_written_2 : decode cX12_written 2 = .ok (.iload_n 1, 1) := by decide +kernel
theorem dX12_written_3 : decode cX12_written 3 = .ok (.aload_n 0, 1) := by decide +kernel
theorem dX12_written_4 : decode cX12_written 4 = .ok (.getfield 496, 3) := by decide +kernel
theorem dX12_written_7 : decode cX12_written 7 = .ok (.if_icmp .ge 21, 3) := by decide +kernel
theorem dX12_written_10 : decode cX12_written 10 = .ok (.aload_n 0, 1) := by decide +kernel
theorem dX12_written_11 : decode cX12_written 11 = .ok (.getfield 142, 3) := by decide +kernel
theorem dX12_written_14 : decode cX12_written 14 = .ok (.iload_n 1, 1) := by decide +kernel
theorem dX12_written_15 : decode cX12_written 15 = .ok (.aload_n 0, 1) := by decide +kernel
theorem dX12_written_16 : decode cX12_written 16 = .ok (.getfield 145, 3) := by decide +kernel
theorem dX12_written_19 : decode cX12_written 19 = .ok (.iload_n 1, 1) := by decide +kernel
theorem dX12_written_20 : decode cX12_written 20 = .ok (.baload, 1) := by decide +kernel
theorem dX12_written_21 : decode cX12_written 21 = .ok (.bastore, 1) := by decide +kernel
theorem dX12_written_22 : decode cX12_written 22 = .ok (.iinc 1 1, 3) := by decide +kernel
theorem dX12_written_25 : decode cX12_written 25 = .ok (.goto (-23), 3) := by decide +kernel
theorem dX12_written_28 : decode cX12_written 28 = .ok (.aload_n 0, 1) := by decide +kernel
theorem dX12_written_29 : decode cX12_written 29 = .ok (.aload_n 0, 1) := by decide +kernel
theorem dX12_written_30 : decode cX12_written 30 = .ok (.getfield 496, 3) := by decide +kernel
theorem dX12_written_33 : decode cX12_written 33 = .ok (.putfield 540, 3) := by decide +kernel
theorem dX12_written_36 : decode cX12_written 36 = .ok (.aload_n 0, 1) := by decide +kernel
theorem dX12_written_37 : decode cX12_written 37 = .ok (.getfield 540, 3) := by decide +kernel
theorem dX12_written_40 : decode cX12_written 40 = .ok (.ireturn, 1) := by decide +kernel
theorem dX12_write_0 : decode cX12_write 0 = .ok (.aload_n 0, 1) := by decide +kernel
theorem dX12_write_1 : decode cX12_write 1 = .ok (.iconst 0, 1) := by decide +kernel
theorem dX12_write_2 : decode cX12_write 2 = .ok (.putfield 241, 3) := by decide +kernel
theorem dX12_write_5 : decode cX12_write 5 = .ok (.iload_n 1, 1) := by decide +kernel
theorem dX12_write_6 : decode cX12_write 6 = .ok (.iconst 0, 1) := by decide +kernel
theorem dX12_write_7 : decode cX12_write 7 = .ok (.aload_n 0, 1) := by decide +kernel
theorem dX12_write_8 : decode cX12_write 8 = .ok (.getfield 445, 3) := by decide +kernel
theorem dX12_write_11 : decode cX12_write 11 = .ok (.iconst 1, 1) := by decide +kernel
theorem dX12_write_12 : decode cX12_write 12 = .ok (.isub, 1) := by decide +kernel
theorem dX12_write_13 : decode cX12_write 13 = .ok (.invokestatic 245, 3) := by decide +kernel
theorem dX12_write_16 : decode cX12_write 16 = .ok (.ifCond .ne 5, 3) := by decide +kernel
theorem dX12_write_19 : decode cX12_write 19 = .ok (.iconst (-1), 1) := by decide +kernel
theorem dX12_write_20 : decode cX12_write 20 = .ok (.ireturn, 1) := by decide +kernel
theorem dX12_write_21 : decode cX12_write 21 = .ok (.aload_n 0, 1) := by decide +kernel
theorem dX12_write_22 : decode cX12_write 22 = .ok (.iconst 0, 1) := by decide +kernel
theorem dX12_write_23 : decode cX12_write 23 = .ok (.putfield 496, 3) := by decide +kernel
theorem dX12_write_26 : decode cX12_write 26 = .ok (.aload_n 0, 1) := by decide +kernel
theorem dX12_write_27 : decode cX12_write 27 = .ok (.iload_n 1, 1) := by decide +kernel
theorem dX12_write_28 : decode cX12_write 28 = .ok (.iconst (-1), 1) := by decide +kernel
theorem dX12_write_29 : decode cX12_write 29 = .ok (.invokevirtual 543, 3) := by decide +kernel
theorem dX12_write_32 : decode cX12_write 32 = .ok (.aload_n 0, 1) := by decide +kernel
theorem dX12_write_33 : decode cX12_write 33 = .ok (.invokevirtual 546, 3) := by decide +kernel
theorem dX12_write_36 : decode cX12_write 36 = .ok (.ireturn, 1) := by decide +kernel
theorem dX12_octet_0 : decode cX12_octet 0 = .ok (.aload_n 0, 1) := by decide +kernel
theorem dX12_octet_1 : decode cX12_octet 1 = .ok (.iconst 0, 1) := by decide +kernel
theorem dX12_octet_2 : decode cX12_octet 2 = .ok (.putfield 241, 3) := by decide +kernel
theorem dX12_octet_5 : decode cX12_octet 5 = .ok (.iload_n 1, 1) := by decide +kernel
theorem dX12_octet_6 : decode cX12_octet 6 = .ok (.iconst 0, 1) := by decide +kernel
theorem dX12_octet_7 : decode cX12_octet 7 = .ok (.aload_n 0, 1) := by decide +kernel
theorem dX12_octet_8 : decode cX12_octet 8 = .ok (.getfield 540, 3) := by decide +kernel
theorem dX12_octet_11 : decode cX12_octet 11 = .ok (.iconst 1, 1) := by decide +kernel
theorem dX12_octet_12 : decode cX12_octet 12 = .ok (.isub, 1) := by decide +kernel
theorem dX12_octet_13 : decode cX12_octet 13 = .ok (.invokestatic 245, 3) := by decide +kernel
theorem dX12_octet_16 : decode cX12_octet 16 = .ok (.ifCond .eq 16, 3) := by decide +kernel
theorem dX12_octet_19 : decode cX12_octet 19 = .ok (.aload_n 0, 1) := by decide +kernel
theorem dX12_octet_20 : decode cX12_octet 20 = .ok (.getfield 142, 3) := by decide +kernel
theorem dX12_octet_23 : decode cX12_octet 23 = .ok (.iload_n 1, 1) := by decide +kernel
theorem dX12_octet_24 : decode cX12_octet 24 = .ok (.baload, 1) := by decide +kernel
theorem dX12_octet_25 : decode cX12_octet 25 = .ok (.sipush 255, 3) := by decide +kernel
theorem dX12_octet_28 : decode cX12_octet 28 = .ok (.iand, 1) := by decide +kernel
theorem dX12_octet_29 : decode cX12_octet 29 = .ok (.goto 4, 3) := by decide +kernel
theorem dX12_octet_32 : decode cX12_octet 32 = .ok (.iconst (-1), 1) := by decide +kernel
theorem dX12_octet_33 : decode cX12_octet 33 = .ok (.ireturn, 1) := by decide +kernel
theorem dX12_follow_0 : decode cX12_follow 0 = .ok (.aload_n 0, 1) := by decide +kernel
theorem dX12_follow_1 : decode cX12_follow 1 = .ok (.iload_n 1, 1) := by decide +kernel
theorem dX12_follow_2 : decode cX12_follow 2 = .ok (.putfield 522, 3) := by decide +kernel
theorem dX12_follow_5 : decode cX12_follow 5 = .ok (.aload_n 0, 1) := by decide +kernel
theorem dX12_follow_6 : decode cX12_follow 6 = .ok (.iload_n 2, 1) := by decide +kernel
theorem dX12_follow_7 : decode cX12_follow 7 = .ok (.putfield 525, 3) := by decide +kernel
theorem dX12_follow_10 : decode cX12_follow 10 = .ok (.aload_n 0, 1) := by decide +kernel
theorem dX12_follow_11 : decode cX12_follow 11 = .ok (.getfield 43, 3) := by decide +kernel
theorem dX12_follow_14 : decode cX12_follow 14 = .ok (.aload_n 0, 1) := by decide +kernel
theorem dX12_follow_15 : decode cX12_follow 15 = .ok (.getfield 522, 3) := by decide +kernel
theorem dX12_follow_18 : decode cX12_follow 18 = .ok (.iaload, 1) := by decide +kernel
theorem dX12_follow_19 : decode cX12_follow 19 = .ok (.ifCond .ge 67, 3) := by decide +kernel
theorem dX12_follow_22 : decode cX12_follow 22 = .ok (.aload_n 0, 1) := by decide +kernel
theorem dX12_follow_23 : decode cX12_follow 23 = .ok (.getfield 172, 3) := by decide +kernel
theorem dX12_follow_26 : decode cX12_follow 26 = .ok (.aload_n 0, 1) := by decide +kernel
theorem dX12_follow_27 : decode cX12_follow 27 = .ok (.getfield 525, 3) := by decide +kernel
theorem dX12_follow_30 : decode cX12_follow 30 = .ok (.iconst 1, 1) := by decide +kernel
theorem dX12_follow_31 : decode cX12_follow 31 = .ok (.isub, 1) := by decide +kernel
theorem dX12_follow_32 : decode cX12_follow 32 = .ok (.aload_n 0, 1) := by decide +kernel
theorem dX12_follow_33 : decode cX12_follow 33 = .ok (.getfield 43, 3) := by decide +kernel
theorem dX12_follow_36 : decode cX12_follow 36 = .ok (.aload_n 0, 1) := by decide +kernel
theorem dX12_follow_37 : decode cX12_follow 37 = .ok (.getfield 522, 3) := by decide +kernel
theorem dX12_follow_40 : decode cX12_follow 40 = .ok (.iaload, 1) := by decide +kernel
theorem dX12_follow_41 : decode cX12_follow 41 = .ok (.isub, 1) := by decide +kernel
theorem dX12_follow_42 : decode cX12_follow 42 = .ok (.iaload, 1) := by decide +kernel
theorem dX12_follow_43 : decode cX12_follow 43 = .ok (.ifCond .lt 43, 3) := by decide +kernel
theorem dX12_follow_46 : decode cX12_follow 46 = .ok (.aload_n 0, 1) := by decide +kernel
theorem dX12_follow_47 : decode cX12_follow 47 = .ok (.getfield 525, 3) := by decide +kernel
theorem dX12_follow_50 : decode cX12_follow 50 = .ok (.iconst 1, 1) := by decide +kernel
theorem dX12_follow_51 : decode cX12_follow 51 = .ok (.isub, 1) := by decide +kernel
theorem dX12_follow_52 : decode cX12_follow 52 = .ok (.aload_n 0, 1) := by decide +kernel
theorem dX12_follow_53 : decode cX12_follow 53 = .ok (.getfield 43, 3) := by decide +kernel
theorem dX12_follow_56 : decode cX12_follow 56 = .ok (.aload_n 0, 1) := by decide +kernel
theorem dX12_follow_57 : decode cX12_follow 57 = .ok (.getfield 522, 3) := by decide +kernel
theorem dX12_follow_60 : decode cX12_follow 60 = .ok (.iaload, 1) := by decide +kernel
theorem dX12_follow_61 : decode cX12_follow 61 = .ok (.isub, 1) := by decide +kernel
theorem dX12_follow_62 : decode cX12_follow 62 = .ok (.istore_n 3, 1) := by decide +kernel
theorem dX12_follow_63 : decode cX12_follow 63 = .ok (.aload_n 0, 1) := by decide +kernel
theorem dX12_follow_64 : decode cX12_follow 64 = .ok (.aload_n 0, 1) := by decide +kernel
theorem dX12_follow_65 : decode cX12_follow 65 = .ok (.getfield 172, 3) := by decide +kernel
theorem dX12_follow_68 : decode cX12_follow 68 = .ok (.iload_n 3, 1) := by decide +kernel
theorem dX12_follow_69 : decode cX12_follow 69 = .ok (.iaload, 1) := by decide +kernel
theorem dX12_follow_70 : decode cX12_follow 70 = .ok (.putfield 522, 3) := by decide +kernel
theorem dX12_follow_73 : decode cX12_follow 73 = .ok (.aload_n 0, 1) := by decide +kernel
theorem dX12_follow_74 : decode cX12_follow 74 = .ok (.aload_n 0, 1) := by decide +kernel
theorem dX12_follow_75 : decode cX12_follow 75 = .ok (.getfield 175, 3) := by decide +kernel
theorem dX12_follow_78 : decode cX12_follow 78 = .ok (.iload_n 3, 1) := by decide +kernel
theorem dX12_follow_79 : decode cX12_follow 79 = .ok (.iaload, 1) := by decide +kernel
theorem dX12_follow_80 : decode cX12_follow 80 = .ok (.putfield 525, 3) := by decide +kernel
theorem dX12_follow_83 : decode cX12_follow 83 = .ok (.goto (-73), 3) := by decide +kernel
theorem dX12_follow_86 : decode cX12_follow 86 = .ok (.return_, 1) := by decide +kernel
theorem dX12_counted_0 : decode cX12_counted 0 = .ok (.aload_n 0, 1) := by decide +kernel
theorem dX12_counted_1 : decode cX12_counted 1 = .ok (.dup, 1) := by decide +kernel
theorem dX12_counted_2 : decode cX12_counted 2 = .ok (.getfield 549, 3) := by decide +kernel
theorem dX12_counted_5 : decode cX12_counted 5 = .ok (.iconst 1, 1) := by decide +kernel
theorem dX12_counted_6 : decode cX12_counted 6 = .ok (.iadd, 1) := by decide +kernel
theorem dX12_counted_7 : decode cX12_counted 7 = .ok (.putfield 549, 3) := by decide +kernel
theorem dX12_counted_10 : decode cX12_counted 10 = .ok (.aload_n 0, 1) := by decide +kernel
theorem dX12_counted_11 : decode cX12_counted 11 = .ok (.aload_n 0, 1) := by decide +kernel
theorem dX12_counted_12 : decode cX12_counted 12 = .ok (.getfield 552, 3) := by decide +kernel
theorem dX12_counted_15 : decode cX12_counted 15 = .ok (.ifCond .ne 13, 3) := by decide +kernel
theorem dX12_counted_18 : decode cX12_counted 18 = .ok (.aload_n 0, 1) := by decide +kernel
theorem dX12_counted_19 : decode cX12_counted 19 = .ok (.getfield 549, 3) := by decide +kernel
theorem dX12_counted_22 : decode cX12_counted 22 = .ok (.sipush 4000, 3) := by decide +kernel
theorem dX12_counted_25 : decode cX12_counted 25 = .ok (.if_icmp .le 7, 3) := by decide +kernel
theorem dX12_counted_28 : decode cX12_counted 28 = .ok (.iconst 1, 1) := by decide +kernel
theorem dX12_counted_29 : decode cX12_counted 29 = .ok (.goto 4, 3) := by decide +kernel
theorem dX12_counted_32 : decode cX12_counted 32 = .ok (.iconst 0, 1) := by decide +kernel
theorem dX12_counted_33 : decode cX12_counted 33 = .ok (.putfield 552, 3) := by decide +kernel
theorem dX12_counted_36 : decode cX12_counted 36 = .ok (.aload_n 0, 1) := by decide +kernel
theorem dX12_counted_37 : decode cX12_counted 37 = .ok (.getfield 552, 3) := by decide +kernel
theorem dX12_counted_40 : decode cX12_counted 40 = .ok (.ifCond .ne 7, 3) := by decide +kernel
theorem dX12_counted_43 : decode cX12_counted 43 = .ok (.iconst 1, 1) := by decide +kernel
theorem dX12_counted_44 : decode cX12_counted 44 = .ok (.goto 4, 3) := by decide +kernel
theorem dX12_counted_47 : decode cX12_counted 47 = .ok (.iconst 0, 1) := by decide +kernel
theorem dX12_counted_48 : decode cX12_counted 48 = .ok (.ireturn, 1) := by decide +kernel
theorem dX12_stands_0 : decode cX12_stands 0 = .ok (.aload_n 0, 1) := by decide +kernel
theorem dX12_stands_1 : decode cX12_stands 1 = .ok (.iconst 1, 1) := by decide +kernel
theorem dX12_stands_2 : decode cX12_stands 2 = .ok (.putfield 555, 3) := by decide +kernel
theorem dX12_stands_5 : decode cX12_stands 5 = .ok (.aload_n 0, 1) := by decide +kernel
theorem dX12_stands_6 : decode cX12_stands 6 = .ok (.getfield 205, 3) := by decide +kernel
theorem dX12_stands_9 : decode cX12_stands 9 = .ok (.iconst 0, 1) := by decide +kernel
theorem dX12_stands_10 : decode cX12_stands 10 = .ok (.iload_n 2, 1) := by decide +kernel
theorem dX12_stands_11 : decode cX12_stands 11 = .ok (.iastore, 1) := by decide +kernel
theorem dX12_stands_12 : decode cX12_stands 12 = .ok (.aload_n 0, 1) := by decide +kernel
theorem dX12_stands_13 : decode cX12_stands 13 = .ok (.getfield 208, 3) := by decide +kernel
theorem dX12_stands_16 : decode cX12_stands 16 = .ok (.iconst 0, 1) := by decide +kernel
theorem dX12_stands_17 : decode cX12_stands 17 = .ok (.iload_n 3, 1) := by decide +kernel
theorem dX12_stands_18 : decode cX12_stands 18 = .ok (.iastore, 1) := by decide +kernel
theorem dX12_stands_19 : decode cX12_stands 19 = .ok (.aload_n 0, 1) := by decide +kernel
theorem dX12_stands_20 : decode cX12_stands 20 = .ok (.getfield 555, 3) := by decide +kernel
theorem dX12_stands_23 : decode cX12_stands 23 = .ok (.ifCond .le 176, 3) := by decide +kernel
theorem dX12_stands_26 : decode cX12_stands 26 = .ok (.aload_n 0, 1) := by decide +kernel
theorem dX12_stands_27 : decode cX12_stands 27 = .ok (.dup, 1) := by decide +kernel
theorem dX12_stands_28 : decode cX12_stands 28 = .ok (.getfield 555, 3) := by decide +kernel
theorem dX12_stands_31 : decode cX12_stands 31 = .ok (.iconst 1, 1) := by decide +kernel
theorem dX12_stands_32 : decode cX12_stands 32 = .ok (.isub, 1) := by decide +kernel
theorem dX12_stands_33 : decode cX12_stands 33 = .ok (.putfield 555, 3) := by decide +kernel
theorem dX12_stands_36 : decode cX12_stands 36 = .ok (.aload_n 0, 1) := by decide +kernel
theorem dX12_stands_37 : decode cX12_stands 37 = .ok (.aload_n 0, 1) := by decide +kernel
theorem dX12_stands_38 : decode cX12_stands 38 = .ok (.getfield 205, 3) := by decide +kernel
theorem dX12_stands_41 : decode cX12_stands 41 = .ok (.aload_n 0, 1) := by decide +kernel
theorem dX12_stands_42 : decode cX12_stands 42 = .ok (.getfield 555, 3) := by decide +kernel
theorem dX12_stands_45 : decode cX12_stands 45 = .ok (.iaload, 1) := by decide +kernel
theorem dX12_stands_46 : decode cX12_stands 46 = .ok (.aload_n 0, 1) := by decide +kernel
theorem dX12_stands_47 : decode cX12_stands 47 = .ok (.getfield 208, 3) := by decide +kernel
theorem dX12_stands_50 : decode cX12_stands 50 = .ok (.aload_n 0, 1) := by decide +kernel
theorem dX12_stands_51 : decode cX12_stands 51 = .ok (.getfield 555, 3) := by decide +kernel
theorem dX12_stands_54 : decode cX12_stands 54 = .ok (.iaload, 1) := by decide +kernel
theorem dX12_stands_55 : decode cX12_stands 55 = .ok (.invokevirtual 519, 3) := by decide +kernel
theorem dX12_stands_58 : decode cX12_stands 58 = .ok (.aload_n 0, 1) := by decide +kernel
theorem dX12_stands_59 : decode cX12_stands 59 = .ok (.getfield 522, 3) := by decide +kernel
theorem dX12_stands_62 : decode cX12_stands 62 = .ok (.istore 4, 2) := by decide +kernel
theorem dX12_stands_64 : decode cX12_stands 64 = .ok (.aload_n 0, 1) := by decide +kernel
theorem dX12_stands_65 : decode cX12_stands 65 = .ok (.getfield 525, 3) := by decide +kernel
theorem dX12_stands_68 : decode cX12_stands 68 = .ok (.istore 5, 2) := by decide +kernel
theorem dX12_stands_70 : decode cX12_stands 70 = .ok (.aload_n 0, 1) := by decide +kernel
theorem dX12_stands_71 : decode cX12_stands 71 = .ok (.invokevirtual 558, 3) := by decide +kernel
theorem dX12_stands_74 : decode cX12_stands 74 = .ok (.ifCond .ne 5, 3) := by decide +kernel
theorem dX12_stands_77 : decode cX12_stands 77 = .ok (.iconst 1, 1) := by decide +kernel
theorem dX12_stands_78 : decode cX12_stands 78 = .ok (.ireturn, 1) := by decide +kernel
theorem dX12_stands_79 : decode cX12_stands 79 = .ok (.aload_n 0, 1) := by decide +kernel
theorem dX12_stands_80 : decode cX12_stands 80 = .ok (.getfield 43, 3) := by decide +kernel
theorem dX12_stands_83 : decode cX12_stands 83 = .ok (.iload 4, 2) := by decide +kernel
theorem dX12_stands_85 : decode cX12_stands 85 = .ok (.iaload, 1) := by decide +kernel
theorem dX12_stands_86 : decode cX12_stands 86 = .ok (.ifCond .ge 21, 3) := by decide +kernel
theorem dX12_stands_89 : decode cX12_stands 89 = .ok (.iload 5, 2) := by decide +kernel
theorem dX12_stands_91 : decode cX12_stands 91 = .ok (.iconst 1, 1) := by decide +kernel
theorem dX12_stands_92 : decode cX12_stands 92 = .ok (.isub, 1) := by decide +kernel
theorem dX12_stands_93 : decode cX12_stands 93 = .ok (.aload_n 0, 1) := by decide +kernel
theorem dX12_stands_94 : decode cX12_stands 94 = .ok (.getfield 43, 3) := by decide +kernel
theorem dX12_stands_97 : decode cX12_stands 97 = .ok (.iload 4, 2) := by decide +kernel
theorem dX12_stands_99 : decode cX12_stands 99 = .ok (.iaload, 1) := by decide +kernel
theorem dX12_stands_100 : decode cX12_stands 100 = .ok (.isub, 1) := by decide +kernel
theorem dX12_stands_101 : decode cX12_stands 101 = .ok (.iload_n 1, 1) := by decide +kernel
theorem dX12_stands_102 : decode cX12_stands 102 = .ok (.if_icmp .ne (-83), 3) := by decide +kernel
theorem dX12_stands_105 : decode cX12_stands 105 = .ok (.iconst 1, 1) := by decide +kernel
theorem dX12_stands_106 : decode cX12_stands 106 = .ok (.ireturn, 1) := by decide +kernel
theorem dX12_stands_107 : decode cX12_stands 107 = .ok (.aload_n 0, 1) := by decide +kernel
theorem dX12_stands_108 : decode cX12_stands 108 = .ok (.getfield 49, 3) := by decide +kernel
theorem dX12_stands_111 : decode cX12_stands 111 = .ok (.iload 4, 2) := by decide +kernel
theorem dX12_stands_113 : decode cX12_stands 113 = .ok (.iaload, 1) := by decide +kernel
theorem dX12_stands_114 : decode cX12_stands 114 = .ok (.istore 6, 2) := by decide +kernel
theorem dX12_stands_116 : decode cX12_stands 116 = .ok (.iload 4, 2) := by decide +kernel
theorem dX12_stands_118 : decode cX12_stands 118 = .ok (.iconst 1, 1) := by decide +kernel
theorem dX12_stands_119 : decode cX12_stands 119 = .ok (.iadd, 1) := by decide +kernel
theorem dX12_stands_120 : decode cX12_stands 120 = .ok (.istore 7, 2) := by decide +kernel
theorem dX12_stands_122 : decode cX12_stands 122 = .ok (.iconst 0, 1) := by decide +kernel
theorem dX12_stands_123 : decode cX12_stands 123 = .ok (.istore 8, 2) := by decide +kernel
theorem dX12_stands_125 : decode cX12_stands 125 = .ok (.iload 8, 2) := by decide +kernel
theorem dX12_stands_127 : decode cX12_stands 127 = .ok (.iload 6, 2) := by decide +kernel
theorem dX12_stands_129 : decode cX12_stands 129 = .ok (.if_icmp .ge 56, 3) := by decide +kernel
theorem dX12_stands_132 : decode cX12_stands 132 = .ok (.aload_n 0, 1) := by decide +kernel
theorem dX12_stands_133 : decode cX12_stands 133 = .ok (.getfield 205, 3) := by decide +kernel
theorem dX12_stands_136 : decode cX12_stands 136 = .ok (.aload_n 0, 1) := by decide +kernel
theorem dX12_stands_137 : decode cX12_stands 137 = .ok (.getfield 555, 3) := by decide +kernel
theorem dX12_stands_140 : decode cX12_stands 140 = .ok (.iload 6, 2) := by decide +kernel
theorem dX12_stands_142 : decode cX12_stands 142 = .ok (.iadd, 1) := by decide +kernel
theorem dX12_stands_143 : decode cX12_stands 143 = .ok (.iconst 1, 1) := by decide +kernel
theorem dX12_stands_144 : decode cX12_stands 144 = .ok (.isub, 1) := by decide +kernel
theorem dX12_stands_145 : decode cX12_stands 145 = .ok (.iload 8, 2) := by decide +kernel
theorem dX12_stands_147 : decode cX12_stands 147 = .ok (.isub, 1) := by decide +kernel
theorem dX12_stands_148 : decode cX12_stands 148 = .ok (.iload 7, 2) := by decide +kernel
theorem dX12_stands_150 : decode cX12_stands 150 = .ok (.iastore, 1) := by decide +kernel
theorem dX12_stands_151 : decode cX12_stands 151 = .ok (.aload_n 0, 1) := by decide +kernel
theorem dX12_stands_152 : decode cX12_stands 152 = .ok (.getfield 208, 3) := by decide +kernel
theorem dX12_stands_155 : decode cX12_stands 155 = .ok (.aload_n 0, 1) := by decide +kernel
theorem dX12_stands_156 : decode cX12_stands 156 = .ok (.getfield 555, 3) := by decide +kernel
theorem dX12_stands_159 : decode cX12_stands 159 = .ok (.iload 6, 2) := by decide +kernel
theorem dX12_stands_161 : decode cX12_stands 161 = .ok (.iadd, 1) := by decide +kernel
theorem dX12_stands_162 : decode cX12_stands 162 = .ok (.iconst 1, 1) := by decide +kernel
theorem dX12_stands_163 : decode cX12_stands 163 = .ok (.isub, 1) := by decide +kernel
theorem dX12_stands_164 : decode cX12_stands 164 = .ok (.iload 8, 2) := by decide +kernel
theorem dX12_stands_166 : decode cX12_stands 166 = .ok (.isub, 1) := by decide +kernel
theorem dX12_stands_167 : decode cX12_stands 167 = .ok (.iload 5, 2) := by decide +kernel
theorem dX12_stands_169 : decode cX12_stands 169 = .ok (.iastore, 1) := by decide +kernel
theorem dX12_stands_170 : decode cX12_stands 170 = .ok (.aload_n 0, 1) := by decide +kernel
theorem dX12_stands_171 : decode cX12_stands 171 = .ok (.getfield 46, 3) := by decide +kernel
theorem dX12_stands_174 : decode cX12_stands 174 = .ok (.iload 7, 2) := by decide +kernel
theorem dX12_stands_176 : decode cX12_stands 176 = .ok (.iaload, 1) := by decide +kernel
theorem dX12_stands_177 : decode cX12_stands 177 = .ok (.istore 7, 2) := by decide +kernel
theorem dX12_stands_179 : decode cX12_stands 179 = .ok (.iinc 8 1, 3) := by decide +kernel
theorem dX12_stands_182 : decode cX12_stands 182 = .ok (.goto (-57), 3) := by decide +kernel
theorem dX12_stands_185 : decode cX12_stands 185 = .ok (.aload_n 0, 1) := by decide +kernel
theorem dX12_stands_186 : decode cX12_stands 186 = .ok (.dup, 1) := by decide +kernel
theorem dX12_stands_187 : decode cX12_stands 187 = .ok (.getfield 555, 3) := by decide +kernel
theorem dX12_stands_190 : decode cX12_stands 190 = .ok (.iload 6, 2) := by decide +kernel
theorem dX12_stands_192 : decode cX12_stands 192 = .ok (.iadd, 1) := by decide +kernel
theorem dX12_stands_193 : decode cX12_stands 193 = .ok (.putfield 555, 3) := by decide +kernel
theorem dX12_stands_196 : decode cX12_stands 196 = .ok (.goto (-177), 3) := by decide +kernel
theorem dX12_stands_199 : decode cX12_stands 199 = .ok (.iconst 0, 1) := by decide +kernel
theorem dX12_stands_200 : decode cX12_stands 200 = .ok (.ireturn, 1) := by decide +kernel
theorem dX12_argumentsNext_0 : decode cX12_argumentsNext 0 = .ok (.aload_n 0, 1) := by decide +kernel
theorem dX12_argumentsNext_1 : decode cX12_argumentsNext 1 = .ok (.getfield 49, 3) := by decide +kernel
theorem dX12_argumentsNext_4 : decode cX12_argumentsNext 4 = .ok (.iload_n 1, 1) := by decide +kernel
theorem dX12_argumentsNext_5 : decode cX12_argumentsNext 5 = .ok (.iaload, 1) := by decide +kernel
theorem dX12_argumentsNext_6 : decode cX12_argumentsNext 6 = .ok (.istore 5, 2) := by decide +kernel
theorem dX12_argumentsNext_8 : decode cX12_argumentsNext 8 = .ok (.iload_n 1, 1) := by decide +kernel
theorem dX12_argumentsNext_9 : decode cX12_argumentsNext 9 = .ok (.iconst 1, 1) := by decide +kernel
theorem dX12_argumentsNext_10 : decode cX12_argumentsNext 10 = .ok (.iadd, 1) := by decide +kernel
theorem dX12_argumentsNext_11 : decode cX12_argumentsNext 11 = .ok (.istore 6, 2) := by decide +kernel
theorem dX12_argumentsNext_13 : decode cX12_argumentsNext 13 = .ok (.iload_n 3, 1) := by decide +kernel
theorem dX12_argumentsNext_14 : decode cX12_argumentsNext 14 = .ok (.iconst 1, 1) := by decide +kernel
theorem dX12_argumentsNext_15 : decode cX12_argumentsNext 15 = .ok (.iadd, 1) := by decide +kernel
theorem dX12_argumentsNext_16 : decode cX12_argumentsNext 16 = .ok (.istore 7, 2) := by decide +kernel
theorem dX12_argumentsNext_18 : decode cX12_argumentsNext 18 = .ok (.iconst 0, 1) := by decide +kernel
theorem dX12_argumentsNext_19 : decode cX12_argumentsNext 19 = .ok (.istore 8, 2) := by decide +kernel
theorem dX12_argumentsNext_21 : decode cX12_argumentsNext 21 = .ok (.iload 8, 2) := by decide +kernel
theorem dX12_argumentsNext_23 : decode cX12_argumentsNext 23 = .ok (.iload 5, 2) := by decide +kernel
theorem dX12_argumentsNext_25 : decode cX12_argumentsNext 25 = .ok (.if_icmp .ge 76, 3) := by decide +kernel
theorem dX12_argumentsNext_28 : decode cX12_argumentsNext 28 = .ok (.aload_n 0, 1) := by decide +kernel
theorem dX12_argumentsNext_29 : decode cX12_argumentsNext 29 = .ok (.getfield 561, 3) := by decide +kernel
theorem dX12_argumentsNext_32 : decode cX12_argumentsNext 32 = .ok (.iload 5, 2) := by decide +kernel
theorem dX12_argumentsNext_34 : decode cX12_argumentsNext 34 = .ok (.iadd, 1) := by decide +kernel
theorem dX12_argumentsNext_35 : decode cX12_argumentsNext 35 = .ok (.iconst 1, 1) := by decide +kernel
theorem dX12_argumentsNext_36 : decode cX12_argumentsNext 36 = .ok (.isub, 1) := by decide +kernel
theorem dX12_argumentsNext_37 : decode cX12_argumentsNext 37 = .ok (.iload 8, 2) := by decide +kernel
theorem dX12_argumentsNext_39 : decode cX12_argumentsNext 39 = .ok (.isub, 1) := by decide +kernel
theorem dX12_argumentsNext_40 : decode cX12_argumentsNext 40 = .ok (.istore 9, 2) := by decide +kernel
theorem dX12_argumentsNext_42 : decode cX12_argumentsNext 42 = .ok (.aload_n 0, 1) := by decide +kernel
theorem dX12_argumentsNext_43 : decode cX12_argumentsNext 43 = .ok (.getfield 193, 3) := by decide +kernel
theorem dX12_argumentsNext_46 : decode cX12_argumentsNext 46 = .ok (.iload 9, 2) := by decide +kernel
theorem dX12_argumentsNext_48 : decode cX12_argumentsNext 48 = .ok (.iload 6, 2) := by decide +kernel
theorem dX12_argumentsNext_50 : decode cX12_argumentsNext 50 = .ok (.iastore, 1) := by decide +kernel
theorem dX12_argumentsNext_51 : decode cX12_argumentsNext 51 = .ok (.aload_n 0, 1) := by decide +kernel
theorem dX12_argumentsNext_52 : decode cX12_argumentsNext 52 = .ok (.getfield 196, 3) := by decide +kernel
theorem dX12_argumentsNext_55 : decode cX12_argumentsNext 55 = .ok (.iload 9, 2) := by decide +kernel
theorem dX12_argumentsNext_57 : decode cX12_argumentsNext 57 = .ok (.iload_n 2, 1) := by decide +kernel
theorem dX12_argumentsNext_58 : decode cX12_argumentsNext 58 = .ok (.iastore, 1) := by decide +kernel
theorem dX12_argumentsNext_59 : decode cX12_argumentsNext 59 = .ok (.aload_n 0, 1) := by decide +kernel
theorem dX12_argumentsNext_60 : decode cX12_argumentsNext 60 = .ok (.getfield 199, 3) := by decide +kernel
theorem dX12_argumentsNext_63 : decode cX12_argumentsNext 63 = .ok (.iload 9, 2) := by decide +kernel
theorem dX12_argumentsNext_65 : decode cX12_argumentsNext 65 = .ok (.iload 7, 2) := by decide +kernel
theorem dX12_argumentsNext_67 : decode cX12_argumentsNext 67 = .ok (.iastore, 1) := by decide +kernel
theorem dX12_argumentsNext_68 : decode cX12_argumentsNext 68 = .ok (.aload_n 0, 1) := by decide +kernel
theorem dX12_argumentsNext_69 : decode cX12_argumentsNext 69 = .ok (.getfield 202, 3) := by decide +kernel
theorem dX12_argumentsNext_72 : decode cX12_argumentsNext 72 = .ok (.iload 9, 2) := by decide +kernel
theorem dX12_argumentsNext_74 : decode cX12_argumentsNext 74 = .ok (.iload 4, 2) := by decide +kernel
theorem dX12_argumentsNext_76 : decode cX12_argumentsNext 76 = .ok (.iastore, 1) := by decide +kernel
theorem dX12_argumentsNext_77 : decode cX12_argumentsNext 77 = .ok (.aload_n 0, 1) := by decide +kernel
theorem dX12_argumentsNext_78 : decode cX12_argumentsNext 78 = .ok (.getfield 46, 3) := by decide +kernel
theorem dX12_argumentsNext_81 : decode cX12_argumentsNext 81 = .ok (.iload 6, 2) := by decide +kernel
theorem dX12_argumentsNext_83 : decode cX12_argumentsNext 83 = .ok (.iaload, 1) := by decide +kernel
theorem dX12_argumentsNext_84 : decode cX12_argumentsNext 84 = .ok (.istore 6, 2) := by decide +kernel
theorem dX12_argumentsNext_86 : decode cX12_argumentsNext 86 = .ok (.aload_n 0, 1) := by decide +kernel
theorem dX12_argumentsNext_87 : decode cX12_argumentsNext 87 = .ok (.getfield 46, 3) := by decide +kernel
theorem dX12_argumentsNext_90 : decode cX12_argumentsNext 90 = .ok (.iload 7, 2) := by decide +kernel
theorem dX12_argumentsNext_92 : decode cX12_argumentsNext 92 = .ok (.iaload, 1) := by decide +kernel
theorem dX12_argumentsNext_93 : decode cX12_argumentsNext 93 = .ok (.istore 7, 2) := by decide +kernel
theorem dX12_argumentsNext_95 : decode cX12_argumentsNext 95 = .ok (.iinc 8 1, 3) := by decide +kernel
theorem dX12_argumentsNext_98 : decode cX12_argumentsNext 98 = .ok (.goto (-77), 3) := by decide +kernel
theorem dX12_argumentsNext_101 : decode cX12_argumentsNext 101 = .ok (.aload_n 0, 1) := by decide +kernel
theorem dX12_argumentsNext_102 : decode cX12_argumentsNext 102 = .ok (.dup, 1) := by decide +kernel
theorem dX12_argumentsNext_103 : decode cX12_argumentsNext 103 = .ok (.getfield 561, 3) := by decide +kernel
theorem dX12_argumentsNext_106 : decode cX12_argumentsNext 106 = .ok (.iload 5, 2) := by decide +kernel
theorem dX12_argumentsNext_108 : decode cX12_argumentsNext 108 = .ok (.iadd, 1) := by decide +kernel
theorem dX12_argumentsNext_109 : decode cX12_argumentsNext 109 = .ok (.putfield 561, 3) := by decide +kernel
theorem dX12_argumentsNext_112 : decode cX12_argumentsNext 112 = .ok (.return_, 1) := by decide +kernel
theorem dX12_bound_0 : decode cX12_bound 0 = .ok (.aload_n 0, 1) := by decide +kernel
theorem dX12_bound_1 : decode cX12_bound 1 = .ok (.iload_n 1, 1) := by decide +kernel
theorem dX12_bound_2 : decode cX12_bound 2 = .ok (.iload_n 2, 1) := by decide +kernel
theorem dX12_bound_3 : decode cX12_bound 3 = .ok (.iload_n 3, 1) := by decide +kernel
theorem dX12_bound_4 : decode cX12_bound 4 = .ok (.invokevirtual 564, 3) := by decide +kernel
theorem dX12_bound_7 : decode cX12_bound 7 = .ok (.ifCond .eq 5, 3) := by decide +kernel
theorem dX12_bound_10 : decode cX12_bound 10 = .ok (.iconst 0, 1) := by decide +kernel
theorem dX12_bound_11 : decode cX12_bound 11 = .ok (.ireturn, 1) := by decide +kernel
theorem dX12_bound_12 : decode cX12_bound 12 = .ok (.aload_n 0, 1) := by decide +kernel
theorem dX12_bound_13 : decode cX12_bound 13 = .ok (.getfield 172, 3) := by decide +kernel
theorem dX12_bound_16 : decode cX12_bound 16 = .ok (.iload_n 1, 1) := by decide +kernel
theorem dX12_bound_17 : decode cX12_bound 17 = .ok (.iload_n 2, 1) := by decide +kernel
theorem dX12_bound_18 : decode cX12_bound 18 = .ok (.iastore, 1) := by decide +kernel
theorem dX12_bound_19 : decode cX12_bound 19 = .ok (.aload_n 0, 1) := by decide +kernel
theorem dX12_bound_20 : decode cX12_bound 20 = .ok (.getfield 175, 3) := by decide +kernel
theorem dX12_bound_23 : decode cX12_bound 23 = .ok (.iload_n 1, 1) := by decide +kernel
theorem dX12_bound_24 : decode cX12_bound 24 = .ok (.iload_n 3, 1) := by decide +kernel
theorem dX12_bound_25 : decode cX12_bound 25 = .ok (.iastore, 1) := by decide +kernel
theorem dX12_bound_26 : decode cX12_bound 26 = .ok (.aload_n 0, 1) := by decide +kernel
theorem dX12_bound_27 : decode cX12_bound 27 = .ok (.getfield 178, 3) := by decide +kernel
theorem dX12_bound_30 : decode cX12_bound 30 = .ok (.aload_n 0, 1) := by decide +kernel
theorem dX12_bound_31 : decode cX12_bound 31 = .ok (.getfield 567, 3) := by decide +kernel
theorem dX12_bound_34 : decode cX12_bound 34 = .ok (.iload_n 1, 1) := by decide +kernel
theorem dX12_bound_35 : decode cX12_bound 35 = .ok (.iastore, 1) := by decide +kernel
theorem dX12_bound_36 : decode cX12_bound 36 = .ok (.aload_n 0, 1) := by decide +kernel
theorem dX12_bound_37 : decode cX12_bound 37 = .ok (.dup, 1) := by decide +kernel
theorem dX12_bound_38 : decode cX12_bound 38 = .ok (.getfield 567, 3) := by decide +kernel
theorem dX12_bound_41 : decode cX12_bound 41 = .ok (.iconst 1, 1) := by decide +kernel
theorem dX12_bound_42 : decode cX12_bound 42 = .ok (.iadd, 1) := by decide +kernel
theorem dX12_bound_43 : decode cX12_bound 43 = .ok (.putfield 567, 3) := by decide +kernel
theorem dX12_bound_46 : decode cX12_bound 46 = .ok (.iconst 1, 1) := by decide +kernel
theorem dX12_bound_47 : decode cX12_bound 47 = .ok (.ireturn, 1) := by decide +kernel
theorem dX12_unifyAll_0 : decode cX12_unifyAll 0 = .ok (.aload_n 0, 1) := by decide +kernel
theorem dX12_unifyAll_1 : decode cX12_unifyAll 1 = .ok (.iconst 0, 1) := by decide +kernel
theorem dX12_unifyAll_2 : decode cX12_unifyAll 2 = .ok (.putfield 561, 3) := by decide +kernel
theorem dX12_unifyAll_5 : decode cX12_unifyAll 5 = .ok (.aload_n 0, 1) := by decide +kernel
theorem dX12_unifyAll_6 : decode cX12_unifyAll 6 = .ok (.iload_n 1, 1) := by decide +kernel
theorem dX12_unifyAll_7 : decode cX12_unifyAll 7 = .ok (.iload_n 2, 1) := by decide +kernel
theorem dX12_unifyAll_8 : decode cX12_unifyAll 8 = .ok (.iload_n 3, 1) := by decide +kernel
theorem dX12_unifyAll_9 : decode cX12_unifyAll 9 = .ok (.iload 4, 2) := by decide +kernel
theorem dX12_unifyAll_11 : decode cX12_unifyAll 11 = .ok (.invokevirtual 570, 3) := by decide +kernel
theorem dX12_unifyAll_14 : decode cX12_unifyAll 14 = .ok (.aload_n 0, 1) := by decide +kernel
theorem dX12_unifyAll_15 : decode cX12_unifyAll 15 = .ok (.getfield 561, 3) := by decide +kernel
theorem dX12_unifyAll_18 : decode cX12_unifyAll 18 = .ok (.ifCond .le 247, 3) := by decide +kernel
theorem dX12_unifyAll_21 : decode cX12_unifyAll 21 = .ok (.aload_n 0, 1) := by decide +kernel
theorem dX12_unifyAll_22 : decode cX12_unifyAll 22 = .ok (.dup, 1) := by decide +kernel
theorem dX12_unifyAll_23 : decode cX12_unifyAll 23 = .ok (.getfield 561, 3) := by decide +kernel
theorem dX12_unifyAll_26 : decode cX12_unifyAll 26 = .ok (.iconst 1, 1) := by decide +kernel
theorem dX12_unifyAll_27 : decode cX12_unifyAll 27 = .ok (.isub, 1) := by decide +kernel
theorem dX12_unifyAll_28 : decode cX12_unifyAll 28 = .ok (.putfield 561, 3) := by decide +kernel
theorem dX12_unifyAll_31 : decode cX12_unifyAll 31 = .ok (.aload_n 0, 1) := by decide +kernel
theorem dX12_unifyAll_32 : decode cX12_unifyAll 32 = .ok (.invokevirtual 558, 3) := by decide +kernel
theorem dX12_unifyAll_35 : decode cX12_unifyAll 35 = .ok (.ifCond .ne 5, 3) := by decide +kernel
theorem dX12_unifyAll_38 : decode cX12_unifyAll 38 = .ok (.iconst 0, 1) := by decide +kernel
theorem dX12_unifyAll_39 : decode cX12_unifyAll 39 = .ok (.ireturn, 1) := by decide +kernel
theorem dX12_unifyAll_40 : decode cX12_unifyAll 40 = .ok (.aload_n 0, 1) := by decide +kernel
theorem dX12_unifyAll_41 : decode cX12_unifyAll 41 = .ok (.aload_n 0, 1) := by decide +kernel
theorem dX12_unifyAll_42 : decode cX12_unifyAll 42 = .ok (.getfield 193, 3) := by decide +kernel
theorem dX12_unifyAll_45 : decode cX12_unifyAll 45 = .ok (.aload_n 0, 1) := by decide +kernel
theorem dX12_unifyAll_46 : decode cX12_unifyAll 46 = .ok (.getfield 561, 3) := by decide +kernel
theorem dX12_unifyAll_49 : decode cX12_unifyAll 49 = .ok (.iaload, 1) := by decide +kernel
theorem dX12_unifyAll_50 : decode cX12_unifyAll 50 = .ok (.aload_n 0, 1) := by decide +kernel
theorem dX12_unifyAll_51 : decode cX12_unifyAll 51 = .ok (.getfield 196, 3) := by decide +kernel
theorem dX12_unifyAll_54 : decode cX12_unifyAll 54 = .ok (.aload_n 0, 1) := by decide +kernel
theorem dX12_unifyAll_55 : decode cX12_unifyAll 55 = .ok (.getfield 561, 3) := by decide +kernel
theorem dX12_unifyAll_58 : decode cX12_unifyAll 58 = .ok (.iaload, 1) := by decide +kernel
theorem dX12_unifyAll_59 : decode cX12_unifyAll 59 = .ok (.invokevirtual 519, 3) := by decide +kernel
theorem dX12_unifyAll_62 : decode cX12_unifyAll 62 = .ok (.aload_n 0, 1) := by decide +kernel
theorem dX12_unifyAll_63 : decode cX12_unifyAll 63 = .ok (.getfield 522, 3) := by decide +kernel
theorem dX12_unifyAll_66 : decode cX12_unifyAll 66 = .ok (.istore 5, 2) := by decide +kernel
theorem dX12_unifyAll_68 : decode cX12_unifyAll 68 = .ok (.aload_n 0, 1) := by decide +kernel
theorem dX12_unifyAll_69 : decode cX12_unifyAll 69 = .ok (.getfield 525, 3) := by decide +kernel
theorem dX12_unifyAll_72 : decode cX12_unifyAll 72 = .ok (.istore 6, 2) := by decide +kernel
theorem dX12_unifyAll_74 : decode cX12_unifyAll 74 = .ok (.aload_n 0, 1) := by decide +kernel
theorem dX12_unifyAll_75 : decode cX12_unifyAll 75 = .ok (.aload_n 0, 1) := by decide +kernel
theorem dX12_unifyAll_76 : decode cX12_unifyAll 76 = .ok (.getfield 199, 3) := by decide +kernel
theorem dX12_unifyAll_79 : decode cX12_unifyAll 79 = .ok (.aload_n 0, 1) := by decide +kernel
theorem dX12_unifyAll_80 : decode cX12_unifyAll 80 = .ok (.getfield 561, 3) := by decide +kernel
theorem dX12_unifyAll_83 : decode cX12_unifyAll 83 = .ok (.iaload, 1) := by decide +kernel
theorem dX12_unifyAll_84 : decode cX12_unifyAll 84 = .ok (.aload_n 0, 1) := by decide +kernel
theorem dX12_unifyAll_85 : decode cX12_unifyAll 85 = .ok (.getfield 202, 3) := by decide +kernel
theorem dX12_unifyAll_88 : decode cX12_unifyAll 88 = .ok (.aload_n 0, 1) := by decide +kernel
theorem dX12_unifyAll_89 : decode cX12_unifyAll 89 = .ok (.getfield 561, 3) := by decide +kernel
theorem dX12_unifyAll_92 : decode cX12_unifyAll 92 = .ok (.iaload, 1) := by decide +kernel
theorem dX12_unifyAll_93 : decode cX12_unifyAll 93 = .ok (.invokevirtual 519, 3) := by decide +kernel
theorem dX12_unifyAll_96 : decode cX12_unifyAll 96 = .ok (.aload_n 0, 1) := by decide +kernel
theorem dX12_unifyAll_97 : decode cX12_unifyAll 97 = .ok (.getfield 522, 3) := by decide +kernel
theorem dX12_unifyAll_100 : decode cX12_unifyAll 100 = .ok (.istore 7, 2) := by decide +kernel
theorem dX12_unifyAll_102 : decode cX12_unifyAll 102 = .ok (.aload_n 0, 1) := by decide +kernel
theorem dX12_unifyAll_103 : decode cX12_unifyAll 103 = .ok (.getfield 525, 3) := by decide +kernel
theorem dX12_unifyAll_106 : decode cX12_unifyAll 106 = .ok (.istore 8, 2) := by decide +kernel
theorem dX12_unifyAll_108 : decode cX12_unifyAll 108 = .ok (.aload_n 0, 1) := by decide +kernel
theorem dX12_unifyAll_109 : decode cX12_unifyAll 109 = .ok (.getfield 43, 3) := by decide +kernel
theorem dX12_unifyAll_112 : decode cX12_unifyAll 112 = .ok (.iload 5, 2) := by decide +kernel
theorem dX12_unifyAll_114 : decode cX12_unifyAll 114 = .ok (.iaload, 1) := by decide +kernel
theorem dX12_unifyAll_115 : decode cX12_unifyAll 115 = .ok (.ifCond .ge 18, 3) := by decide +kernel
theorem dX12_unifyAll_118 : decode cX12_unifyAll 118 = .ok (.iload 6, 2) := by decide +kernel
theorem dX12_unifyAll_120 : decode cX12_unifyAll 120 = .ok (.iconst 1, 1) := by decide +kernel
theorem dX12_unifyAll_121 : decode cX12_unifyAll 121 = .ok (.isub, 1) := by decide +kernel
theorem dX12_unifyAll_122 : decode cX12_unifyAll 122 = .ok (.aload_n 0, 1) := by decide +kernel
theorem dX12_unifyAll_123 : decode cX12_unifyAll 123 = .ok (.getfield 43, 3) := by decide +kernel
theorem dX12_unifyAll_126 : decode cX12_unifyAll 126 = .ok (.iload 5, 2) := by decide +kernel
theorem dX12_unifyAll_128 : decode cX12_unifyAll 128 = .ok (.iaload, 1) := by decide +kernel
theorem dX12_unifyAll_129 : decode cX12_unifyAll 129 = .ok (.isub, 1) := by decide +kernel
theorem dX12_unifyAll_130 : decode cX12_unifyAll 130 = .ok (.goto 4, 3) := by decide +kernel
theorem dX12_unifyAll_133 : decode cX12_unifyAll 133 = .ok (.iconst (-1), 1) := by decide +kernel
theorem dX12_unifyAll_134 : decode cX12_unifyAll 134 = .ok (.istore 9, 2) := by decide +kernel
theorem dX12_unifyAll_136 : decode cX12_unifyAll 136 = .ok (.aload_n 0, 1) := by decide +kernel
theorem dX12_unifyAll_137 : decode cX12_unifyAll 137 = .ok (.getfield 43, 3) := by decide +kernel
theorem dX12_unifyAll_140 : decode cX12_unifyAll 140 = .ok (.iload 7, 2) := by decide +kernel
theorem dX12_unifyAll_142 : decode cX12_unifyAll 142 = .ok (.iaload, 1) := by decide +kernel
theorem dX12_unifyAll_143 : decode cX12_unifyAll 143 = .ok (.ifCond .ge 18, 3) := by decide +kernel
theorem dX12_unifyAll_146 : decode cX12_unifyAll 146 = .ok (.iload 8, 2) := by decide +kernel
theorem dX12_unifyAll_148 : decode cX12_unifyAll 148 = .ok (.iconst 1, 1) := by decide +kernel
theorem dX12_unifyAll_149 : decode cX12_unifyAll 149 = .ok (.isub, 1) := by decide +kernel
theorem dX12_unifyAll_150 : decode cX12_unifyAll 150 = .ok (.aload_n 0, 1) := by decide +kernel
theorem dX12_unifyAll_151 : decode cX12_unifyAll 151 = .ok (.getfield 43, 3) := by decide +kernel
theorem dX12_unifyAll_154 : decode cX12_unifyAll 154 = .ok (.iload 7, 2) := by decide +kernel
theorem dX12_unifyAll_156 : decode cX12_unifyAll 156 = .ok (.iaload, 1) := by decide +kernel
theorem dX12_unifyAll_157 : decode cX12_unifyAll 157 = .ok (.isub, 1) := by decide +kernel
theorem dX12_unifyAll_158 : decode cX12_unifyAll 158 = .ok (.goto 4, 3) := by decide +kernel
theorem dX12_unifyAll_161 : decode cX12_unifyAll 161 = .ok (.iconst (-1), 1) := by decide +kernel
theorem dX12_unifyAll_162 : decode cX12_unifyAll 162 = .ok (.istore 10, 2) := by decide +kernel
theorem dX12_unifyAll_164 : decode cX12_unifyAll 164 = .ok (.iload 9, 2) := by decide +kernel
theorem dX12_unifyAll_166 : decode cX12_unifyAll 166 = .ok (.ifCond .lt 13, 3) := by decide +kernel
theorem dX12_unifyAll_169 : decode cX12_unifyAll 169 = .ok (.iload 9, 2) := by decide +kernel
theorem dX12_unifyAll_171 : decode cX12_unifyAll 171 = .ok (.iload 10, 2) := by decide +kernel
theorem dX12_unifyAll_173 : decode cX12_unifyAll 173 = .ok (.if_icmp .ne 6, 3) := by decide +kernel
theorem dX12_unifyAll_176 : decode cX12_unifyAll 176 = .ok (.goto (-162), 3) := by decide +kernel
theorem dX12_unifyAll_179 : decode cX12_unifyAll 179 = .ok (.iload 9, 2) := by decide +kernel
theorem dX12_unifyAll_181 : decode cX12_unifyAll 181 = .ok (.ifCond .lt 19, 3) := by decide +kernel
theorem dX12_unifyAll_184 : decode cX12_unifyAll 184 = .ok (.aload_n 0, 1) := by decide +kernel
theorem dX12_unifyAll_185 : decode cX12_unifyAll 185 = .ok (.iload 9, 2) := by decide +kernel
theorem dX12_unifyAll_187 : decode cX12_unifyAll 187 = .ok (.iload 7, 2) := by decide +kernel
theorem dX12_unifyAll_189 : decode cX12_unifyAll 189 = .ok (.iload 8, 2) := by decide +kernel
theorem dX12_unifyAll_191 : decode cX12_unifyAll 191 = .ok (.invokevirtual 574, 3) := by decide +kernel
theorem dX12_unifyAll_194 : decode cX12_unifyAll 194 = .ok (.ifCond .ne 46, 3) := by decide +kernel
theorem dX12_unifyAll_197 : decode cX12_unifyAll 197 = .ok (.goto 41, 3) := by decide +kernel
theorem dX12_unifyAll_200 : decode cX12_unifyAll 200 = .ok (.iload 10, 2) := by decide +kernel
theorem dX12_unifyAll_202 : decode cX12_unifyAll 202 = .ok (.ifCond .lt 19, 3) := by decide +kernel
theorem dX12_unifyAll_205 : decode cX12_unifyAll 205 = .ok (.aload_n 0, 1) := by decide +kernel
theorem dX12_unifyAll_206 : decode cX12_unifyAll 206 = .ok (.iload 10, 2) := by decide +kernel
theorem dX12_unifyAll_208 : decode cX12_unifyAll 208 = .ok (.iload 5, 2) := by decide +kernel
theorem dX12_unifyAll_210 : decode cX12_unifyAll 210 = .ok (.iload 6, 2) := by decide +kernel
theorem dX12_unifyAll_212 : decode cX12_unifyAll 212 = .ok (.invokevirtual 574, 3) := by decide +kernel
theorem dX12_unifyAll_215 : decode cX12_unifyAll 215 = .ok (.ifCond .ne 25, 3) := by decide +kernel
theorem dX12_unifyAll_218 : decode cX12_unifyAll 218 = .ok (.goto 20, 3) := by decide +kernel
theorem dX12_unifyAll_221 : decode cX12_unifyAll 221 = .ok (.aload_n 0, 1) := by decide +kernel
theorem dX12_unifyAll_222 : decode cX12_unifyAll 222 = .ok (.getfield 43, 3) := by decide +kernel
theorem dX12_unifyAll_225 : decode cX12_unifyAll 225 = .ok (.iload 5, 2) := by decide +kernel
theorem dX12_unifyAll_227 : decode cX12_unifyAll 227 = .ok (.iaload, 1) := by decide +kernel
theorem dX12_unifyAll_228 : decode cX12_unifyAll 228 = .ok (.aload_n 0, 1) := by decide +kernel
theorem dX12_unifyAll_229 : decode cX12_unifyAll 229 = .ok (.getfield 43, 3) := by decide +kernel
theorem dX12_unifyAll_232 : decode cX12_unifyAll 232 = .ok (.iload 7, 2) := by decide +kernel
theorem dX12_unifyAll_234 : decode cX12_unifyAll 234 = .ok (.iaload, 1) := by decide +kernel
theorem dX12_unifyAll_235 : decode cX12_unifyAll 235 = .ok (.if_icmp .eq 5, 3) := by decide +kernel
theorem dX12_unifyAll_238 : decode cX12_unifyAll 238 = .ok (.iconst 0, 1) := by decide +kernel
theorem dX12_unifyAll_239 : decode cX12_unifyAll 239 = .ok (.ireturn, 1) := by decide +kernel
theorem dX12_unifyAll_240 : decode cX12_unifyAll 240 = .ok (.iload 9, 2) := by decide +kernel
theorem dX12_unifyAll_242 : decode cX12_unifyAll 242 = .ok (.ifCond .ge 20, 3) := by decide +kernel
theorem dX12_unifyAll_245 : decode cX12_unifyAll 245 = .ok (.iload 10, 2) := by decide +kernel
theorem dX12_unifyAll_247 : decode cX12_unifyAll 247 = .ok (.ifCond .ge 15, 3) := by decide +kernel
theorem dX12_unifyAll_250 : decode cX12_unifyAll 250 = .ok (.aload_n 0, 1) := by decide +kernel
theorem dX12_unifyAll_251 : decode cX12_unifyAll 251 = .ok (.iload 5, 2) := by decide +kernel
theorem dX12_unifyAll_253 : decode cX12_unifyAll 253 = .ok (.iload 6, 2) := by decide +kernel
theorem dX12_unifyAll_255 : decode cX12_unifyAll 255 = .ok (.iload 7, 2) := by decide +kernel
theorem dX12_unifyAll_257 : decode cX12_unifyAll 257 = .ok (.iload 8, 2) := by decide +kernel
theorem dX12_unifyAll_259 : decode cX12_unifyAll 259 = .ok (.invokevirtual 570, 3) := by decide +kernel
theorem dX12_unifyAll_262 : decode cX12_unifyAll 262 = .ok (.goto (-248), 3) := by decide +kernel
theorem dX12_unifyAll_265 : decode cX12_unifyAll 265 = .ok (.iconst 1, 1) := by decide +kernel
theorem dX12_unifyAll_266 : decode cX12_unifyAll 266 = .ok (.ireturn, 1) := by decide +kernel
theorem dX12_alike_0 : decode cX12_alike 0 = .ok (.aload_n 0, 1) := by decide +kernel
theorem dX12_alike_1 : decode cX12_alike 1 = .ok (.iconst 0, 1) := by decide +kernel
theorem dX12_alike_2 : decode cX12_alike 2 = .ok (.putfield 561, 3) := by decide +kernel
theorem dX12_alike_5 : decode cX12_alike 5 = .ok (.aload_n 0, 1) := by decide +kernel
theorem dX12_alike_6 : decode cX12_alike 6 = .ok (.iload_n 1, 1) := by decide +kernel
theorem dX12_alike_7 : decode cX12_alike 7 = .ok (.iload_n 2, 1) := by decide +kernel
theorem dX12_alike_8 : decode cX12_alike 8 = .ok (.iload_n 3, 1) := by decide +kernel
theorem dX12_alike_9 : decode cX12_alike 9 = .ok (.iload 4, 2) := by decide +kernel
theorem dX12_alike_11 : decode cX12_alike 11 = .ok (.invokevirtual 570, 3) := by decide +kernel
theorem dX12_alike_14 : decode cX12_alike 14 = .ok (.aload_n 0, 1) := by decide +kernel
theorem dX12_alike_15 : decode cX12_alike 15 = .ok (.getfield 561, 3) := by decide +kernel
theorem dX12_alike_18 : decode cX12_alike 18 = .ok (.ifCond .le 228, 3) := by decide +kernel
theorem dX12_alike_21 : decode cX12_alike 21 = .ok (.aload_n 0, 1) := by decide +kernel
theorem dX12_alike_22 : decode cX12_alike 22 = .ok (.dup, 1) := by decide +kernel
theorem dX12_alike_23 : decode cX12_alike 23 = .ok (.getfield 561, 3) := by decide +kernel
theorem dX12_alike_26 : decode cX12_alike 26 = .ok (.iconst 1, 1) := by decide +kernel
theorem dX12_alike_27 : decode cX12_alike 27 = .ok (.isub, 1) := by decide +kernel
theorem dX12_alike_28 : decode cX12_alike 28 = .ok (.putfield 561, 3) := by decide +kernel
theorem dX12_alike_31 : decode cX12_alike 31 = .ok (.aload_n 0, 1) := by decide +kernel
theorem dX12_alike_32 : decode cX12_alike 32 = .ok (.invokevirtual 558, 3) := by decide +kernel
theorem dX12_alike_35 : decode cX12_alike 35 = .ok (.ifCond .ne 5, 3) := by decide +kernel
theorem dX12_alike_38 : decode cX12_alike 38 = .ok (.iconst 0, 1) := by decide +kernel
theorem dX12_alike_39 : decode cX12_alike 39 = .ok (.ireturn, 1) := by decide +kernel
theorem dX12_alike_40 : decode cX12_alike 40 = .ok (.aload_n 0, 1) := by decide +kernel
theorem dX12_alike_41 : decode cX12_alike 41 = .ok (.aload_n 0, 1) := by decide +kernel
theorem dX12_alike_42 : decode cX12_alike 42 = .ok (.getfield 193, 3) := by decide +kernel
theorem dX12_alike_45 : decode cX12_alike 45 = .ok (.aload_n 0, 1) := by decide +kernel
theorem dX12_alike_46 : decode cX12_alike 46 = .ok (.getfield 561, 3) := by decide +kernel
theorem dX12_alike_49 : decode cX12_alike 49 = .ok (.iaload, 1) := by decide +kernel
theorem dX12_alike_50 : decode cX12_alike 50 = .ok (.aload_n 0, 1) := by decide +kernel
theorem dX12_alike_51 : decode cX12_alike 51 = .ok (.getfield 196, 3) := by decide +kernel
theorem dX12_alike_54 : decode cX12_alike 54 = .ok (.aload_n 0, 1) := by decide +kernel
theorem dX12_alike_55 : decode cX12_alike 55 = .ok (.getfield 561, 3) := by decide +kernel
theorem dX12_alike_58 : decode cX12_alike 58 = .ok (.iaload, 1) := by decide +kernel
theorem dX12_alike_59 : decode cX12_alike 59 = .ok (.invokevirtual 519, 3) := by decide +kernel
theorem dX12_alike_62 : decode cX12_alike 62 = .ok (.aload_n 0, 1) := by decide +kernel
theorem dX12_alike_63 : decode cX12_alike 63 = .ok (.getfield 522, 3) := by decide +kernel
theorem dX12_alike_66 : decode cX12_alike 66 = .ok (.istore 5, 2) := by decide +kernel
theorem dX12_alike_68 : decode cX12_alike 68 = .ok (.aload_n 0, 1) := by decide +kernel
theorem dX12_alike_69 : decode cX12_alike 69 = .ok (.getfield 525, 3) := by decide +kernel
theorem dX12_alike_72 : decode cX12_alike 72 = .ok (.istore 6, 2) := by decide +kernel
theorem dX12_alike_74 : decode cX12_alike 74 = .ok (.aload_n 0, 1) := by decide +kernel
theorem dX12_alike_75 : decode cX12_alike 75 = .ok (.aload_n 0, 1) := by decide +kernel
theorem dX12_alike_76 : decode cX12_alike 76 = .ok (.getfield 199, 3) := by decide +kernel
theorem dX12_alike_79 : decode cX12_alike 79 = .ok (.aload_n 0, 1) := by decide +kernel
theorem dX12_alike_80 : decode cX12_alike 80 = .ok (.getfield 561, 3) := by decide +kernel
theorem dX12_alike_83 : decode cX12_alike 83 = .ok (.iaload, 1) := by decide +kernel
theorem dX12_alike_84 : decode cX12_alike 84 = .ok (.aload_n 0, 1) := by decide +kernel
theorem dX12_alike_85 : decode cX12_alike 85 = .ok (.getfield 202, 3) := by decide +kernel
theorem dX12_alike_88 : decode cX12_alike 88 = .ok (.aload_n 0, 1) := by decide +kernel
theorem dX12_alike_89 : decode cX12_alike 89 = .ok (.getfield 561, 3) := by decide +kernel
theorem dX12_alike_92 : decode cX12_alike 92 = .ok (.iaload, 1) := by decide +kernel
theorem dX12_alike_93 : decode cX12_alike 93 = .ok (.invokevirtual 519, 3) := by decide +kernel
theorem dX12_alike_96 : decode cX12_alike 96 = .ok (.aload_n 0, 1) := by decide +kernel
theorem dX12_alike_97 : decode cX12_alike 97 = .ok (.getfield 522, 3) := by decide +kernel
theorem dX12_alike_100 : decode cX12_alike 100 = .ok (.istore 7, 2) := by decide +kernel
theorem dX12_alike_102 : decode cX12_alike 102 = .ok (.aload_n 0, 1) := by decide +kernel
theorem dX12_alike_103 : decode cX12_alike 103 = .ok (.getfield 525, 3) := by decide +kernel
theorem dX12_alike_106 : decode cX12_alike 106 = .ok (.istore 8, 2) := by decide +kernel
theorem dX12_alike_108 : decode cX12_alike 108 = .ok (.aload_n 0, 1) := by decide +kernel
theorem dX12_alike_109 : decode cX12_alike 109 = .ok (.getfield 43, 3) := by decide +kernel
theorem dX12_alike_112 : decode cX12_alike 112 = .ok (.iload 5, 2) := by decide +kernel
theorem dX12_alike_114 : decode cX12_alike 114 = .ok (.iaload, 1) := by decide +kernel
theorem dX12_alike_115 : decode cX12_alike 115 = .ok (.ifCond .lt 13, 3) := by decide +kernel
theorem dX12_alike_118 : decode cX12_alike 118 = .ok (.aload_n 0, 1) := by decide +kernel
theorem dX12_alike_119 : decode cX12_alike 119 = .ok (.getfield 43, 3) := by decide +kernel
theorem dX12_alike_122 : decode cX12_alike 122 = .ok (.iload 7, 2) := by decide +kernel
theorem dX12_alike_124 : decode cX12_alike 124 = .ok (.iaload, 1) := by decide +kernel
theorem dX12_alike_125 : decode cX12_alike 125 = .ok (.ifCond .ge 7, 3) := by decide +kernel
theorem dX12_alike_128 : decode cX12_alike 128 = .ok (.iconst 1, 1) := by decide +kernel
theorem dX12_alike_129 : decode cX12_alike 129 = .ok (.goto 4, 3) := by decide +kernel
theorem dX12_alike_132 : decode cX12_alike 132 = .ok (.iconst 0, 1) := by decide +kernel
theorem dX12_alike_133 : decode cX12_alike 133 = .ok (.istore 9, 2) := by decide +kernel
theorem dX12_alike_135 : decode cX12_alike 135 = .ok (.iload 9, 2) := by decide +kernel
theorem dX12_alike_137 : decode cX12_alike 137 = .ok (.ifCond .eq 58, 3) := by decide +kernel
theorem dX12_alike_140 : decode cX12_alike 140 = .ok (.aload_n 0, 1) := by decide +kernel
theorem dX12_alike_141 : decode cX12_alike 141 = .ok (.getfield 43, 3) := by decide +kernel
theorem dX12_alike_144 : decode cX12_alike 144 = .ok (.iload 5, 2) := by decide +kernel
theorem dX12_alike_146 : decode cX12_alike 146 = .ok (.iaload, 1) := by decide +kernel
theorem dX12_alike_147 : decode cX12_alike 147 = .ok (.ifCond .ge 44, 3) := by decide +kernel
theorem dX12_alike_150 : decode cX12_alike 150 = .ok (.aload_n 0, 1) := by decide +kernel
theorem dX12_alike_151 : decode cX12_alike 151 = .ok (.getfield 43, 3) := by decide +kernel
theorem dX12_alike_154 : decode cX12_alike 154 = .ok (.iload 7, 2) := by decide +kernel
theorem dX12_alike_156 : decode cX12_alike 156 = .ok (.iaload, 1) := by decide +kernel
theorem dX12_alike_157 : decode cX12_alike 157 = .ok (.ifCond .ge 34, 3) := by decide +kernel
theorem dX12_alike_160 : decode cX12_alike 160 = .ok (.iload 6, 2) := by decide +kernel
theorem dX12_alike_162 : decode cX12_alike 162 = .ok (.iconst 1, 1) := by decide +kernel
theorem dX12_alike_163 : decode cX12_alike 163 = .ok (.isub, 1) := by decide +kernel
theorem dX12_alike_164 : decode cX12_alike 164 = .ok (.aload_n 0, 1) := by decide +kernel
theorem dX12_alike_165 : decode cX12_alike 165 = .ok (.getfield 43, 3) := by decide +kernel
theorem dX12_alike_168 : decode cX12_alike 168 = .ok (.iload 5, 2) := by decide +kernel
theorem dX12_alike_170 : decode cX12_alike 170 = .ok (.iaload, 1) := by decide +kernel
theorem dX12_alike_171 : decode cX12_alike 171 = .ok (.isub, 1) := by decide +kernel
theorem dX12_alike_172 : decode cX12_alike 172 = .ok (.iload 8, 2) := by decide +kernel
theorem dX12_alike_174 : decode cX12_alike 174 = .ok (.iconst 1, 1) := by decide +kernel
theorem dX12_alike_175 : decode cX12_alike 175 = .ok (.isub, 1) := by decide +kernel
theorem dX12_alike_176 : decode cX12_alike 176 = .ok (.aload_n 0, 1) := by decide +kernel
theorem dX12_alike_177 : decode cX12_alike 177 = .ok (.getfield 43, 3) := by decide +kernel
theorem dX12_alike_180 : decode cX12_alike 180 = .ok (.iload 7, 2) := by decide +kernel
theorem dX12_alike_182 : decode cX12_alike 182 = .ok (.iaload, 1) := by decide +kernel
theorem dX12_alike_183 : decode cX12_alike 183 = .ok (.isub, 1) := by decide +kernel
theorem dX12_alike_184 : decode cX12_alike 184 = .ok (.if_icmp .ne 7, 3) := by decide +kernel
theorem dX12_alike_187 : decode cX12_alike 187 = .ok (.iconst 1, 1) := by decide +kernel
theorem dX12_alike_188 : decode cX12_alike 188 = .ok (.goto 29, 3) := by decide +kernel
theorem dX12_alike_191 : decode cX12_alike 191 = .ok (.iconst 0, 1) := by decide +kernel
theorem dX12_alike_192 : decode cX12_alike 192 = .ok (.goto 25, 3) := by decide +kernel
theorem dX12_alike_195 : decode cX12_alike 195 = .ok (.aload_n 0, 1) := by decide +kernel
theorem dX12_alike_196 : decode cX12_alike 196 = .ok (.getfield 43, 3) := by decide +kernel
theorem dX12_alike_199 : decode cX12_alike 199 = .ok (.iload 5, 2) := by decide +kernel
theorem dX12_alike_201 : decode cX12_alike 201 = .ok (.iaload, 1) := by decide +kernel
theorem dX12_alike_202 : decode cX12_alike 202 = .ok (.aload_n 0, 1) := by decide +kernel
theorem dX12_alike_203 : decode cX12_alike 203 = .ok (.getfield 43, 3) := by decide +kernel
theorem dX12_alike_206 : decode cX12_alike 206 = .ok (.iload 7, 2) := by decide +kernel
theorem dX12_alike_208 : decode cX12_alike 208 = .ok (.iaload, 1) := by decide +kernel
theorem dX12_alike_209 : decode cX12_alike 209 = .ok (.if_icmp .ne 7, 3) := by decide +kernel
theorem dX12_alike_212 : decode cX12_alike 212 = .ok (.iconst 1, 1) := by decide +kernel
theorem dX12_alike_213 : decode cX12_alike 213 = .ok (.goto 4, 3) := by decide +kernel
theorem dX12_alike_216 : decode cX12_alike 216 = .ok (.iconst 0, 1) := by decide +kernel
theorem dX12_alike_217 : decode cX12_alike 217 = .ok (.istore 10, 2) := by decide +kernel
theorem dX12_alike_219 : decode cX12_alike 219 = .ok (.iload 10, 2) := by decide +kernel
theorem dX12_alike_221 : decode cX12_alike 221 = .ok (.ifCond .ne 5, 3) := by decide +kernel
theorem dX12_alike_224 : decode cX12_alike 224 = .ok (.iconst 0, 1) := by decide +kernel
theorem dX12_alike_225 : decode cX12_alike 225 = .ok (.ireturn, 1) := by decide +kernel
theorem dX12_alike_226 : decode cX12_alike 226 = .ok (.iload 9, 2) := by decide +kernel
theorem dX12_alike_228 : decode cX12_alike 228 = .ok (.ifCond .ne 15, 3) := by decide +kernel
theorem dX12_alike_231 : decode cX12_alike 231 = .ok (.aload_n 0, 1) := by decide +kernel
theorem dX12_alike_232 : decode cX12_alike 232 = .ok (.iload 5, 2) := by decide +kernel
theorem dX12_alike_234 : decode cX12_alike 234 = .ok (.iload 6, 2) := by decide +kernel
theorem dX12_alike_236 : decode cX12_alike 236 = .ok (.iload 7, 2) := by decide +kernel
theorem dX12_alike_238 : decode cX12_alike 238 = .ok (.iload 8, 2) := by decide +kernel
theorem dX12_alike_240 : decode cX12_alike 240 = .ok (.invokevirtual 570, 3) := by decide +kernel
theorem dX12_alike_243 : decode cX12_alike 243 = .ok (.goto (-229), 3) := by decide +kernel
theorem dX12_alike_246 : decode cX12_alike 246 = .ok (.iconst 1, 1) := by decide +kernel
theorem dX12_alike_247 : decode cX12_alike 247 = .ok (.ireturn, 1) := by decide +kernel
theorem dX12_takeBack_0 : decode cX12_takeBack 0 = .ok (.aload_n 0, 1) := by decide +kernel
theorem dX12_takeBack_1 : decode cX12_takeBack 1 = .ok (.getfield 567, 3) := by decide +kernel
theorem dX12_takeBack_4 : decode cX12_takeBack 4 = .ok (.iload_n 1, 1) := by decide +kernel
theorem dX12_takeBack_5 : decode cX12_takeBack 5 = .ok (.if_icmp .le 31, 3) := by decide +kernel
theorem dX12_takeBack_8 : decode cX12_takeBack 8 = .ok (.aload_n 0, 1) := by decide +kernel
theorem dX12_takeBack_9 : decode cX12_takeBack 9 = .ok (.dup, 1) := by decide +kernel
theorem dX12_takeBack_10 : decode cX12_takeBack 10 = .ok (.getfield 567, 3) := by decide +kernel
theorem dX12_takeBack_13 : decode cX12_takeBack 13 = .ok (.iconst 1, 1) := by decide +kernel
theorem dX12_takeBack_14 : decode cX12_takeBack 14 = .ok (.isub, 1) := by decide +kernel
theorem dX12_takeBack_15 : decode cX12_takeBack 15 = .ok (.putfield 567, 3) := by decide +kernel
theorem dX12_takeBack_18 : decode cX12_takeBack 18 = .ok (.aload_n 0, 1) := by decide +kernel
theorem dX12_takeBack_19 : decode cX12_takeBack 19 = .ok (.getfield 172, 3) := by decide +kernel
theorem dX12_takeBack_22 : decode cX12_takeBack 22 = .ok (.aload_n 0, 1) := by decide +kernel
theorem dX12_takeBack_23 : decode cX12_takeBack 23 = .ok (.getfield 178, 3) := by decide +kernel
theorem dX12_takeBack_26 : decode cX12_takeBack 26 = .ok (.aload_n 0, 1) := by decide +kernel
theorem dX12_takeBack_27 : decode cX12_takeBack 27 = .ok (.getfield 567, 3) := by decide +kernel
theorem dX12_takeBack_30 : decode cX12_takeBack 30 = .ok (.iaload, 1) := by decide +kernel
theorem dX12_takeBack_31 : decode cX12_takeBack 31 = .ok (.iconst (-1), 1) := by decide +kernel
theorem dX12_takeBack_32 : decode cX12_takeBack 32 = .ok (.iastore, 1) := by decide +kernel
theorem dX12_takeBack_33 : decode cX12_takeBack 33 = .ok (.goto (-33), 3) := by decide +kernel
theorem dX12_takeBack_36 : decode cX12_takeBack 36 = .ok (.return_, 1) := by decide +kernel
theorem dX12_predicate_0 : decode cX12_predicate 0 = .ok (.aload_n 0, 1) := by decide +kernel
theorem dX12_predicate_1 : decode cX12_predicate 1 = .ok (.getfield 43, 3) := by decide +kernel
theorem dX12_predicate_4 : decode cX12_predicate 4 = .ok (.aload_n 0, 1) := by decide +kernel
theorem dX12_predicate_5 : decode cX12_predicate 5 = .ok (.getfield 40, 3) := by decide +kernel
theorem dX12_predicate_8 : decode cX12_predicate 8 = .ok (.iload_n 1, 1) := by decide +kernel
theorem dX12_predicate_9 : decode cX12_predicate 9 = .ok (.iaload, 1) := by decide +kernel
theorem dX12_predicate_10 : decode cX12_predicate 10 = .ok (.iaload, 1) := by decide +kernel
theorem dX12_predicate_11 : decode cX12_predicate 11 = .ok (.ireturn, 1) := by decide +kernel
theorem dX12_repeats_0 : decode cX12_repeats 0 = .ok (.aload_n 0, 1) := by decide +kernel
theorem dX12_repeats_1 : decode cX12_repeats 1 = .ok (.iconst 0, 1) := by decide +kernel
theorem dX12_repeats_2 : decode cX12_repeats 2 = .ok (.putfield 549, 3) := by decide +kernel
theorem dX12_repeats_5 : decode cX12_repeats 5 = .ok (.aload_n 0, 1) := by decide +kernel
theorem dX12_repeats_6 : decode cX12_repeats 6 = .ok (.getfield 160, 3) := by decide +kernel
theorem dX12_repeats_9 : decode cX12_repeats 9 = .ok (.iload_n 1, 1) := by decide +kernel
theorem dX12_repeats_10 : decode cX12_repeats 10 = .ok (.iaload, 1) := by decide +kernel
theorem dX12_repeats_11 : decode cX12_repeats 11 = .ok (.istore_n 2, 1) := by decide +kernel
theorem dX12_repeats_12 : decode cX12_repeats 12 = .ok (.aload_n 0, 1) := by decide +kernel
theorem dX12_repeats_13 : decode cX12_repeats 13 = .ok (.getfield 166, 3) := by decide +kernel
theorem dX12_repeats_16 : decode cX12_repeats 16 = .ok (.iload_n 1, 1) := by decide +kernel
theorem dX12_repeats_17 : decode cX12_repeats 17 = .ok (.iaload, 1) := by decide +kernel
theorem dX12_repeats_18 : decode cX12_repeats 18 = .ok (.istore_n 3, 1) := by decide +kernel
theorem dX12_repeats_19 : decode cX12_repeats 19 = .ok (.iload_n 3, 1) := by decide +kernel
theorem dX12_repeats_20 : decode cX12_repeats 20 = .ok (.ifCond .lt 92, 3) := by decide +kernel
theorem dX12_repeats_23 : decode cX12_repeats 23 = .ok (.aload_n 0, 1) := by decide +kernel
theorem dX12_repeats_24 : decode cX12_repeats 24 = .ok (.getfield 552, 3) := by decide +kernel
theorem dX12_repeats_27 : decode cX12_repeats 27 = .ok (.ifCond .ne 85, 3) := by decide +kernel
theorem dX12_repeats_30 : decode cX12_repeats 30 = .ok (.aload_n 0, 1) := by decide +kernel
theorem dX12_repeats_31 : decode cX12_repeats 31 = .ok (.getfield 160, 3) := by decide +kernel
theorem dX12_repeats_34 : decode cX12_repeats 34 = .ok (.iload_n 3, 1) := by decide +kernel
theorem dX12_repeats_35 : decode cX12_repeats 35 = .ok (.iaload, 1) := by decide +kernel
theorem dX12_repeats_36 : decode cX12_repeats 36 = .ok (.istore 4, 2) := by decide +kernel
theorem dX12_repeats_38 : decode cX12_repeats 38 = .ok (.aload_n 0, 1) := by decide +kernel
theorem dX12_repeats_39 : decode cX12_repeats 39 = .ok (.getfield 37, 3) := by decide +kernel
theorem dX12_repeats_42 : decode cX12_repeats 42 = .ok (.iload 4, 2) := by decide +kernel
theorem dX12_repeats_44 : decode cX12_repeats 44 = .ok (.baload, 1) := by decide +kernel
theorem dX12_repeats_45 : decode cX12_repeats 45 = .ok (.aload_n 0, 1) := by decide +kernel
theorem dX12_repeats_46 : decode cX12_repeats 46 = .ok (.getfield 37, 3) := by decide +kernel
theorem dX12_repeats_49 : decode cX12_repeats 49 = .ok (.iload_n 2, 1) := by decide +kernel
theorem dX12_repeats_50 : decode cX12_repeats 50 = .ok (.baload, 1) := by decide +kernel
theorem dX12_repeats_51 : decode cX12_repeats 51 = .ok (.if_icmp .ne 51, 3) := by decide +kernel
theorem dX12_repeats_54 : decode cX12_repeats 54 = .ok (.aload_n 0, 1) := by decide +kernel
theorem dX12_repeats_55 : decode cX12_repeats 55 = .ok (.iload 4, 2) := by decide +kernel
theorem dX12_repeats_57 : decode cX12_repeats 57 = .ok (.invokevirtual 577, 3) := by decide +kernel
theorem dX12_repeats_60 : decode cX12_repeats 60 = .ok (.aload_n 0, 1) := by decide +kernel
theorem dX12_repeats_61 : decode cX12_repeats 61 = .ok (.iload_n 2, 1) := by decide +kernel
theorem dX12_repeats_62 : decode cX12_repeats 62 = .ok (.invokevirtual 577, 3) := by decide +kernel
theorem dX12_repeats_65 : decode cX12_repeats 65 = .ok (.if_icmp .ne 37, 3) := by decide +kernel
theorem dX12_repeats_68 : decode cX12_repeats 68 = .ok (.aload_n 0, 1) := by decide +kernel
theorem dX12_repeats_69 : decode cX12_repeats 69 = .ok (.aload_n 0, 1) := by decide +kernel
theorem dX12_repeats_70 : decode cX12_repeats 70 = .ok (.getfield 40, 3) := by decide +kernel
theorem dX12_repeats_73 : decode cX12_repeats 73 = .ok (.iload_n 2, 1) := by decide +kernel
theorem dX12_repeats_74 : decode cX12_repeats 74 = .ok (.iaload, 1) := by decide +kernel
theorem dX12_repeats_75 : decode cX12_repeats 75 = .ok (.aload_n 0, 1) := by decide +kernel
theorem dX12_repeats_76 : decode cX12_repeats 76 = .ok (.getfield 163, 3) := by decide +kernel
theorem dX12_repeats_79 : decode cX12_repeats 79 = .ok (.iload_n 1, 1) := by decide +kernel
theorem dX12_repeats_80 : decode cX12_repeats 80 = .ok (.iaload, 1) := by decide +kernel
theorem dX12_repeats_81 : decode cX12_repeats 81 = .ok (.aload_n 0, 1) := by decide +kernel
theorem dX12_repeats_82 : decode cX12_repeats 82 = .ok (.getfield 40, 3) := by decide +kernel
theorem dX12_repeats_85 : decode cX12_repeats 85 = .ok (.iload 4, 2) := by decide +kernel
theorem dX12_repeats_87 : decode cX12_repeats 87 = .ok (.iaload, 1) := by decide +kernel
theorem dX12_repeats_88 : decode cX12_repeats 88 = .ok (.aload_n 0, 1) := by decide +kernel
theorem dX12_repeats_89 : decode cX12_repeats 89 = .ok (.getfield 163, 3) := by decide +kernel
theorem dX12_repeats_92 : decode cX12_repeats 92 = .ok (.iload_n 3, 1) := by decide +kernel
theorem dX12_repeats_93 : decode cX12_repeats 93 = .ok (.iaload, 1) := by decide +kernel
theorem dX12_repeats_94 : decode cX12_repeats 94 = .ok (.invokevirtual 580, 3) := by decide +kernel
theorem dX12_repeats_97 : decode cX12_repeats 97 = .ok (.ifCond .eq 5, 3) := by decide +kernel
theorem dX12_repeats_100 : decode cX12_repeats 100 = .ok (.iconst 1, 1) := by decide +kernel
theorem dX12_repeats_101 : decode cX12_repeats 101 = .ok (.ireturn, 1) := by decide +kernel
theorem dX12_repeats_102 : decode cX12_repeats 102 = .ok (.aload_n 0, 1) := by decide +kernel
theorem dX12_repeats_103 : decode cX12_repeats 103 = .ok (.getfield 166, 3) := by decide +kernel
theorem dX12_repeats_106 : decode cX12_repeats 106 = .ok (.iload_n 3, 1) := by decide +kernel
theorem dX12_repeats_107 : decode cX12_repeats 107 = .ok (.iaload, 1) := by decide +kernel
theorem dX12_repeats_108 : decode cX12_repeats 108 = .ok (.istore_n 3, 1) := by decide +kernel
theorem dX12_repeats_109 : decode cX12_repeats 109 = .ok (.goto (-90), 3) := by decide +kernel
theorem dX12_repeats_112 : decode cX12_repeats 112 = .ok (.aload_n 0, 1) := by decide +kernel
theorem dX12_repeats_113 : decode cX12_repeats 113 = .ok (.getfield 552, 3) := by decide +kernel
theorem dX12_repeats_116 : decode cX12_repeats 116 = .ok (.ireturn, 1) := by decide +kernel
theorem dX12_mayStep_0 : decode cX12_mayStep 0 = .ok (.aload_n 0, 1) := by decide +kernel
theorem dX12_mayStep_1 : decode cX12_mayStep 1 = .ok (.getfield 484, 3) := by decide +kernel
theorem dX12_mayStep_4 : decode cX12_mayStep 4 = .ok (.aload_n 0, 1) := by decide +kernel
theorem dX12_mayStep_5 : decode cX12_mayStep 5 = .ok (.getfield 584, 3) := by decide +kernel
theorem dX12_mayStep_8 : decode cX12_mayStep 8 = .ok (.if_icmp .ne 10, 3) := by decide +kernel
theorem dX12_mayStep_11 : decode cX12_mayStep 11 = .ok (.aload_n 0, 1) := by decide +kernel
theorem dX12_mayStep_12 : decode cX12_mayStep 12 = .ok (.iconst 1, 1) := by decide +kernel
theorem dX12_mayStep_13 : decode cX12_mayStep 13 = .ok (.putfield 587, 3) := by decide +kernel
theorem dX12_mayStep_16 : decode cX12_mayStep 16 = .ok (.iconst 0, 1) := by decide +kernel
theorem dX12_mayStep_17 : decode cX12_mayStep 17 = .ok (.ireturn, 1) := by decide +kernel
theorem dX12_mayStep_18 : decode cX12_mayStep 18 = .ok (.aload_n 0, 1) := by decide +kernel
theorem dX12_mayStep_19 : decode cX12_mayStep 19 = .ok (.dup, 1) := by decide +kernel
theorem dX12_mayStep_20 : decode cX12_mayStep 20 = .ok (.getfield 484, 3) := by decide +kernel
theorem dX12_mayStep_23 : decode cX12_mayStep 23 = .ok (.iconst 1, 1) := by decide +kernel
theorem dX12_mayStep_24 : decode cX12_mayStep 24 = .ok (.iadd, 1) := by decide +kernel
theorem dX12_mayStep_25 : decode cX12_mayStep 25 = .ok (.putfield 484, 3) := by decide +kernel
theorem dX12_mayStep_28 : decode cX12_mayStep 28 = .ok (.iconst 1, 1) := by decide +kernel
theorem dX12_mayStep_29 : decode cX12_mayStep 29 = .ok (.ireturn, 1) := by decide +kernel
theorem dX12_newVariables_0 : decode cX12_newVariables 0 = .ok (.iconst 0, 1) := by decide +kernel
theorem dX12_newVariables_1 : decode cX12_newVariables 1 = .ok (.istore_n 2, 1) := by decide +kernel
theorem dX12_newVariables_2 : decode cX12_newVariables 2 = .ok (.iload_n 2, 1) := by decide +kernel
theorem dX12_newVariables_3 : decode cX12_newVariables 3 = .ok (.iload_n 1, 1) := by decide +kernel
theorem dX12_newVariables_4 : decode cX12_newVariables 4 = .ok (.if_icmp .ge 21, 3) := by decide +kernel
theorem dX12_newVariables_7 : decode cX12_newVariables 7 = .ok (.aload_n 0, 1) := by decide +kernel
theorem dX12_newVariables_8 : decode cX12_newVariables 8 = .ok (.getfield 172, 3) := by decide +kernel
theorem dX12_newVariables_11 : decode cX12_newVariables 11 = .ok (.aload_n 0, 1) := by decide +kernel
theorem dX12_newVariables_12 : decode cX12_newVariables 12 = .ok (.getfield 590, 3) := by decide +kernel
theorem dX12_newVariables_15 : decode cX12_newVariables 15 = .ok (.iload_n 2, 1) := by decide +kernel
theorem dX12_newVariables_16 : decode cX12_newVariables 16 = .ok (.iadd, 1) := by decide +kernel
theorem dX12_newVariables_17 : decode cX12_newVariables 17 = .ok (.iconst (-1), 1) := by decide +kernel
theorem dX12_newVariables_18 : decode cX12_newVariables 18 = .ok (.iastore, 1) := by decide +kernel
theorem dX12_newVariables_19 : decode cX12_newVariables 19 = .ok (.iinc 2 1, 3) := by decide +kernel
theorem dX12_newVariables_22 : decode cX12_newVariables 22 = .ok (.goto (-20), 3) := by decide +kernel
theorem dX12_newVariables_25 : decode cX12_newVariables 25 = .ok (.aload_n 0, 1) := by decide +kernel
theorem dX12_newVariables_26 : decode cX12_newVariables 26 = .ok (.dup, 1) := by decide +kernel
theorem dX12_newVariables_27 : decode cX12_newVariables 27 = .ok (.getfield 590, 3) := by decide +kernel
theorem dX12_newVariables_30 : decode cX12_newVariables 30 = .ok (.iload_n 1, 1) := by decide +kernel
theorem dX12_newVariables_31 : decode cX12_newVariables 31 = .ok (.iadd, 1) := by decide +kernel
theorem dX12_newVariables_32 : decode cX12_newVariables 32 = .ok (.putfield 590, 3) := by decide +kernel
theorem dX12_newVariables_35 : decode cX12_newVariables 35 = .ok (.return_, 1) := by decide +kernel
theorem dX12_comes_0 : decode cX12_comes 0 = .ok (.iload 5, 2) := by decide +kernel
theorem dX12_comes_2 : decode cX12_comes 2 = .ok (.istore 6, 2) := by decide +kernel
theorem dX12_comes_4 : decode cX12_comes 4 = .ok (.aload_n 0, 1) := by decide +kernel
theorem dX12_comes_5 : decode cX12_comes 5 = .ok (.getfield 31, 3) := by decide +kernel
theorem dX12_comes_8 : decode cX12_comes 8 = .ok (.iload_n 1, 1) := by decide +kernel
theorem dX12_comes_9 : decode cX12_comes 9 = .ok (.iaload, 1) := by decide +kernel
theorem dX12_comes_10 : decode cX12_comes 10 = .ok (.iconst 1, 1) := by decide +kernel
theorem dX12_comes_11 : decode cX12_comes 11 = .ok (.isub, 1) := by decide +kernel
theorem dX12_comes_12 : decode cX12_comes 12 = .ok (.istore 7, 2) := by decide +kernel
theorem dX12_comes_14 : decode cX12_comes 14 = .ok (.iload 7, 2) := by decide +kernel
theorem dX12_comes_16 : decode cX12_comes 16 = .ok (.ifCond .lt 103, 3) := by decide +kernel
theorem dX12_comes_19 : decode cX12_comes 19 = .ok (.iload 7, 2) := by decide +kernel
theorem dX12_comes_21 : decode cX12_comes 21 = .ok (.iload_n 2, 1) := by decide +kernel
theorem dX12_comes_22 : decode cX12_comes 22 = .ok (.if_icmp .ne 6, 3) := by decide +kernel
theorem dX12_comes_25 : decode cX12_comes 25 = .ok (.goto 88, 3) := by decide +kernel
theorem dX12_comes_28 : decode cX12_comes 28 = .ok (.aload_n 0, 1) := by decide +kernel
theorem dX12_comes_29 : decode cX12_comes 29 = .ok (.getfield 593, 3) := by decide +kernel
theorem dX12_comes_32 : decode cX12_comes 32 = .ok (.istore 8, 2) := by decide +kernel
theorem dX12_comes_34 : decode cX12_comes 34 = .ok (.aload_n 0, 1) := by decide +kernel
theorem dX12_comes_35 : decode cX12_comes 35 = .ok (.dup, 1) := by decide +kernel
theorem dX12_comes_36 : decode cX12_comes 36 = .ok (.getfield 593, 3) := by decide +kernel
theorem dX12_comes_39 : decode cX12_comes 39 = .ok (.iconst 1, 1) := by decide +kernel
theorem dX12_comes_40 : decode cX12_comes 40 = .ok (.iadd, 1) := by decide +kernel
theorem dX12_comes_41 : decode cX12_comes 41 = .ok (.putfield 593, 3) := by decide +kernel
theorem dX12_comes_44 : decode cX12_comes 44 = .ok (.aload_n 0, 1) := by decide +kernel
theorem dX12_comes_45 : decode cX12_comes 45 = .ok (.getfield 160, 3) := by decide +kernel
theorem dX12_comes_48 : decode cX12_comes 48 = .ok (.iload 8, 2) := by decide +kernel
theorem dX12_comes_50 : decode cX12_comes 50 = .ok (.aload_n 0, 1) := by decide +kernel
theorem dX12_comes_51 : decode cX12_comes 51 = .ok (.getfield 28, 3) := by decide +kernel
theorem dX12_comes_54 : decode cX12_comes 54 = .ok (.iload_n 1, 1) := by decide +kernel
theorem dX12_comes_55 : decode cX12_comes 55 = .ok (.iaload, 1) := by decide +kernel
theorem dX12_comes_56 : decode cX12_comes 56 = .ok (.iload 7, 2) := by decide +kernel
theorem dX12_comes_58 : decode cX12_comes 58 = .ok (.iadd, 1) := by decide +kernel
theorem dX12_comes_59 : decode cX12_comes 59 = .ok (.iastore, 1) := by decide +kernel
theorem dX12_comes_60 : decode cX12_comes 60 = .ok (.aload_n 0, 1) := by decide +kernel
theorem dX12_comes_61 : decode cX12_comes 61 = .ok (.getfield 163, 3) := by decide +kernel
theorem dX12_comes_64 : decode cX12_comes 64 = .ok (.iload 8, 2) := by decide +kernel
theorem dX12_comes_66 : decode cX12_comes 66 = .ok (.iload 4, 2) := by decide +kernel
theorem dX12_comes_68 : decode cX12_comes 68 = .ok (.iastore, 1) := by decide +kernel
theorem dX12_comes_69 : decode cX12_comes 69 = .ok (.aload_n 0, 1) := by decide +kernel
theorem dX12_comes_70 : decode cX12_comes 70 = .ok (.getfield 166, 3) := by decide +kernel
theorem dX12_comes_73 : decode cX12_comes 73 = .ok (.iload 8, 2) := by decide +kernel
theorem dX12_comes_75 : decode cX12_comes 75 = .ok (.iload_n 3, 1) := by decide +kernel
theorem dX12_comes_76 : decode cX12_comes 76 = .ok (.iastore, 1) := by decide +kernel
theorem dX12_comes_77 : decode cX12_comes 77 = .ok (.aload_n 0, 1) := by decide +kernel
theorem dX12_comes_78 : decode cX12_comes 78 = .ok (.getfield 169, 3) := by decide +kernel
theorem dX12_comes_81 : decode cX12_comes 81 = .ok (.iload 8, 2) := by decide +kernel
theorem dX12_comes_83 : decode cX12_comes 83 = .ok (.iload_n 3, 1) := by decide +kernel
theorem dX12_comes_84 : decode cX12_comes 84 = .ok (.ifCond .ge 7, 3) := by decide +kernel
theorem dX12_comes_87 : decode cX12_comes 87 = .ok (.iconst 0, 1) := by decide +kernel
theorem dX12_comes_88 : decode cX12_comes 88 = .ok (.goto 11, 3) := by decide +kernel
theorem dX12_comes_91 : decode cX12_comes 91 = .ok (.aload_n 0, 1) := by decide +kernel
theorem dX12_comes_92 : decode cX12_comes 92 = .ok (.getfield 169, 3) := by decide +kernel
theorem dX12_comes_95 : decode cX12_comes 95 = .ok (.iload_n 3, 1) := by decide +kernel
theorem dX12_comes_96 : decode cX12_comes 96 = .ok (.iaload, 1) := by decide +kernel
theorem dX12_comes_97 : decode cX12_comes 97 = .ok (.iconst 1, 1) := by decide +kernel
theorem dX12_comes_98 : decode cX12_comes 98 = .ok (.iadd, 1) := by decide +kernel
theorem dX12_comes_99 : decode cX12_comes 99 = .ok (.iastore, 1) := by decide +kernel
theorem dX12_comes_100 : decode cX12_comes 100 = .ok (.aload_n 0, 1) := by decide +kernel
theorem dX12_comes_101 : decode cX12_comes 101 = .ok (.getfield 211, 3) := by decide +kernel
theorem dX12_comes_104 : decode cX12_comes 104 = .ok (.iload 8, 2) := by decide +kernel
theorem dX12_comes_106 : decode cX12_comes 106 = .ok (.iload 6, 2) := by decide +kernel
theorem dX12_comes_108 : decode cX12_comes 108 = .ok (.iastore, 1) := by decide +kernel
theorem dX12_comes_109 : decode cX12_comes 109 = .ok (.iload 8, 2) := by decide +kernel
theorem dX12_comes_111 : decode cX12_comes 111 = .ok (.istore 6, 2) := by decide +kernel
theorem dX12_comes_113 : decode cX12_comes 113 = .ok (.iinc 7 (-1), 3) := by decide +kernel
theorem dX12_comes_116 : decode cX12_comes 116 = .ok (.goto (-102), 3) := by decide +kernel
theorem dX12_comes_119 : decode cX12_comes 119 = .ok (.iload 6, 2) := by decide +kernel
theorem dX12_comes_121 : decode cX12_comes 121 = .ok (.ireturn, 1) := by decide +kernel
theorem dX12_tooMuch_0 : decode cX12_tooMuch 0 = .ok (.aload_n 0, 1) := by decide +kernel
theorem dX12_tooMuch_1 : decode cX12_tooMuch 1 = .ok (.dup, 1) := by decide +kernel
theorem dX12_tooMuch_2 : decode cX12_tooMuch 2 = .ok (.getfield 596, 3) := by decide +kernel
theorem dX12_tooMuch_5 : decode cX12_tooMuch 5 = .ok (.aload_n 0, 1) := by decide +kernel
theorem dX12_tooMuch_6 : decode cX12_tooMuch 6 = .ok (.getfield 31, 3) := by decide +kernel
theorem dX12_tooMuch_9 : decode cX12_tooMuch 9 = .ok (.iload_n 1, 1) := by decide +kernel
theorem dX12_tooMuch_10 : decode cX12_tooMuch 10 = .ok (.iaload, 1) := by decide +kernel
theorem dX12_tooMuch_11 : decode cX12_tooMuch 11 = .ok (.iadd, 1) := by decide +kernel
theorem dX12_tooMuch_12 : decode cX12_tooMuch 12 = .ok (.putfield 596, 3) := by decide +kernel
theorem dX12_tooMuch_15 : decode cX12_tooMuch 15 = .ok (.aload_n 0, 1) := by decide +kernel
theorem dX12_tooMuch_16 : decode cX12_tooMuch 16 = .ok (.aload_n 0, 1) := by decide +kernel
theorem dX12_tooMuch_17 : decode cX12_tooMuch 17 = .ok (.getfield 552, 3) := by decide +kernel
theorem dX12_tooMuch_20 : decode cX12_tooMuch 20 = .ok (.ifCond .ne 23, 3) := by decide +kernel
theorem dX12_tooMuch_23 : decode cX12_tooMuch 23 = .ok (.aload_n 0, 1) := by decide +kernel
theorem dX12_tooMuch_24 : decode cX12_tooMuch 24 = .ok (.getfield 596, 3) := by decide +kernel
theorem dX12_tooMuch_27 : decode cX12_tooMuch 27 = .ok (.sipush 150, 3) := by decide +kernel
theorem dX12_tooMuch_30 : decode cX12_tooMuch 30 = .ok (.if_icmp .gt 13, 3) := by decide +kernel
theorem dX12_tooMuch_33 : decode cX12_tooMuch 33 = .ok (.aload_n 0, 1) := by decide +kernel
theorem dX12_tooMuch_34 : decode cX12_tooMuch 34 = .ok (.getfield 590, 3) := by decide +kernel
theorem dX12_tooMuch_37 : decode cX12_tooMuch 37 = .ok (.sipush 200, 3) := by decide +kernel
theorem dX12_tooMuch_40 : decode cX12_tooMuch 40 = .ok (.if_icmp .le 7, 3) := by decide +kernel
theorem dX12_tooMuch_43 : decode cX12_tooMuch 43 = .ok (.iconst 1, 1) := by decide +kernel
theorem dX12_tooMuch_44 : decode cX12_tooMuch 44 = .ok (.goto 4, 3) := by decide +kernel
theorem dX12_tooMuch_47 : decode cX12_tooMuch 47 = .ok (.iconst 0, 1) := by decide +kernel
theorem dX12_tooMuch_48 : decode cX12_tooMuch 48 = .ok (.putfield 552, 3) := by decide +kernel
theorem dX12_tooMuch_51 : decode cX12_tooMuch 51 = .ok (.aload_n 0, 1) := by decide +kernel
theorem dX12_tooMuch_52 : decode cX12_tooMuch 52 = .ok (.getfield 552, 3) := by decide +kernel
theorem dX12_tooMuch_55 : decode cX12_tooMuch 55 = .ok (.ireturn, 1) := by decide +kernel
theorem dX12_moved_0 : decode cX12_moved 0 = .ok (.aload_n 0, 1) := by decide +kernel
theorem dX12_moved_1 : decode cX12_moved 1 = .ok (.getfield 181, 3) := by decide +kernel
theorem dX12_moved_4 : decode cX12_moved 4 = .ok (.aload_n 0, 1) := by decide +kernel
theorem dX12_moved_5 : decode cX12_moved 5 = .ok (.getfield 490, 3) := by decide +kernel
theorem dX12_moved_8 : decode cX12_moved 8 = .ok (.iload_n 1, 1) := by decide +kernel
theorem dX12_moved_9 : decode cX12_moved 9 = .ok (.iastore, 1) := by decide +kernel
theorem dX12_moved_10 : decode cX12_moved 10 = .ok (.aload_n 0, 1) := by decide +kernel
theorem dX12_moved_11 : decode cX12_moved 11 = .ok (.getfield 184, 3) := by decide +kernel
theorem dX12_moved_14 : decode cX12_moved 14 = .ok (.aload_n 0, 1) := by decide +kernel
theorem dX12_moved_15 : decode cX12_moved 15 = .ok (.getfield 490, 3) := by decide +kernel
theorem dX12_moved_18 : decode cX12_moved 18 = .ok (.iload_n 2, 1) := by decide +kernel
theorem dX12_moved_19 : decode cX12_moved 19 = .ok (.iastore, 1) := by decide +kernel
theorem dX12_moved_20 : decode cX12_moved 20 = .ok (.aload_n 0, 1) := by decide +kernel
theorem dX12_moved_21 : decode cX12_moved 21 = .ok (.getfield 187, 3) := by decide +kernel
theorem dX12_moved_24 : decode cX12_moved 24 = .ok (.aload_n 0, 1) := by decide +kernel
theorem dX12_moved_25 : decode cX12_moved 25 = .ok (.getfield 490, 3) := by decide +kernel
theorem dX12_moved_28 : decode cX12_moved 28 = .ok (.iload_n 3, 1) := by decide +kernel
theorem dX12_moved_29 : decode cX12_moved 29 = .ok (.iastore, 1) := by decide +kernel
theorem dX12_moved_30 : decode cX12_moved 30 = .ok (.aload_n 0, 1) := by decide +kernel
theorem dX12_moved_31 : decode cX12_moved 31 = .ok (.getfield 190, 3) := by decide +kernel
theorem dX12_moved_34 : decode cX12_moved 34 = .ok (.aload_n 0, 1) := by decide +kernel
theorem dX12_moved_35 : decode cX12_moved 35 = .ok (.getfield 490, 3) := by decide +kernel
theorem dX12_moved_38 : decode cX12_moved 38 = .ok (.iload 4, 2) := by decide +kernel
theorem dX12_moved_40 : decode cX12_moved 40 = .ok (.iastore, 1) := by decide +kernel
theorem dX12_moved_41 : decode cX12_moved 41 = .ok (.aload_n 0, 1) := by decide +kernel
theorem dX12_moved_42 : decode cX12_moved 42 = .ok (.dup, 1) := by decide +kernel
theorem dX12_moved_43 : decode cX12_moved 43 = .ok (.getfield 490, 3) := by decide +kernel
theorem dX12_moved_46 : decode cX12_moved 46 = .ok (.iconst 1, 1) := by decide +kernel
theorem dX12_moved_47 : decode cX12_moved 47 = .ok (.iadd, 1) := by decide +kernel
theorem dX12_moved_48 : decode cX12_moved 48 = .ok (.putfield 490, 3) := by decide +kernel
theorem dX12_moved_51 : decode cX12_moved 51 = .ok (.return_, 1) := by decide +kernel
theorem dX12_enter_0 : decode cX12_enter 0 = .ok (.aload_n 0, 1) := by decide +kernel
theorem dX12_enter_1 : decode cX12_enter 1 = .ok (.getfield 599, 3) := by decide +kernel
theorem dX12_enter_4 : decode cX12_enter 4 = .ok (.istore_n 2, 1) := by decide +kernel
theorem dX12_enter_5 : decode cX12_enter 5 = .ok (.aload_n 0, 1) := by decide +kernel
theorem dX12_enter_6 : decode cX12_enter 6 = .ok (.dup, 1) := by decide +kernel
theorem dX12_enter_7 : decode cX12_enter 7 = .ok (.getfield 599, 3) := by decide +kernel
theorem dX12_enter_10 : decode cX12_enter 10 = .ok (.iconst 1, 1) := by decide +kernel
theorem dX12_enter_11 : decode cX12_enter 11 = .ok (.iadd, 1) := by decide +kernel
theorem dX12_enter_12 : decode cX12_enter 12 = .ok (.putfield 599, 3) := by decide +kernel
theorem dX12_enter_15 : decode cX12_enter 15 = .ok (.aload_n 0, 1) := by decide +kernel
theorem dX12_enter_16 : decode cX12_enter 16 = .ok (.getfield 214, 3) := by decide +kernel
theorem dX12_enter_19 : decode cX12_enter 19 = .ok (.iload_n 2, 1) := by decide +kernel
theorem dX12_enter_20 : decode cX12_enter 20 = .ok (.iload_n 1, 1) := by decide +kernel
theorem dX12_enter_21 : decode cX12_enter 21 = .ok (.iastore, 1) := by decide +kernel
theorem dX12_enter_22 : decode cX12_enter 22 = .ok (.aload_n 0, 1) := by decide +kernel
theorem dX12_enter_23 : decode cX12_enter 23 = .ok (.getfield 217, 3) := by decide +kernel
theorem dX12_enter_26 : decode cX12_enter 26 = .ok (.iload_n 2, 1) := by decide +kernel
theorem dX12_enter_27 : decode cX12_enter 27 = .ok (.aload_n 0, 1) := by decide +kernel
theorem dX12_enter_28 : decode cX12_enter 28 = .ok (.getfield 166, 3) := by decide +kernel
theorem dX12_enter_31 : decode cX12_enter 31 = .ok (.iload_n 1, 1) := by decide +kernel
theorem dX12_enter_32 : decode cX12_enter 32 = .ok (.iaload, 1) := by decide +kernel
theorem dX12_enter_33 : decode cX12_enter 33 = .ok (.iastore, 1) := by decide +kernel
theorem dX12_enter_34 : decode cX12_enter 34 = .ok (.aload_n 0, 1) := by decide +kernel
theorem dX12_enter_35 : decode cX12_enter 35 = .ok (.getfield 220, 3) := by decide +kernel
theorem dX12_enter_38 : decode cX12_enter 38 = .ok (.iload_n 2, 1) := by decide +kernel
theorem dX12_enter_39 : decode cX12_enter 39 = .ok (.iconst 0, 1) := by decide +kernel
theorem dX12_enter_40 : decode cX12_enter 40 = .ok (.iastore, 1) := by decide +kernel
theorem dX12_enter_41 : decode cX12_enter 41 = .ok (.aload_n 0, 1) := by decide +kernel
theorem dX12_enter_42 : decode cX12_enter 42 = .ok (.getfield 223, 3) := by decide +kernel
theorem dX12_enter_45 : decode cX12_enter 45 = .ok (.iload_n 2, 1) := by decide +kernel
theorem dX12_enter_46 : decode cX12_enter 46 = .ok (.iconst 0, 1) := by decide +kernel
theorem dX12_enter_47 : decode cX12_enter 47 = .ok (.iastore, 1) := by decide +kernel
theorem dX12_enter_48 : decode cX12_enter 48 = .ok (.aload_n 0, 1) := by decide +kernel
theorem dX12_enter_49 : decode cX12_enter 49 = .ok (.getfield 226, 3) := by decide +kernel
theorem dX12_enter_52 : decode cX12_enter 52 = .ok (.iload_n 2, 1) := by decide +kernel
theorem dX12_enter_53 : decode cX12_enter 53 = .ok (.aload_n 0, 1) := by decide +kernel
theorem dX12_enter_54 : decode cX12_enter 54 = .ok (.getfield 567, 3) := by decide +kernel
theorem dX12_enter_57 : decode cX12_enter 57 = .ok (.iastore, 1) := by decide +kernel
theorem dX12_enter_58 : decode cX12_enter 58 = .ok (.aload_n 0, 1) := by decide +kernel
theorem dX12_enter_59 : decode cX12_enter 59 = .ok (.getfield 229, 3) := by decide +kernel
theorem dX12_enter_62 : decode cX12_enter 62 = .ok (.iload_n 2, 1) := by decide +kernel
theorem dX12_enter_63 : decode cX12_enter 63 = .ok (.aload_n 0, 1) := by decide +kernel
theorem dX12_enter_64 : decode cX12_enter 64 = .ok (.getfield 590, 3) := by decide +kernel
theorem dX12_enter_67 : decode cX12_enter 67 = .ok (.iastore, 1) := by decide +kernel
theorem dX12_enter_68 : decode cX12_enter 68 = .ok (.aload_n 0, 1) := by decide +kernel
theorem dX12_enter_69 : decode cX12_enter 69 = .ok (.getfield 232, 3) := by decide +kernel
theorem dX12_enter_72 : decode cX12_enter 72 = .ok (.iload_n 2, 1) := by decide +kernel
theorem dX12_enter_73 : decode cX12_enter 73 = .ok (.aload_n 0, 1) := by decide +kernel
theorem dX12_enter_74 : decode cX12_enter 74 = .ok (.getfield 593, 3) := by decide +kernel
theorem dX12_enter_77 : decode cX12_enter 77 = .ok (.iastore, 1) := by decide +kernel
theorem dX12_enter_78 : decode cX12_enter 78 = .ok (.aload_n 0, 1) := by decide +kernel
theorem dX12_enter_79 : decode cX12_enter 79 = .ok (.getfield 235, 3) := by decide +kernel
theorem dX12_enter_82 : decode cX12_enter 82 = .ok (.iload_n 2, 1) := by decide +kernel
theorem dX12_enter_83 : decode cX12_enter 83 = .ok (.aload_n 0, 1) := by decide +kernel
theorem dX12_enter_84 : decode cX12_enter 84 = .ok (.getfield 596, 3) := by decide +kernel
theorem dX12_enter_87 : decode cX12_enter 87 = .ok (.iastore, 1) := by decide +kernel
theorem dX12_enter_88 : decode cX12_enter 88 = .ok (.aload_n 0, 1) := by decide +kernel
theorem dX12_enter_89 : decode cX12_enter 89 = .ok (.getfield 238, 3) := by decide +kernel
theorem dX12_enter_92 : decode cX12_enter 92 = .ok (.iload_n 2, 1) := by decide +kernel
theorem dX12_enter_93 : decode cX12_enter 93 = .ok (.aload_n 0, 1) := by decide +kernel
theorem dX12_enter_94 : decode cX12_enter 94 = .ok (.getfield 490, 3) := by decide +kernel
theorem dX12_enter_97 : decode cX12_enter 97 = .ok (.iastore, 1) := by decide +kernel
theorem dX12_enter_98 : decode cX12_enter 98 = .ok (.return_, 1) := by decide +kernel
theorem dX12_restore_0 : decode cX12_restore 0 = .ok (.aload_n 0, 1) := by decide +kernel
theorem dX12_restore_1 : decode cX12_restore 1 = .ok (.aload_n 0, 1) := by decide +kernel
theorem dX12_restore_2 : decode cX12_restore 2 = .ok (.getfield 226, 3) := by decide +kernel
theorem dX12_restore_5 : decode cX12_restore 5 = .ok (.iload_n 1, 1) := by decide +kernel
theorem dX12_restore_6 : decode cX12_restore 6 = .ok (.iaload, 1) := by decide +kernel
theorem dX12_restore_7 : decode cX12_restore 7 = .ok (.invokevirtual 602, 3) := by decide +kernel
theorem dX12_restore_10 : decode cX12_restore 10 = .ok (.aload_n 0, 1) := by decide +kernel
theorem dX12_restore_11 : decode cX12_restore 11 = .ok (.aload_n 0, 1) := by decide +kernel
theorem dX12_restore_12 : decode cX12_restore 12 = .ok (.getfield 229, 3) := by decide +kernel
theorem dX12_restore_15 : decode cX12_restore 15 = .ok (.iload_n 1, 1) := by decide +kernel
theorem dX12_restore_16 : decode cX12_restore 16 = .ok (.iaload, 1) := by decide +kernel
theorem dX12_restore_17 : decode cX12_restore 17 = .ok (.putfield 590, 3) := by decide +kernel
theorem dX12_restore_20 : decode cX12_restore 20 = .ok (.aload_n 0, 1) := by decide +kernel
theorem dX12_restore_21 : decode cX12_restore 21 = .ok (.aload_n 0, 1) := by decide +kernel
theorem dX12_restore_22 : decode cX12_restore 22 = .ok (.getfield 232, 3) := by decide +kernel
theorem dX12_restore_25 : decode cX12_restore 25 = .ok (.iload_n 1, 1) := by decide +kernel
theorem dX12_restore_26 : decode cX12_restore 26 = .ok (.iaload, 1) := by decide +kernel
theorem dX12_restore_27 : decode cX12_restore 27 = .ok (.putfield 593, 3) := by decide +kernel
theorem dX12_restore_30 : decode cX12_restore 30 = .ok (.aload_n 0, 1) := by decide +kernel
theorem dX12_restore_31 : decode cX12_restore 31 = .ok (.aload_n 0, 1) := by decide +kernel
theorem dX12_restore_32 : decode cX12_restore 32 = .ok (.getfield 235, 3) := by decide +kernel
theorem dX12_restore_35 : decode cX12_restore 35 = .ok (.iload_n 1, 1) := by decide +kernel
theorem dX12_restore_36 : decode cX12_restore 36 = .ok (.iaload, 1) := by decide +kernel
theorem dX12_restore_37 : decode cX12_restore 37 = .ok (.putfield 596, 3) := by decide +kernel
theorem dX12_restore_40 : decode cX12_restore 40 = .ok (.aload_n 0, 1) := by decide +kernel
theorem dX12_restore_41 : decode cX12_restore 41 = .ok (.aload_n 0, 1) := by decide +kernel
theorem dX12_restore_42 : decode cX12_restore 42 = .ok (.getfield 238, 3) := by decide +kernel
theorem dX12_restore_45 : decode cX12_restore 45 = .ok (.iload_n 1, 1) := by decide +kernel
theorem dX12_restore_46 : decode cX12_restore 46 = .ok (.iaload, 1) := by decide +kernel
theorem dX12_restore_47 : decode cX12_restore 47 = .ok (.putfield 490, 3) := by decide +kernel
theorem dX12_restore_50 : decode cX12_restore 50 = .ok (.return_, 1) := by decide +kernel
theorem dX12_solve_0 : decode cX12_solve 0 = .ok (.aload_n 0, 1) := by decide +kernel
theorem dX12_solve_1 : decode cX12_solve 1 = .ok (.iconst 0, 1) := by decide +kernel
theorem dX12_solve_2 : decode cX12_solve 2 = .ok (.putfield 599, 3) := by decide +kernel
theorem dX12_solve_5 : decode cX12_solve 5 = .ok (.iload_n 1, 1) := by decide +kernel
theorem dX12_solve_6 : decode cX12_solve 6 = .ok (.istore_n 2, 1) := by decide +kernel
theorem dX12_solve_7 : decode cX12_solve 7 = .ok (.iload_n 2, 1) := by decide +kernel
theorem dX12_solve_8 : decode cX12_solve 8 = .ok (.ifCond .lt 84, 3) := by decide +kernel
theorem dX12_solve_11 : decode cX12_solve 11 = .ok (.iconst 0, 1) := by decide +kernel
theorem dX12_solve_12 : decode cX12_solve 12 = .ok (.istore_n 3, 1) := by decide +kernel
theorem dX12_solve_13 : decode cX12_solve 13 = .ok (.aload_n 0, 1) := by decide +kernel
theorem dX12_solve_14 : decode cX12_solve 14 = .ok (.iload_n 2, 1) := by decide +kernel
theorem dX12_solve_15 : decode cX12_solve 15 = .ok (.invokevirtual 605, 3) := by decide +kernel
theorem dX12_solve_18 : decode cX12_solve 18 = .ok (.ifCond .ne 13, 3) := by decide +kernel
theorem dX12_solve_21 : decode cX12_solve 21 = .ok (.aload_n 0, 1) := by decide +kernel
theorem dX12_solve_22 : decode cX12_solve 22 = .ok (.iload_n 2, 1) := by decide +kernel
theorem dX12_solve_23 : decode cX12_solve 23 = .ok (.invokevirtual 608, 3) := by decide +kernel
theorem dX12_solve_26 : decode cX12_solve 26 = .ok (.aload_n 0, 1) := by decide +kernel
theorem dX12_solve_27 : decode cX12_solve 27 = .ok (.invokevirtual 611, 3) := by decide +kernel
theorem dX12_solve_30 : decode cX12_solve 30 = .ok (.istore_n 3, 1) := by decide +kernel
theorem dX12_solve_31 : decode cX12_solve 31 = .ok (.iload_n 3, 1) := by decide +kernel
theorem dX12_solve_32 : decode cX12_solve 32 = .ok (.ifCond .ne 32, 3) := by decide +kernel
theorem dX12_solve_35 : decode cX12_solve 35 = .ok (.aload_n 0, 1) := by decide +kernel
theorem dX12_solve_36 : decode cX12_solve 36 = .ok (.getfield 599, 3) := by decide +kernel
theorem dX12_solve_39 : decode cX12_solve 39 = .ok (.ifCond .le 25, 3) := by decide +kernel
theorem dX12_solve_42 : decode cX12_solve 42 = .ok (.aload_n 0, 1) := by decide +kernel
theorem dX12_solve_43 : decode cX12_solve 43 = .ok (.getfield 552, 3) := by decide +kernel
theorem dX12_solve_46 : decode cX12_solve 46 = .ok (.ifCond .ne 18, 3) := by decide +kernel
theorem dX12_solve_49 : decode cX12_solve 49 = .ok (.aload_n 0, 1) := by decide +kernel
theorem dX12_solve_50 : decode cX12_solve 50 = .ok (.getfield 587, 3) := by decide +kernel
theorem dX12_solve_53 : decode cX12_solve 53 = .ok (.ifCond .ne 11, 3) := by decide +kernel
theorem dX12_solve_56 : decode cX12_solve 56 = .ok (.aload_n 0, 1) := by decide +kernel
theorem dX12_solve_57 : decode cX12_solve 57 = .ok (.invokevirtual 611, 3) := by decide +kernel
theorem dX12_solve_60 : decode cX12_solve 60 = .ok (.istore_n 3, 1) := by decide +kernel
theorem dX12_solve_61 : decode cX12_solve 61 = .ok (.goto (-30), 3) := by decide +kernel
theorem dX12_solve_64 : decode cX12_solve 64 = .ok (.iload_n 3, 1) := by decide +kernel
theorem dX12_solve_65 : decode cX12_solve 65 = .ok (.ifCond .eq 17, 3) := by decide +kernel
theorem dX12_solve_68 : decode cX12_solve 68 = .ok (.aload_n 0, 1) := by decide +kernel
theorem dX12_solve_69 : decode cX12_solve 69 = .ok (.getfield 552, 3) := by decide +kernel
theorem dX12_solve_72 : decode cX12_solve 72 = .ok (.ifCond .ne 10, 3) := by decide +kernel
theorem dX12_solve_75 : decode cX12_solve 75 = .ok (.aload_n 0, 1) := by decide +kernel
theorem dX12_solve_76 : decode cX12_solve 76 = .ok (.getfield 587, 3) := by decide +kernel
theorem dX12_solve_79 : decode cX12_solve 79 = .ok (.ifCond .eq 5, 3) := by decide +kernel
theorem dX12_solve_82 : decode cX12_solve 82 = .ok (.iconst 0, 1) := by decide +kernel
theorem dX12_solve_83 : decode cX12_solve 83 = .ok (.ireturn, 1) := by decide +kernel
theorem dX12_solve_84 : decode cX12_solve 84 = .ok (.aload_n 0, 1) := by decide +kernel
theorem dX12_solve_85 : decode cX12_solve 85 = .ok (.getfield 614, 3) := by decide +kernel
theorem dX12_solve_88 : decode cX12_solve 88 = .ok (.istore_n 2, 1) := by decide +kernel
theorem dX12_solve_89 : decode cX12_solve 89 = .ok (.goto (-82), 3) := by decide +kernel
theorem dX12_solve_92 : decode cX12_solve 92 = .ok (.iconst 1, 1) := by decide +kernel
theorem dX12_solve_93 : decode cX12_solve 93 = .ok (.ireturn, 1) := by decide +kernel
theorem dX12_tryNext_0 : decode cX12_tryNext 0 = .ok (.aload_n 0, 1) := by decide +kernel
theorem dX12_tryNext_1 : decode cX12_tryNext 1 = .ok (.getfield 599, 3) := by decide +kernel
theorem dX12_tryNext_4 : decode cX12_tryNext 4 = .ok (.iconst 1, 1) := by decide +kernel
theorem dX12_tryNext_5 : decode cX12_tryNext 5 = .ok (.isub, 1) := by decide +kernel
theorem dX12_tryNext_6 : decode cX12_tryNext 6 = .ok (.istore_n 1, 1) := by decide +kernel
theorem dX12_tryNext_7 : decode cX12_tryNext 7 = .ok (.aload_n 0, 1) := by decide +kernel
theorem dX12_tryNext_8 : decode cX12_tryNext 8 = .ok (.iload_n 1, 1) := by decide +kernel
theorem dX12_tryNext_9 : decode cX12_tryNext 9 = .ok (.invokevirtual 617, 3) := by decide +kernel
theorem dX12_tryNext_12 : decode cX12_tryNext 12 = .ok (.aload_n 0, 1) := by decide +kernel
theorem dX12_tryNext_13 : decode cX12_tryNext 13 = .ok (.getfield 214, 3) := by decide +kernel
theorem dX12_tryNext_16 : decode cX12_tryNext 16 = .ok (.iload_n 1, 1) := by decide +kernel
theorem dX12_tryNext_17 : decode cX12_tryNext 17 = .ok (.iaload, 1) := by decide +kernel
theorem dX12_tryNext_18 : decode cX12_tryNext 18 = .ok (.istore_n 2, 1) := by decide +kernel
theorem dX12_tryNext_19 : decode cX12_tryNext 19 = .ok (.aload_n 0, 1) := by decide +kernel
theorem dX12_tryNext_20 : decode cX12_tryNext 20 = .ok (.getfield 217, 3) := by decide +kernel
theorem dX12_tryNext_23 : decode cX12_tryNext 23 = .ok (.iload_n 1, 1) := by decide +kernel
theorem dX12_tryNext_24 : decode cX12_tryNext 24 = .ok (.iaload, 1) := by decide +kernel
theorem dX12_tryNext_25 : decode cX12_tryNext 25 = .ok (.ifCond .lt 57, 3) := by decide +kernel
theorem dX12_tryNext_28 : decode cX12_tryNext 28 = .ok (.aload_n 0, 1) := by decide +kernel
theorem dX12_tryNext_29 : decode cX12_tryNext 29 = .ok (.getfield 217, 3) := by decide +kernel
theorem dX12_tryNext_32 : decode cX12_tryNext 32 = .ok (.iload_n 1, 1) := by decide +kernel
theorem dX12_tryNext_33 : decode cX12_tryNext 33 = .ok (.iaload, 1) := by decide +kernel
theorem dX12_tryNext_34 : decode cX12_tryNext 34 = .ok (.istore_n 3, 1) := by decide +kernel
theorem dX12_tryNext_35 : decode cX12_tryNext 35 = .ok (.aload_n 0, 1) := by decide +kernel
theorem dX12_tryNext_36 : decode cX12_tryNext 36 = .ok (.getfield 217, 3) := by decide +kernel
theorem dX12_tryNext_39 : decode cX12_tryNext 39 = .ok (.iload_n 1, 1) := by decide +kernel
theorem dX12_tryNext_40 : decode cX12_tryNext 40 = .ok (.aload_n 0, 1) := by decide +kernel
theorem dX12_tryNext_41 : decode cX12_tryNext 41 = .ok (.getfield 166, 3) := by decide +kernel
theorem dX12_tryNext_44 : decode cX12_tryNext 44 = .ok (.iload_n 3, 1) := by decide +kernel
theorem dX12_tryNext_45 : decode cX12_tryNext 45 = .ok (.iaload, 1) := by decide +kernel
theorem dX12_tryNext_46 : decode cX12_tryNext 46 = .ok (.iastore, 1) := by decide +kernel
theorem dX12_tryNext_47 : decode cX12_tryNext 47 = .ok (.aload_n 0, 1) := by decide +kernel
theorem dX12_tryNext_48 : decode cX12_tryNext 48 = .ok (.iload_n 2, 1) := by decide +kernel
theorem dX12_tryNext_49 : decode cX12_tryNext 49 = .ok (.iload_n 3, 1) := by decide +kernel
theorem dX12_tryNext_50 : decode cX12_tryNext 50 = .ok (.invokevirtual 620, 3) := by decide +kernel
theorem dX12_tryNext_53 : decode cX12_tryNext 53 = .ok (.ifCond .eq 5, 3) := by decide +kernel
theorem dX12_tryNext_56 : decode cX12_tryNext 56 = .ok (.iconst 1, 1) := by decide +kernel
theorem dX12_tryNext_57 : decode cX12_tryNext 57 = .ok (.ireturn, 1) := by decide +kernel
theorem dX12_tryNext_58 : decode cX12_tryNext 58 = .ok (.aload_n 0, 1) := by decide +kernel
theorem dX12_tryNext_59 : decode cX12_tryNext 59 = .ok (.getfield 552, 3) := by decide +kernel
theorem dX12_tryNext_62 : decode cX12_tryNext 62 = .ok (.ifCond .ne 10, 3) := by decide +kernel
theorem dX12_tryNext_65 : decode cX12_tryNext 65 = .ok (.aload_n 0, 1) := by decide +kernel
theorem dX12_tryNext_66 : decode cX12_tryNext 66 = .ok (.getfield 587, 3) := by decide +kernel
theorem dX12_tryNext_69 : decode cX12_tryNext 69 = .ok (.ifCond .eq 5, 3) := by decide +kernel
theorem dX12_tryNext_72 : decode cX12_tryNext 72 = .ok (.iconst 0, 1) := by decide +kernel
theorem dX12_tryNext_73 : decode cX12_tryNext 73 = .ok (.ireturn, 1) := by decide +kernel
theorem dX12_tryNext_74 : decode cX12_tryNext 74 = .ok (.aload_n 0, 1) := by decide +kernel
theorem dX12_tryNext_75 : decode cX12_tryNext 75 = .ok (.iload_n 1, 1) := by decide +kernel
theorem dX12_tryNext_76 : decode cX12_tryNext 76 = .ok (.invokevirtual 617, 3) := by decide +kernel
theorem dX12_tryNext_79 : decode cX12_tryNext 79 = .ok (.goto (-60), 3) := by decide +kernel
theorem dX12_tryNext_82 : decode cX12_tryNext 82 = .ok (.aload_n 0, 1) := by decide +kernel
theorem dX12_tryNext_83 : decode cX12_tryNext 83 = .ok (.getfield 160, 3) := by decide +kernel
theorem dX12_tryNext_86 : decode cX12_tryNext 86 = .ok (.iload_n 2, 1) := by decide +kernel
theorem dX12_tryNext_87 : decode cX12_tryNext 87 = .ok (.iaload, 1) := by decide +kernel
theorem dX12_tryNext_88 : decode cX12_tryNext 88 = .ok (.istore_n 3, 1) := by decide +kernel
theorem dX12_tryNext_89 : decode cX12_tryNext 89 = .ok (.aload_n 0, 1) := by decide +kernel
theorem dX12_tryNext_90 : decode cX12_tryNext 90 = .ok (.getfield 220, 3) := by decide +kernel
theorem dX12_tryNext_93 : decode cX12_tryNext 93 = .ok (.iload_n 1, 1) := by decide +kernel
theorem dX12_tryNext_94 : decode cX12_tryNext 94 = .ok (.iaload, 1) := by decide +kernel
theorem dX12_tryNext_95 : decode cX12_tryNext 95 = .ok (.aload_n 0, 1) := by decide +kernel
theorem dX12_tryNext_96 : decode cX12_tryNext 96 = .ok (.getfield 445, 3) := by decide +kernel
theorem dX12_tryNext_99 : decode cX12_tryNext 99 = .ok (.if_icmp .ge 174, 3) := by decide +kernel
theorem dX12_tryNext_102 : decode cX12_tryNext 102 = .ok (.aload_n 0, 1) := by decide +kernel
theorem dX12_tryNext_103 : decode cX12_tryNext 103 = .ok (.getfield 220, 3) := by decide +kernel
theorem dX12_tryNext_106 : decode cX12_tryNext 106 = .ok (.iload_n 1, 1) := by decide +kernel
theorem dX12_tryNext_107 : decode cX12_tryNext 107 = .ok (.iaload, 1) := by decide +kernel
theorem dX12_tryNext_108 : decode cX12_tryNext 108 = .ok (.istore 4, 2) := by decide +kernel
theorem dX12_tryNext_110 : decode cX12_tryNext 110 = .ok (.aload_n 0, 1) := by decide +kernel
theorem dX12_tryNext_111 : decode cX12_tryNext 111 = .ok (.getfield 223, 3) := by decide +kernel
theorem dX12_tryNext_114 : decode cX12_tryNext 114 = .ok (.iload_n 1, 1) := by decide +kernel
theorem dX12_tryNext_115 : decode cX12_tryNext 115 = .ok (.iaload, 1) := by decide +kernel
theorem dX12_tryNext_116 : decode cX12_tryNext 116 = .ok (.istore 5, 2) := by decide +kernel
theorem dX12_tryNext_118 : decode cX12_tryNext 118 = .ok (.iload 5, 2) := by decide +kernel
theorem dX12_tryNext_120 : decode cX12_tryNext 120 = .ok (.aload_n 0, 1) := by decide +kernel
theorem dX12_tryNext_121 : decode cX12_tryNext 121 = .ok (.getfield 31, 3) := by decide +kernel
theorem dX12_tryNext_124 : decode cX12_tryNext 124 = .ok (.iload 4, 2) := by decide +kernel
theorem dX12_tryNext_126 : decode cX12_tryNext 126 = .ok (.iaload, 1) := by decide +kernel
theorem dX12_tryNext_127 : decode cX12_tryNext 127 = .ok (.if_icmp .ne 23, 3) := by decide +kernel
theorem dX12_tryNext_130 : decode cX12_tryNext 130 = .ok (.aload_n 0, 1) := by decide +kernel
theorem dX12_tryNext_131 : decode cX12_tryNext 131 = .ok (.getfield 220, 3) := by decide +kernel
theorem dX12_tryNext_134 : decode cX12_tryNext 134 = .ok (.iload_n 1, 1) := by decide +kernel
theorem dX12_tryNext_135 : decode cX12_tryNext 135 = .ok (.dup2, 1) := by decide +kernel
theorem dX12_tryNext_136 : decode cX12_tryNext 136 = .ok (.iaload, 1) := by decide +kernel
theorem dX12_tryNext_137 : decode cX12_tryNext 137 = .ok (.iconst 1, 1) := by decide +kernel
theorem dX12_tryNext_138 : decode cX12_tryNext 138 = .ok (.iadd, 1) := by decide +kernel
theorem dX12_tryNext_139 : decode cX12_tryNext 139 = .ok (.iastore, 1) := by decide +kernel
theorem dX12_tryNext_140 : decode cX12_tryNext 140 = .ok (.aload_n 0, 1) := by decide +kernel
theorem dX12_tryNext_141 : decode cX12_tryNext 141 = .ok (.getfield 223, 3) := by decide +kernel
theorem dX12_tryNext_144 : decode cX12_tryNext 144 = .ok (.iload_n 1, 1) := by decide +kernel
theorem dX12_tryNext_145 : decode cX12_tryNext 145 = .ok (.iconst 0, 1) := by decide +kernel
theorem dX12_tryNext_146 : decode cX12_tryNext 146 = .ok (.iastore, 1) := by decide +kernel
theorem dX12_tryNext_147 : decode cX12_tryNext 147 = .ok (.goto (-58), 3) := by decide +kernel
theorem dX12_tryNext_150 : decode cX12_tryNext 150 = .ok (.aload_n 0, 1) := by decide +kernel
theorem dX12_tryNext_151 : decode cX12_tryNext 151 = .ok (.getfield 223, 3) := by decide +kernel
theorem dX12_tryNext_154 : decode cX12_tryNext 154 = .ok (.iload_n 1, 1) := by decide +kernel
theorem dX12_tryNext_155 : decode cX12_tryNext 155 = .ok (.dup2, 1) := by decide +kernel
theorem dX12_tryNext_156 : decode cX12_tryNext 156 = .ok (.iaload, 1) := by decide +kernel
theorem dX12_tryNext_157 : decode cX12_tryNext 157 = .ok (.iconst 1, 1) := by decide +kernel
theorem dX12_tryNext_158 : decode cX12_tryNext 158 = .ok (.iadd, 1) := by decide +kernel
theorem dX12_tryNext_159 : decode cX12_tryNext 159 = .ok (.iastore, 1) := by decide +kernel
theorem dX12_tryNext_160 : decode cX12_tryNext 160 = .ok (.aload_n 0, 1) := by decide +kernel
theorem dX12_tryNext_161 : decode cX12_tryNext 161 = .ok (.getfield 28, 3) := by decide +kernel
theorem dX12_tryNext_164 : decode cX12_tryNext 164 = .ok (.iload 4, 2) := by decide +kernel
theorem dX12_tryNext_166 : decode cX12_tryNext 166 = .ok (.iaload, 1) := by decide +kernel
theorem dX12_tryNext_167 : decode cX12_tryNext 167 = .ok (.iload 5, 2) := by decide +kernel
theorem dX12_tryNext_169 : decode cX12_tryNext 169 = .ok (.iadd, 1) := by decide +kernel
theorem dX12_tryNext_170 : decode cX12_tryNext 170 = .ok (.istore 6, 2) := by decide +kernel
theorem dX12_tryNext_172 : decode cX12_tryNext 172 = .ok (.aload_n 0, 1) := by decide +kernel
theorem dX12_tryNext_173 : decode cX12_tryNext 173 = .ok (.getfield 37, 3) := by decide +kernel
theorem dX12_tryNext_176 : decode cX12_tryNext 176 = .ok (.iload 6, 2) := by decide +kernel
theorem dX12_tryNext_178 : decode cX12_tryNext 178 = .ok (.baload, 1) := by decide +kernel
theorem dX12_tryNext_179 : decode cX12_tryNext 179 = .ok (.aload_n 0, 1) := by decide +kernel
theorem dX12_tryNext_180 : decode cX12_tryNext 180 = .ok (.getfield 37, 3) := by decide +kernel
theorem dX12_tryNext_183 : decode cX12_tryNext 183 = .ok (.iload_n 3, 1) := by decide +kernel
theorem dX12_tryNext_184 : decode cX12_tryNext 184 = .ok (.baload, 1) := by decide +kernel
theorem dX12_tryNext_185 : decode cX12_tryNext 185 = .ok (.if_icmp .eq (-96), 3) := by decide +kernel
theorem dX12_tryNext_188 : decode cX12_tryNext 188 = .ok (.aload_n 0, 1) := by decide +kernel
theorem dX12_tryNext_189 : decode cX12_tryNext 189 = .ok (.iload 6, 2) := by decide +kernel
theorem dX12_tryNext_191 : decode cX12_tryNext 191 = .ok (.invokevirtual 577, 3) := by decide +kernel
theorem dX12_tryNext_194 : decode cX12_tryNext 194 = .ok (.aload_n 0, 1) := by decide +kernel
theorem dX12_tryNext_195 : decode cX12_tryNext 195 = .ok (.iload_n 3, 1) := by decide +kernel
theorem dX12_tryNext_196 : decode cX12_tryNext 196 = .ok (.invokevirtual 577, 3) := by decide +kernel
theorem dX12_tryNext_199 : decode cX12_tryNext 199 = .ok (.if_icmp .eq 6, 3) := by decide +kernel
theorem dX12_tryNext_202 : decode cX12_tryNext 202 = .ok (.goto (-113), 3) := by decide +kernel
theorem dX12_tryNext_205 : decode cX12_tryNext 205 = .ok (.aload_n 0, 1) := by decide +kernel
theorem dX12_tryNext_206 : decode cX12_tryNext 206 = .ok (.getfield 169, 3) := by decide +kernel
theorem dX12_tryNext_209 : decode cX12_tryNext 209 = .ok (.iload_n 2, 1) := by decide +kernel
theorem dX12_tryNext_210 : decode cX12_tryNext 210 = .ok (.iaload, 1) := by decide +kernel
theorem dX12_tryNext_211 : decode cX12_tryNext 211 = .ok (.aload_n 0, 1) := by decide +kernel
theorem dX12_tryNext_212 : decode cX12_tryNext 212 = .ok (.getfield 623, 3) := by decide +kernel
theorem dX12_tryNext_215 : decode cX12_tryNext 215 = .ok (.if_icmp .lt 20, 3) := by decide +kernel
theorem dX12_tryNext_218 : decode cX12_tryNext 218 = .ok (.aload_n 0, 1) := by decide +kernel
theorem dX12_tryNext_219 : decode cX12_tryNext 219 = .ok (.iconst 1, 1) := by decide +kernel
theorem dX12_tryNext_220 : decode cX12_tryNext 220 = .ok (.putfield 626, 3) := by decide +kernel
theorem dX12_tryNext_223 : decode cX12_tryNext 223 = .ok (.aload_n 0, 1) := by decide +kernel
theorem dX12_tryNext_224 : decode cX12_tryNext 224 = .ok (.dup, 1) := by decide +kernel
theorem dX12_tryNext_225 : decode cX12_tryNext 225 = .ok (.getfield 599, 3) := by decide +kernel
theorem dX12_tryNext_228 : decode cX12_tryNext 228 = .ok (.iconst 1, 1) := by decide +kernel
theorem dX12_tryNext_229 : decode cX12_tryNext 229 = .ok (.isub, 1) := by decide +kernel
theorem dX12_tryNext_230 : decode cX12_tryNext 230 = .ok (.putfield 599, 3) := by decide +kernel
theorem dX12_tryNext_233 : decode cX12_tryNext 233 = .ok (.iconst 0, 1) := by decide +kernel
theorem dX12_tryNext_234 : decode cX12_tryNext 234 = .ok (.ireturn, 1) := by decide +kernel
theorem dX12_tryNext_235 : decode cX12_tryNext 235 = .ok (.aload_n 0, 1) := by decide +kernel
theorem dX12_tryNext_236 : decode cX12_tryNext 236 = .ok (.iload_n 2, 1) := by decide +kernel
theorem dX12_tryNext_237 : decode cX12_tryNext 237 = .ok (.iload 4, 2) := by decide +kernel
theorem dX12_tryNext_239 : decode cX12_tryNext 239 = .ok (.iload 5, 2) := by decide +kernel
theorem dX12_tryNext_241 : decode cX12_tryNext 241 = .ok (.invokevirtual 629, 3) := by decide +kernel
theorem dX12_tryNext_244 : decode cX12_tryNext 244 = .ok (.ifCond .eq 5, 3) := by decide +kernel
theorem dX12_tryNext_247 : decode cX12_tryNext 247 = .ok (.iconst 1, 1) := by decide +kernel
theorem dX12_tryNext_248 : decode cX12_tryNext 248 = .ok (.ireturn, 1) := by decide +kernel
theorem dX12_tryNext_249 : decode cX12_tryNext 249 = .ok (.aload_n 0, 1) := by decide +kernel
theorem dX12_tryNext_250 : decode cX12_tryNext 250 = .ok (.getfield 552, 3) := by decide +kernel
theorem dX12_tryNext_253 : decode cX12_tryNext 253 = .ok (.ifCond .ne 10, 3) := by decide +kernel
theorem dX12_tryNext_256 : decode cX12_tryNext 256 = .ok (.aload_n 0, 1) := by decide +kernel
theorem dX12_tryNext_257 : decode cX12_tryNext 257 = .ok (.getfield 587, 3) := by decide +kernel
theorem dX12_tryNext_260 : decode cX12_tryNext 260 = .ok (.ifCond .eq 5, 3) := by decide +kernel
theorem dX12_tryNext_263 : decode cX12_tryNext 263 = .ok (.iconst 0, 1) := by decide +kernel
theorem dX12_tryNext_264 : decode cX12_tryNext 264 = .ok (.ireturn, 1) := by decide +kernel
theorem dX12_tryNext_265 : decode cX12_tryNext 265 = .ok (.aload_n 0, 1) := by decide +kernel
theorem dX12_tryNext_266 : decode cX12_tryNext 266 = .ok (.iload_n 1, 1) := by decide +kernel
theorem dX12_tryNext_267 : decode cX12_tryNext 267 = .ok (.invokevirtual 617, 3) := by decide +kernel
theorem dX12_tryNext_270 : decode cX12_tryNext 270 = .ok (.goto (-181), 3) := by decide +kernel
theorem dX12_tryNext_273 : decode cX12_tryNext 273 = .ok (.aload_n 0, 1) := by decide +kernel
theorem dX12_tryNext_274 : decode cX12_tryNext 274 = .ok (.dup, 1) := by decide +kernel
theorem dX12_tryNext_275 : decode cX12_tryNext 275 = .ok (.getfield 599, 3) := by decide +kernel
theorem dX12_tryNext_278 : decode cX12_tryNext 278 = .ok (.iconst 1, 1) := by decide +kernel
theorem dX12_tryNext_279 : decode cX12_tryNext 279 = .ok (.isub, 1) := by decide +kernel
theorem dX12_tryNext_280 : decode cX12_tryNext 280 = .ok (.putfield 599, 3) := by decide +kernel
theorem dX12_tryNext_283 : decode cX12_tryNext 283 = .ok (.iconst 0, 1) := by decide +kernel
theorem dX12_tryNext_284 : decode cX12_tryNext 284 = .ok (.ireturn, 1) := by decide +kernel
theorem dX12_reduces_0 : decode cX12_reduces 0 = .ok (.aload_n 0, 1) := by decide +kernel
theorem dX12_reduces_1 : decode cX12_reduces 1 = .ok (.getfield 160, 3) := by decide +kernel
theorem dX12_reduces_4 : decode cX12_reduces 4 = .ok (.iload_n 1, 1) := by decide +kernel
theorem dX12_reduces_5 : decode cX12_reduces 5 = .ok (.iaload, 1) := by decide +kernel
theorem dX12_reduces_6 : decode cX12_reduces 6 = .ok (.istore_n 3, 1) := by decide +kernel
theorem dX12_reduces_7 : decode cX12_reduces 7 = .ok (.aload_n 0, 1) := by decide +kernel
theorem dX12_reduces_8 : decode cX12_reduces 8 = .ok (.getfield 160, 3) := by decide +kernel
theorem dX12_reduces_11 : decode cX12_reduces 11 = .ok (.iload_n 2, 1) := by decide +kernel
theorem dX12_reduces_12 : decode cX12_reduces 12 = .ok (.iaload, 1) := by decide +kernel
theorem dX12_reduces_13 : decode cX12_reduces 13 = .ok (.istore 4, 2) := by decide +kernel
theorem dX12_reduces_15 : decode cX12_reduces 15 = .ok (.aload_n 0, 1) := by decide +kernel
theorem dX12_reduces_16 : decode cX12_reduces 16 = .ok (.getfield 37, 3) := by decide +kernel
theorem dX12_reduces_19 : decode cX12_reduces 19 = .ok (.iload 4, 2) := by decide +kernel
theorem dX12_reduces_21 : decode cX12_reduces 21 = .ok (.baload, 1) := by decide +kernel
theorem dX12_reduces_22 : decode cX12_reduces 22 = .ok (.aload_n 0, 1) := by decide +kernel
theorem dX12_reduces_23 : decode cX12_reduces 23 = .ok (.getfield 37, 3) := by decide +kernel
theorem dX12_reduces_26 : decode cX12_reduces 26 = .ok (.iload_n 3, 1) := by decide +kernel
theorem dX12_reduces_27 : decode cX12_reduces 27 = .ok (.baload, 1) := by decide +kernel
theorem dX12_reduces_28 : decode cX12_reduces 28 = .ok (.if_icmp .eq 24, 3) := by decide +kernel
theorem dX12_reduces_31 : decode cX12_reduces 31 = .ok (.aload_n 0, 1) := by decide +kernel
theorem dX12_reduces_32 : decode cX12_reduces 32 = .ok (.iload 4, 2) := by decide +kernel
theorem dX12_reduces_34 : decode cX12_reduces 34 = .ok (.invokevirtual 577, 3) := by decide +kernel
theorem dX12_reduces_37 : decode cX12_reduces 37 = .ok (.aload_n 0, 1) := by decide +kernel
theorem dX12_reduces_38 : decode cX12_reduces 38 = .ok (.iload_n 3, 1) := by decide +kernel
theorem dX12_reduces_39 : decode cX12_reduces 39 = .ok (.invokevirtual 577, 3) := by decide +kernel
theorem dX12_reduces_42 : decode cX12_reduces 42 = .ok (.if_icmp .ne 10, 3) := by decide +kernel
theorem dX12_reduces_45 : decode cX12_reduces 45 = .ok (.aload_n 0, 1) := by decide +kernel
theorem dX12_reduces_46 : decode cX12_reduces 46 = .ok (.invokevirtual 632, 3) := by decide +kernel
theorem dX12_reduces_49 : decode cX12_reduces 49 = .ok (.ifCond .ne 5, 3) := by decide +kernel
theorem dX12_reduces_52 : decode cX12_reduces 52 = .ok (.iconst 0, 1) := by decide +kernel
theorem dX12_reduces_53 : decode cX12_reduces 53 = .ok (.ireturn, 1) := by decide +kernel
theorem dX12_reduces_54 : decode cX12_reduces 54 = .ok (.aload_n 0, 1) := by decide +kernel
theorem dX12_reduces_55 : decode cX12_reduces 55 = .ok (.iconst 0, 1) := by decide +kernel
theorem dX12_reduces_56 : decode cX12_reduces 56 = .ok (.putfield 549, 3) := by decide +kernel
theorem dX12_reduces_59 : decode cX12_reduces 59 = .ok (.aload_n 0, 1) := by decide +kernel
theorem dX12_reduces_60 : decode cX12_reduces 60 = .ok (.aload_n 0, 1) := by decide +kernel
theorem dX12_reduces_61 : decode cX12_reduces 61 = .ok (.getfield 40, 3) := by decide +kernel
theorem dX12_reduces_64 : decode cX12_reduces 64 = .ok (.iload_n 3, 1) := by decide +kernel
theorem dX12_reduces_65 : decode cX12_reduces 65 = .ok (.iaload, 1) := by decide +kernel
theorem dX12_reduces_66 : decode cX12_reduces 66 = .ok (.aload_n 0, 1) := by decide +kernel
theorem dX12_reduces_67 : decode cX12_reduces 67 = .ok (.getfield 163, 3) := by decide +kernel
theorem dX12_reduces_70 : decode cX12_reduces 70 = .ok (.iload_n 1, 1) := by decide +kernel
theorem dX12_reduces_71 : decode cX12_reduces 71 = .ok (.iaload, 1) := by decide +kernel
theorem dX12_reduces_72 : decode cX12_reduces 72 = .ok (.aload_n 0, 1) := by decide +kernel
theorem dX12_reduces_73 : decode cX12_reduces 73 = .ok (.getfield 40, 3) := by decide +kernel
theorem dX12_reduces_76 : decode cX12_reduces 76 = .ok (.iload 4, 2) := by decide +kernel
theorem dX12_reduces_78 : decode cX12_reduces 78 = .ok (.iaload, 1) := by decide +kernel
theorem dX12_reduces_79 : decode cX12_reduces 79 = .ok (.aload_n 0, 1) := by decide +kernel
theorem dX12_reduces_80 : decode cX12_reduces 80 = .ok (.getfield 163, 3) := by decide +kernel
theorem dX12_reduces_83 : decode cX12_reduces 83 = .ok (.iload_n 2, 1) := by decide +kernel
theorem dX12_reduces_84 : decode cX12_reduces 84 = .ok (.iaload, 1) := by decide +kernel
theorem dX12_reduces_85 : decode cX12_reduces 85 = .ok (.invokevirtual 635, 3) := by decide +kernel
theorem dX12_reduces_88 : decode cX12_reduces 88 = .ok (.ifCond .ne 5, 3) := by decide +kernel
theorem dX12_reduces_91 : decode cX12_reduces 91 = .ok (.iconst 0, 1) := by decide +kernel
theorem dX12_reduces_92 : decode cX12_reduces 92 = .ok (.ireturn, 1) := by decide +kernel
theorem dX12_reduces_93 : decode cX12_reduces 93 = .ok (.aload_n 0, 1) := by decide +kernel
theorem dX12_reduces_94 : decode cX12_reduces 94 = .ok (.iconst 2, 1) := by decide +kernel
theorem dX12_reduces_95 : decode cX12_reduces 95 = .ok (.iconst (-1), 1) := by decide +kernel
theorem dX12_reduces_96 : decode cX12_reduces 96 = .ok (.aload_n 0, 1) := by decide +kernel
theorem dX12_reduces_97 : decode cX12_reduces 97 = .ok (.getfield 169, 3) := by decide +kernel
theorem dX12_reduces_100 : decode cX12_reduces 100 = .ok (.iload_n 2, 1) := by decide +kernel
theorem dX12_reduces_101 : decode cX12_reduces 101 = .ok (.iaload, 1) := by decide +kernel
theorem dX12_reduces_102 : decode cX12_reduces 102 = .ok (.iload_n 1, 1) := by decide +kernel
theorem dX12_reduces_103 : decode cX12_reduces 103 = .ok (.invokevirtual 638, 3) := by decide +kernel
theorem dX12_reduces_106 : decode cX12_reduces 106 = .ok (.aload_n 0, 1) := by decide +kernel
theorem dX12_reduces_107 : decode cX12_reduces 107 = .ok (.aload_n 0, 1) := by decide +kernel
theorem dX12_reduces_108 : decode cX12_reduces 108 = .ok (.getfield 211, 3) := by decide +kernel
theorem dX12_reduces_111 : decode cX12_reduces 111 = .ok (.iload_n 1, 1) := by decide +kernel
theorem dX12_reduces_112 : decode cX12_reduces 112 = .ok (.iaload, 1) := by decide +kernel
theorem dX12_reduces_113 : decode cX12_reduces 113 = .ok (.putfield 614, 3) := by decide +kernel
theorem dX12_reduces_116 : decode cX12_reduces 116 = .ok (.iconst 1, 1) := by decide +kernel
theorem dX12_reduces_117 : decode cX12_reduces 117 = .ok (.ireturn, 1) := by decide +kernel
theorem dX12_extendsBy_0 : decode cX12_extendsBy 0 = .ok (.aload_n 0, 1) := by decide +kernel
theorem dX12_extendsBy_1 : decode cX12_extendsBy 1 = .ok (.invokevirtual 632, 3) := by decide +kernel
theorem dX12_extendsBy_4 : decode cX12_extendsBy 4 = .ok (.ifCond .ne 5, 3) := by decide +kernel
theorem dX12_extendsBy_7 : decode cX12_extendsBy 7 = .ok (.iconst 0, 1) := by decide +kernel
theorem dX12_extendsBy_8 : decode cX12_extendsBy 8 = .ok (.ireturn, 1) := by decide +kernel
theorem dX12_extendsBy_9 : decode cX12_extendsBy 9 = .ok (.aload_n 0, 1) := by decide +kernel
theorem dX12_extendsBy_10 : decode cX12_extendsBy 10 = .ok (.getfield 590, 3) := by decide +kernel
theorem dX12_extendsBy_13 : decode cX12_extendsBy 13 = .ok (.istore 4, 2) := by decide +kernel
theorem dX12_extendsBy_15 : decode cX12_extendsBy 15 = .ok (.aload_n 0, 1) := by decide +kernel
theorem dX12_extendsBy_16 : decode cX12_extendsBy 16 = .ok (.iconst 0, 1) := by decide +kernel
theorem dX12_extendsBy_17 : decode cX12_extendsBy 17 = .ok (.putfield 549, 3) := by decide +kernel
theorem dX12_extendsBy_20 : decode cX12_extendsBy 20 = .ok (.aload_n 0, 1) := by decide +kernel
theorem dX12_extendsBy_21 : decode cX12_extendsBy 21 = .ok (.aload_n 0, 1) := by decide +kernel
theorem dX12_extendsBy_22 : decode cX12_extendsBy 22 = .ok (.getfield 34, 3) := by decide +kernel
theorem dX12_extendsBy_25 : decode cX12_extendsBy 25 = .ok (.iload_n 2, 1) := by decide +kernel
theorem dX12_extendsBy_26 : decode cX12_extendsBy 26 = .ok (.iaload, 1) := by decide +kernel
theorem dX12_extendsBy_27 : decode cX12_extendsBy 27 = .ok (.invokevirtual 641, 3) := by decide +kernel
theorem dX12_extendsBy_30 : decode cX12_extendsBy 30 = .ok (.aload_n 0, 1) := by decide +kernel
theorem dX12_extendsBy_31 : decode cX12_extendsBy 31 = .ok (.aload_n 0, 1) := by decide +kernel
theorem dX12_extendsBy_32 : decode cX12_extendsBy 32 = .ok (.getfield 40, 3) := by decide +kernel
theorem dX12_extendsBy_35 : decode cX12_extendsBy 35 = .ok (.aload_n 0, 1) := by decide +kernel
theorem dX12_extendsBy_36 : decode cX12_extendsBy 36 = .ok (.getfield 160, 3) := by decide +kernel
theorem dX12_extendsBy_39 : decode cX12_extendsBy 39 = .ok (.iload_n 1, 1) := by decide +kernel
theorem dX12_extendsBy_40 : decode cX12_extendsBy 40 = .ok (.iaload, 1) := by decide +kernel
theorem dX12_extendsBy_41 : decode cX12_extendsBy 41 = .ok (.iaload, 1) := by decide +kernel
theorem dX12_extendsBy_42 : decode cX12_extendsBy 42 = .ok (.aload_n 0, 1) := by decide +kernel
theorem dX12_extendsBy_43 : decode cX12_extendsBy 43 = .ok (.getfield 163, 3) := by decide +kernel
theorem dX12_extendsBy_46 : decode cX12_extendsBy 46 = .ok (.iload_n 1, 1) := by decide +kernel
theorem dX12_extendsBy_47 : decode cX12_extendsBy 47 = .ok (.iaload, 1) := by decide +kernel
theorem dX12_extendsBy_48 : decode cX12_extendsBy 48 = .ok (.aload_n 0, 1) := by decide +kernel
theorem dX12_extendsBy_49 : decode cX12_extendsBy 49 = .ok (.getfield 40, 3) := by decide +kernel
theorem dX12_extendsBy_52 : decode cX12_extendsBy 52 = .ok (.aload_n 0, 1) := by decide +kernel
theorem dX12_extendsBy_53 : decode cX12_extendsBy 53 = .ok (.getfield 28, 3) := by decide +kernel
theorem dX12_extendsBy_56 : decode cX12_extendsBy 56 = .ok (.iload_n 2, 1) := by decide +kernel
theorem dX12_extendsBy_57 : decode cX12_extendsBy 57 = .ok (.iaload, 1) := by decide +kernel
theorem dX12_extendsBy_58 : decode cX12_extendsBy 58 = .ok (.iload_n 3, 1) := by decide +kernel
theorem dX12_extendsBy_59 : decode cX12_extendsBy 59 = .ok (.iadd, 1) := by decide +kernel
theorem dX12_extendsBy_60 : decode cX12_extendsBy 60 = .ok (.iaload, 1) := by decide +kernel
theorem dX12_extendsBy_61 : decode cX12_extendsBy 61 = .ok (.iload 4, 2) := by decide +kernel
theorem dX12_extendsBy_63 : decode cX12_extendsBy 63 = .ok (.invokevirtual 635, 3) := by decide +kernel
theorem dX12_extendsBy_66 : decode cX12_extendsBy 66 = .ok (.ifCond .eq 11, 3) := by decide +kernel
theorem dX12_extendsBy_69 : decode cX12_extendsBy 69 = .ok (.aload_n 0, 1) := by decide +kernel
theorem dX12_extendsBy_70 : decode cX12_extendsBy 70 = .ok (.iload_n 2, 1) := by decide +kernel
theorem dX12_extendsBy_71 : decode cX12_extendsBy 71 = .ok (.invokevirtual 644, 3) := by decide +kernel
theorem dX12_extendsBy_74 : decode cX12_extendsBy 74 = .ok (.ifCond .eq 5, 3) := by decide +kernel
theorem dX12_extendsBy_77 : decode cX12_extendsBy 77 = .ok (.iconst 0, 1) := by decide +kernel
theorem dX12_extendsBy_78 : decode cX12_extendsBy 78 = .ok (.ireturn, 1) := by decide +kernel
theorem dX12_extendsBy_79 : decode cX12_extendsBy 79 = .ok (.aload_n 0, 1) := by decide +kernel
theorem dX12_extendsBy_80 : decode cX12_extendsBy 80 = .ok (.iconst 1, 1) := by decide +kernel
theorem dX12_extendsBy_81 : decode cX12_extendsBy 81 = .ok (.iload_n 2, 1) := by decide +kernel
theorem dX12_extendsBy_82 : decode cX12_extendsBy 82 = .ok (.iload_n 3, 1) := by decide +kernel
theorem dX12_extendsBy_83 : decode cX12_extendsBy 83 = .ok (.iload_n 1, 1) := by decide +kernel
theorem dX12_extendsBy_84 : decode cX12_extendsBy 84 = .ok (.invokevirtual 638, 3) := by decide +kernel
theorem dX12_extendsBy_87 : decode cX12_extendsBy 87 = .ok (.aload_n 0, 1) := by decide +kernel
theorem dX12_extendsBy_88 : decode cX12_extendsBy 88 = .ok (.aload_n 0, 1) := by decide +kernel
theorem dX12_extendsBy_89 : decode cX12_extendsBy 89 = .ok (.iload_n 2, 1) := by decide +kernel
theorem dX12_extendsBy_90 : decode cX12_extendsBy 90 = .ok (.iload_n 3, 1) := by decide +kernel
theorem dX12_extendsBy_91 : decode cX12_extendsBy 91 = .ok (.iload_n 1, 1) := by decide +kernel
theorem dX12_extendsBy_92 : decode cX12_extendsBy 92 = .ok (.iload 4, 2) := by decide +kernel
theorem dX12_extendsBy_94 : decode cX12_extendsBy 94 = .ok (.aload_n 0, 1) := by decide +kernel
theorem dX12_extendsBy_95 : decode cX12_extendsBy 95 = .ok (.getfield 211, 3) := by decide +kernel
theorem dX12_extendsBy_98 : decode cX12_extendsBy 98 = .ok (.iload_n 1, 1) := by decide +kernel
theorem dX12_extendsBy_99 : decode cX12_extendsBy 99 = .ok (.iaload, 1) := by decide +kernel
theorem dX12_extendsBy_100 : decode cX12_extendsBy 100 = .ok (.invokevirtual 647, 3) := by decide +kernel
theorem dX12_extendsBy_103 : decode cX12_extendsBy 103 = .ok (.putfield 614, 3) := by decide +kernel
theorem dX12_extendsBy_106 : decode cX12_extendsBy 106 = .ok (.iconst 1, 1) := by decide +kernel
theorem dX12_extendsBy_107 : decode cX12_extendsBy 107 = .ok (.ireturn, 1) := by decide +kernel
theorem dX12_startWith_0 : decode cX12_startWith 0 = .ok (.aload_n 0, 1) := by decide +kernel
theorem dX12_startWith_1 : decode cX12_startWith 1 = .ok (.invokevirtual 632, 3) := by decide +kernel
theorem dX12_startWith_4 : decode cX12_startWith 4 = .ok (.ifCond .ne 5, 3) := by decide +kernel
theorem dX12_startWith_7 : decode cX12_startWith 7 = .ok (.iconst 0, 1) := by decide +kernel
theorem dX12_startWith_8 : decode cX12_startWith 8 = .ok (.ireturn, 1) := by decide +kernel
theorem dX12_startWith_9 : decode cX12_startWith 9 = .ok (.aload_n 0, 1) := by decide +kernel
theorem dX12_startWith_10 : decode cX12_startWith 10 = .ok (.iconst 0, 1) := by decide +kernel
theorem dX12_startWith_11 : decode cX12_startWith 11 = .ok (.putfield 567, 3) := by decide +kernel
theorem dX12_startWith_14 : decode cX12_startWith 14 = .ok (.aload_n 0, 1) := by decide +kernel
theorem dX12_startWith_15 : decode cX12_startWith 15 = .ok (.iconst 0, 1) := by decide +kernel
theorem dX12_startWith_16 : decode cX12_startWith 16 = .ok (.putfield 590, 3) := by decide +kernel
theorem dX12_startWith_19 : decode cX12_startWith 19 = .ok (.aload_n 0, 1) := by decide +kernel
theorem dX12_startWith_20 : decode cX12_startWith 20 = .ok (.iconst 0, 1) := by decide +kernel
theorem dX12_startWith_21 : decode cX12_startWith 21 = .ok (.putfield 593, 3) := by decide +kernel
theorem dX12_startWith_24 : decode cX12_startWith 24 = .ok (.aload_n 0, 1) := by decide +kernel
theorem dX12_startWith_25 : decode cX12_startWith 25 = .ok (.iconst 0, 1) := by decide +kernel
theorem dX12_startWith_26 : decode cX12_startWith 26 = .ok (.putfield 596, 3) := by decide +kernel
theorem dX12_startWith_29 : decode cX12_startWith 29 = .ok (.aload_n 0, 1) := by decide +kernel
theorem dX12_startWith_30 : decode cX12_startWith 30 = .ok (.iconst 0, 1) := by decide +kernel
theorem dX12_startWith_31 : decode cX12_startWith 31 = .ok (.putfield 490, 3) := by decide +kernel
theorem dX12_startWith_34 : decode cX12_startWith 34 = .ok (.aload_n 0, 1) := by decide +kernel
theorem dX12_startWith_35 : decode cX12_startWith 35 = .ok (.aload_n 0, 1) := by decide +kernel
theorem dX12_startWith_36 : decode cX12_startWith 36 = .ok (.getfield 34, 3) := by decide +kernel
theorem dX12_startWith_39 : decode cX12_startWith 39 = .ok (.iload_n 1, 1) := by decide +kernel
theorem dX12_startWith_40 : decode cX12_startWith 40 = .ok (.iaload, 1) := by decide +kernel
theorem dX12_startWith_41 : decode cX12_startWith 41 = .ok (.invokevirtual 641, 3) := by decide +kernel
theorem dX12_startWith_44 : decode cX12_startWith 44 = .ok (.aload_n 0, 1) := by decide +kernel
theorem dX12_startWith_45 : decode cX12_startWith 45 = .ok (.iload_n 1, 1) := by decide +kernel
theorem dX12_startWith_46 : decode cX12_startWith 46 = .ok (.invokevirtual 644, 3) := by decide +kernel
theorem dX12_startWith_49 : decode cX12_startWith 49 = .ok (.ifCond .eq 5, 3) := by decide +kernel
theorem dX12_startWith_52 : decode cX12_startWith 52 = .ok (.iconst 0, 1) := by decide +kernel
theorem dX12_startWith_53 : decode cX12_startWith 53 = .ok (.ireturn, 1) := by decide +kernel
theorem dX12_startWith_54 : decode cX12_startWith 54 = .ok (.aload_n 0, 1) := by decide +kernel
theorem dX12_startWith_55 : decode cX12_startWith 55 = .ok (.iconst 0, 1) := by decide +kernel
theorem dX12_startWith_56 : decode cX12_startWith 56 = .ok (.iload_n 1, 1) := by decide +kernel
theorem dX12_startWith_57 : decode cX12_startWith 57 = .ok (.iconst (-1), 1) := by decide +kernel
theorem dX12_startWith_58 : decode cX12_startWith 58 = .ok (.iconst (-1), 1) := by decide +kernel
theorem dX12_startWith_59 : decode cX12_startWith 59 = .ok (.invokevirtual 638, 3) := by decide +kernel
theorem dX12_startWith_62 : decode cX12_startWith 62 = .ok (.aload_n 0, 1) := by decide +kernel
theorem dX12_startWith_63 : decode cX12_startWith 63 = .ok (.aload_n 0, 1) := by decide +kernel
theorem dX12_startWith_64 : decode cX12_startWith 64 = .ok (.iload_n 1, 1) := by decide +kernel
theorem dX12_startWith_65 : decode cX12_startWith 65 = .ok (.iconst (-1), 1) := by decide +kernel
theorem dX12_startWith_66 : decode cX12_startWith 66 = .ok (.iconst (-1), 1) := by decide +kernel
theorem dX12_startWith_67 : decode cX12_startWith 67 = .ok (.iconst 0, 1) := by decide +kernel
theorem dX12_startWith_68 : decode cX12_startWith 68 = .ok (.iconst (-1), 1) := by decide +kernel
theorem dX12_startWith_69 : decode cX12_startWith 69 = .ok (.invokevirtual 647, 3) := by decide +kernel
theorem dX12_startWith_72 : decode cX12_startWith 72 = .ok (.invokevirtual 651, 3) := by decide +kernel
theorem dX12_startWith_75 : decode cX12_startWith 75 = .ok (.ireturn, 1) := by decide +kernel
theorem dX12_search_0 : decode cX12_search 0 = .ok (.aload_n 0, 1) := by decide +kernel
theorem dX12_search_1 : decode cX12_search 1 = .ok (.iconst 0, 1) := by decide +kernel
theorem dX12_search_2 : decode cX12_search 2 = .ok (.putfield 241, 3) := by decide +kernel
theorem dX12_search_5 : decode cX12_search 5 = .ok (.iload_n 1, 1) := by decide +kernel
theorem dX12_search_6 : decode cX12_search 6 = .ok (.iconst 1, 1) := by decide +kernel
theorem dX12_search_7 : decode cX12_search 7 = .ok (.bipush 20, 2) := by decide +kernel
theorem dX12_search_9 : decode cX12_search 9 = .ok (.invokestatic 245, 3) := by decide +kernel
theorem dX12_search_12 : decode cX12_search 12 = .ok (.ifCond .eq 14, 3) := by decide +kernel
theorem dX12_search_15 : decode cX12_search 15 = .ok (.iload_n 2, 1) := by decide +kernel
theorem dX12_search_16 : decode cX12_search 16 = .ok (.iconst 0, 1) := by decide +kernel
theorem dX12_search_17 : decode cX12_search 17 = .ok (.sipush 20000, 3) := by decide +kernel
theorem dX12_search_20 : decode cX12_search 20 = .ok (.invokestatic 245, 3) := by decide +kernel
theorem dX12_search_23 : decode cX12_search 23 = .ok (.ifCond .ne 6, 3) := by decide +kernel
theorem dX12_search_26 : decode cX12_search 26 = .ok (.bipush (-2), 2) := by decide +kernel
theorem dX12_search_28 : decode cX12_search 28 = .ok (.ireturn, 1) := by decide +kernel
theorem dX12_search_29 : decode cX12_search 29 = .ok (.aload_n 0, 1) := by decide +kernel
theorem dX12_search_30 : decode cX12_search 30 = .ok (.iconst 0, 1) := by decide +kernel
theorem dX12_search_31 : decode cX12_search 31 = .ok (.putfield 484, 3) := by decide +kernel
theorem dX12_search_34 : decode cX12_search 34 = .ok (.aload_n 0, 1) := by decide +kernel
theorem dX12_search_35 : decode cX12_search 35 = .ok (.iload_n 2, 1) := by decide +kernel
theorem dX12_search_36 : decode cX12_search 36 = .ok (.putfield 584, 3) := by decide +kernel
theorem dX12_search_39 : decode cX12_search 39 = .ok (.aload_n 0, 1) := by decide +kernel
theorem dX12_search_40 : decode cX12_search 40 = .ok (.iconst 0, 1) := by decide +kernel
theorem dX12_search_41 : decode cX12_search 41 = .ok (.putfield 552, 3) := by decide +kernel
theorem dX12_search_44 : decode cX12_search 44 = .ok (.aload_n 0, 1) := by decide +kernel
theorem dX12_search_45 : decode cX12_search 45 = .ok (.iconst 0, 1) := by decide +kernel
theorem dX12_search_46 : decode cX12_search 46 = .ok (.putfield 587, 3) := by decide +kernel
theorem dX12_search_49 : decode cX12_search 49 = .ok (.aload_n 0, 1) := by decide +kernel
theorem dX12_search_50 : decode cX12_search 50 = .ok (.iconst 1, 1) := by decide +kernel
theorem dX12_search_51 : decode cX12_search 51 = .ok (.putfield 623, 3) := by decide +kernel
theorem dX12_search_54 : decode cX12_search 54 = .ok (.aload_n 0, 1) := by decide +kernel
theorem dX12_search_55 : decode cX12_search 55 = .ok (.getfield 623, 3) := by decide +kernel
theorem dX12_search_58 : decode cX12_search 58 = .ok (.iload_n 1, 1) := by decide +kernel
theorem dX12_search_59 : decode cX12_search 59 = .ok (.if_icmp .gt 160, 3) := by decide +kernel
theorem dX12_search_62 : decode cX12_search 62 = .ok (.aload_n 0, 1) := by decide +kernel
theorem dX12_search_63 : decode cX12_search 63 = .ok (.aload_n 0, 1) := by decide +kernel
theorem dX12_search_64 : decode cX12_search 64 = .ok (.getfield 623, 3) := by decide +kernel
theorem dX12_search_67 : decode cX12_search 67 = .ok (.putfield 487, 3) := by decide +kernel
theorem dX12_search_70 : decode cX12_search 70 = .ok (.aload_n 0, 1) := by decide +kernel
theorem dX12_search_71 : decode cX12_search 71 = .ok (.iconst 0, 1) := by decide +kernel
theorem dX12_search_72 : decode cX12_search 72 = .ok (.putfield 626, 3) := by decide +kernel
theorem dX12_search_75 : decode cX12_search 75 = .ok (.iconst 0, 1) := by decide +kernel
theorem dX12_search_76 : decode cX12_search 76 = .ok (.istore_n 3, 1) := by decide +kernel
theorem dX12_search_77 : decode cX12_search 77 = .ok (.iload_n 3, 1) := by decide +kernel
theorem dX12_search_78 : decode cX12_search 78 = .ok (.aload_n 0, 1) := by decide +kernel
theorem dX12_search_79 : decode cX12_search 79 = .ok (.getfield 445, 3) := by decide +kernel
theorem dX12_search_82 : decode cX12_search 82 = .ok (.if_icmp .ge 110, 3) := by decide +kernel
theorem dX12_search_85 : decode cX12_search 85 = .ok (.iconst 1, 1) := by decide +kernel
theorem dX12_search_86 : decode cX12_search 86 = .ok (.istore 4, 2) := by decide +kernel
theorem dX12_search_88 : decode cX12_search 88 = .ok (.iconst 0, 1) := by decide +kernel
theorem dX12_search_89 : decode cX12_search 89 = .ok (.istore 5, 2) := by decide +kernel
theorem dX12_search_91 : decode cX12_search 91 = .ok (.iload 5, 2) := by decide +kernel
theorem dX12_search_93 : decode cX12_search 93 = .ok (.aload_n 0, 1) := by decide +kernel
theorem dX12_search_94 : decode cX12_search 94 = .ok (.getfield 31, 3) := by decide +kernel
theorem dX12_search_97 : decode cX12_search 97 = .ok (.iload_n 3, 1) := by decide +kernel
theorem dX12_search_98 : decode cX12_search 98 = .ok (.iaload, 1) := by decide +kernel
theorem dX12_search_99 : decode cX12_search 99 = .ok (.if_icmp .ge 38, 3) := by decide +kernel
theorem dX12_search_102 : decode cX12_search 102 = .ok (.iload 4, 2) := by decide +kernel
theorem dX12_search_104 : decode cX12_search 104 = .ok (.ifCond .eq 24, 3) := by decide +kernel
theorem dX12_search_107 : decode cX12_search 107 = .ok (.aload_n 0, 1) := by decide +kernel
theorem dX12_search_108 : decode cX12_search 108 = .ok (.getfield 37, 3) := by decide +kernel
theorem dX12_search_111 : decode cX12_search 111 = .ok (.aload_n 0, 1) := by decide +kernel
theorem dX12_search_112 : decode cX12_search 112 = .ok (.getfield 28, 3) := by decide +kernel
theorem dX12_search_115 : decode cX12_search 115 = .ok (.iload_n 3, 1) := by decide +kernel
theorem dX12_search_116 : decode cX12_search 116 = .ok (.iaload, 1) := by decide +kernel
theorem dX12_search_117 : decode cX12_search 117 = .ok (.iload 5, 2) := by decide +kernel
theorem dX12_search_119 : decode cX12_search 119 = .ok (.iadd, 1) := by decide +kernel
theorem dX12_search_120 : decode cX12_search 120 = .ok (.baload, 1) := by decide +kernel
theorem dX12_search_121 : decode cX12_search 121 = .ok (.ifCond .ne 7, 3) := by decide +kernel
theorem dX12_search_124 : decode cX12_search 124 = .ok (.iconst 1, 1) := by decide +kernel
theorem dX12_search_125 : decode cX12_search 125 = .ok (.goto 4, 3) := by decide +kernel
theorem dX12_search_128 : decode cX12_search 128 = .ok (.iconst 0, 1) := by decide +kernel
theorem dX12_search_129 : decode cX12_search 129 = .ok (.istore 4, 2) := by decide +kernel
theorem dX12_search_131 : decode cX12_search 131 = .ok (.iinc 5 1, 3) := by decide +kernel
theorem dX12_search_134 : decode cX12_search 134 = .ok (.goto (-43), 3) := by decide +kernel
theorem dX12_search_137 : decode cX12_search 137 = .ok (.iload 4, 2) := by decide +kernel
theorem dX12_search_139 : decode cX12_search 139 = .ok (.ifCond .eq 13, 3) := by decide +kernel
theorem dX12_search_142 : decode cX12_search 142 = .ok (.aload_n 0, 1) := by decide +kernel
theorem dX12_search_143 : decode cX12_search 143 = .ok (.iload_n 3, 1) := by decide +kernel
theorem dX12_search_144 : decode cX12_search 144 = .ok (.invokevirtual 654, 3) := by decide +kernel
theorem dX12_search_147 : decode cX12_search 147 = .ok (.ifCond .eq 5, 3) := by decide +kernel
theorem dX12_search_150 : decode cX12_search 150 = .ok (.iconst 1, 1) := by decide +kernel
theorem dX12_search_151 : decode cX12_search 151 = .ok (.ireturn, 1) := by decide +kernel
theorem dX12_search_152 : decode cX12_search 152 = .ok (.aload_n 0, 1) := by decide +kernel
theorem dX12_search_153 : decode cX12_search 153 = .ok (.getfield 552, 3) := by decide +kernel
theorem dX12_search_156 : decode cX12_search 156 = .ok (.ifCond .ne 10, 3) := by decide +kernel
theorem dX12_search_159 : decode cX12_search 159 = .ok (.aload_n 0, 1) := by decide +kernel
theorem dX12_search_160 : decode cX12_search 160 = .ok (.getfield 587, 3) := by decide +kernel
theorem dX12_search_163 : decode cX12_search 163 = .ok (.ifCond .eq 23, 3) := by decide +kernel
theorem dX12_search_166 : decode cX12_search 166 = .ok (.aload_n 0, 1) := by decide +kernel
theorem dX12_search_167 : decode cX12_search 167 = .ok (.iconst 0, 1) := by decide +kernel
theorem dX12_search_168 : decode cX12_search 168 = .ok (.putfield 490, 3) := by decide +kernel
theorem dX12_search_171 : decode cX12_search 171 = .ok (.aload_n 0, 1) := by decide +kernel
theorem dX12_search_172 : decode cX12_search 172 = .ok (.getfield 552, 3) := by decide +kernel
theorem dX12_search_175 : decode cX12_search 175 = .ok (.ifCond .eq 8, 3) := by decide +kernel
theorem dX12_search_178 : decode cX12_search 178 = .ok (.bipush (-7), 2) := by decide +kernel
theorem dX12_search_180 : decode cX12_search 180 = .ok (.goto 5, 3) := by decide +kernel
theorem dX12_search_183 : decode cX12_search 183 = .ok (.bipush (-6), 2) := by decide +kernel
theorem dX12_search_185 : decode cX12_search 185 = .ok (.ireturn, 1) := by decide +kernel
theorem dX12_search_186 : decode cX12_search 186 = .ok (.iinc 3 1, 3) := by decide +kernel
theorem dX12_search_189 : decode cX12_search 189 = .ok (.goto (-112), 3) := by decide +kernel
theorem dX12_search_192 : decode cX12_search 192 = .ok (.aload_n 0, 1) := by decide +kernel
theorem dX12_search_193 : decode cX12_search 193 = .ok (.iconst 0, 1) := by decide +kernel
theorem dX12_search_194 : decode cX12_search 194 = .ok (.putfield 490, 3) := by decide +kernel
theorem dX12_search_197 : decode cX12_search 197 = .ok (.aload_n 0, 1) := by decide +kernel
theorem dX12_search_198 : decode cX12_search 198 = .ok (.getfield 626, 3) := by decide +kernel
theorem dX12_search_201 : decode cX12_search 201 = .ok (.ifCond .ne 5, 3) := by decide +kernel
theorem dX12_search_204 : decode cX12_search 204 = .ok (.iconst 0, 1) := by decide +kernel
theorem dX12_search_205 : decode cX12_search 205 = .ok (.ireturn, 1) := by decide +kernel
theorem dX12_search_206 : decode cX12_search 206 = .ok (.aload_n 0, 1) := by decide +kernel
theorem dX12_search_207 : decode cX12_search 207 = .ok (.dup, 1) := by decide +kernel
theorem dX12_search_208 : decode cX12_search 208 = .ok (.getfield 623, 3) := by decide +kernel
theorem dX12_search_211 : decode cX12_search 211 = .ok (.iconst 1, 1) := by decide +kernel
theorem dX12_search_212 : decode cX12_search 212 = .ok (.iadd, 1) := by decide +kernel
theorem dX12_search_213 : decode cX12_search 213 = .ok (.putfield 623, 3) := by decide +kernel
theorem dX12_search_216 : decode cX12_search 216 = .ok (.goto (-162), 3) := by decide +kernel
theorem dX12_search_219 : decode cX12_search 219 = .ok (.bipush (-5), 2) := by decide +kernel
theorem dX12_search_221 : decode cX12_search 221 = .ok (.ireturn, 1) := by decide +kernel
theorem dX12_told_0 : decode cX12_told 0 = .ok (.aload_n 0, 1) := by decide +kernel
theorem dX12_told_1 : decode cX12_told 1 = .ok (.iconst 0, 1) := by decide +kernel
theorem dX12_told_2 : decode cX12_told 2 = .ok (.putfield 241, 3) := by decide +kernel
theorem dX12_told_5 : decode cX12_told 5 = .ok (.iload_n 1, 1) := by decide +kernel
theorem dX12_told_6 : decode cX12_told 6 = .ok (.ifCond .ne 10, 3) := by decide +kernel
theorem dX12_told_9 : decode cX12_told 9 = .ok (.aload_n 0, 1) := by decide +kernel
theorem dX12_told_10 : decode cX12_told 10 = .ok (.getfield 484, 3) := by decide +kernel
theorem dX12_told_13 : decode cX12_told 13 = .ok (.goto 29, 3) := by decide +kernel
theorem dX12_told_16 : decode cX12_told 16 = .ok (.iload_n 1, 1) := by decide +kernel
theorem dX12_told_17 : decode cX12_told 17 = .ok (.iconst 1, 1) := by decide +kernel
theorem dX12_told_18 : decode cX12_told 18 = .ok (.if_icmp .ne 10, 3) := by decide +kernel
theorem dX12_told_21 : decode cX12_told 21 = .ok (.aload_n 0, 1) := by decide +kernel
theorem dX12_told_22 : decode cX12_told 22 = .ok (.getfield 487, 3) := by decide +kernel
theorem dX12_told_25 : decode cX12_told 25 = .ok (.goto 17, 3) := by decide +kernel
theorem dX12_told_28 : decode cX12_told 28 = .ok (.iload_n 1, 1) := by decide +kernel
theorem dX12_told_29 : decode cX12_told 29 = .ok (.iconst 2, 1) := by decide +kernel
theorem dX12_told_30 : decode cX12_told 30 = .ok (.if_icmp .ne 10, 3) := by decide +kernel
theorem dX12_told_33 : decode cX12_told 33 = .ok (.aload_n 0, 1) := by decide +kernel
theorem dX12_told_34 : decode cX12_told 34 = .ok (.getfield 490, 3) := by decide +kernel
theorem dX12_told_37 : decode cX12_told 37 = .ok (.goto 5, 3) := by decide +kernel
theorem dX12_told_40 : decode cX12_told 40 = .ok (.bipush (-2), 2) := by decide +kernel
theorem dX12_told_42 : decode cX12_told 42 = .ok (.ireturn, 1) := by decide +kernel
theorem dX12_move_0 : decode cX12_move 0 = .ok (.aload_n 0, 1) := by decide +kernel
theorem dX12_move_1 : decode cX12_move 1 = .ok (.iconst 0, 1) := by decide +kernel
theorem dX12_move_2 : decode cX12_move 2 = .ok (.putfield 241, 3) := by decide +kernel
theorem dX12_move_5 : decode cX12_move 5 = .ok (.iload_n 1, 1) := by decide +kernel
theorem dX12_move_6 : decode cX12_move 6 = .ok (.iconst 0, 1) := by decide +kernel
theorem dX12_move_7 : decode cX12_move 7 = .ok (.aload_n 0, 1) := by decide +kernel
theorem dX12_move_8 : decode cX12_move 8 = .ok (.getfield 490, 3) := by decide +kernel
theorem dX12_move_11 : decode cX12_move 11 = .ok (.iconst 1, 1) := by decide +kernel
theorem dX12_move_12 : decode cX12_move 12 = .ok (.isub, 1) := by decide +kernel
theorem dX12_move_13 : decode cX12_move 13 = .ok (.invokestatic 245, 3) := by decide +kernel
theorem dX12_move_16 : decode cX12_move 16 = .ok (.ifCond .ne 5, 3) := by decide +kernel
theorem dX12_move_19 : decode cX12_move 19 = .ok (.iconst (-1), 1) := by decide +kernel
theorem dX12_move_20 : decode cX12_move 20 = .ok (.ireturn, 1) := by decide +kernel
theorem dX12_move_21 : decode cX12_move 21 = .ok (.iload_n 2, 1) := by decide +kernel
theorem dX12_move_22 : decode cX12_move 22 = .ok (.tableswitch 76 0 3 #[30, 37, 44, 51], 30) := by decide +kernel
theorem dX12_move_52 : decode cX12_move 52 = .ok (.aload_n 0, 1) := by decide +kernel
theorem dX12_move_53 : decode cX12_move 53 = .ok (.getfield 181, 3) := by decide +kernel
theorem dX12_move_56 : decode cX12_move 56 = .ok (.iload_n 1, 1) := by decide +kernel
theorem dX12_move_57 : decode cX12_move 57 = .ok (.iaload, 1) := by decide +kernel
theorem dX12_move_58 : decode cX12_move 58 = .ok (.ireturn, 1) := by decide +kernel
theorem dX12_move_59 : decode cX12_move 59 = .ok (.aload_n 0, 1) := by decide +kernel
theorem dX12_move_60 : decode cX12_move 60 = .ok (.getfield 184, 3) := by decide +kernel
theorem dX12_move_63 : decode cX12_move 63 = .ok (.iload_n 1, 1) := by decide +kernel
theorem dX12_move_64 : decode cX12_move 64 = .ok (.iaload, 1) := by decide +kernel
theorem dX12_move_65 : decode cX12_move 65 = .ok (.ireturn, 1) := by decide +kernel
theorem dX12_move_66 : decode cX12_move 66 = .ok (.aload_n 0, 1) := by decide +kernel
theorem dX12_move_67 : decode cX12_move 67 = .ok (.getfield 187, 3) := by decide +kernel
theorem dX12_move_70 : decode cX12_move 70 = .ok (.iload_n 1, 1) := by decide +kernel
theorem dX12_move_71 : decode cX12_move 71 = .ok (.iaload, 1) := by decide +kernel
theorem dX12_move_72 : decode cX12_move 72 = .ok (.ireturn, 1) := by decide +kernel
theorem dX12_move_73 : decode cX12_move 73 = .ok (.aload_n 0, 1) := by decide +kernel
theorem dX12_move_74 : decode cX12_move 74 = .ok (.getfield 190, 3) := by decide +kernel
theorem dX12_move_77 : decode cX12_move 77 = .ok (.iload_n 1, 1) := by decide +kernel
theorem dX12_move_78 : decode cX12_move 78 = .ok (.iaload, 1) := by decide +kernel
theorem dX12_move_79 : decode cX12_move 79 = .ok (.ifCond .ge 7, 3) := by decide +kernel
theorem dX12_move_82 : decode cX12_move 82 = .ok (.iconst 0, 1) := by decide +kernel
theorem dX12_move_83 : decode cX12_move 83 = .ok (.goto 14, 3) := by decide +kernel
theorem dX12_move_86 : decode cX12_move 86 = .ok (.aload_n 0, 1) := by decide +kernel
theorem dX12_move_87 : decode cX12_move 87 = .ok (.getfield 169, 3) := by decide +kernel
theorem dX12_move_90 : decode cX12_move 90 = .ok (.aload_n 0, 1) := by decide +kernel
theorem dX12_move_91 : decode cX12_move 91 = .ok (.getfield 190, 3) := by decide +kernel
theorem dX12_move_94 : decode cX12_move 94 = .ok (.iload_n 1, 1) := by decide +kernel
theorem dX12_move_95 : decode cX12_move 95 = .ok (.iaload, 1) := by decide +kernel
theorem dX12_move_96 : decode cX12_move 96 = .ok (.iaload, 1) := by decide +kernel
theorem dX12_move_97 : decode cX12_move 97 = .ok (.ireturn, 1) := by decide +kernel
theorem dX12_move_98 : decode cX12_move 98 = .ok (.bipush (-2), 2) := by decide +kernel
theorem dX12_move_100 : decode cX12_move 100 = .ok (.ireturn, 1) := by decide +kernel
theorem dX12_show_0 : decode cX12_show 0 = .ok (.aload_n 0, 1) := by decide +kernel
theorem dX12_show_1 : decode cX12_show 1 = .ok (.iconst 0, 1) := by decide +kernel
theorem dX12_show_2 : decode cX12_show 2 = .ok (.putfield 241, 3) := by decide +kernel
theorem dX12_show_5 : decode cX12_show 5 = .ok (.iload_n 1, 1) := by decide +kernel
theorem dX12_show_6 : decode cX12_show 6 = .ok (.iconst 0, 1) := by decide +kernel
theorem dX12_show_7 : decode cX12_show 7 = .ok (.aload_n 0, 1) := by decide +kernel
theorem dX12_show_8 : decode cX12_show 8 = .ok (.getfield 490, 3) := by decide +kernel
theorem dX12_show_11 : decode cX12_show 11 = .ok (.iconst 1, 1) := by decide +kernel
theorem dX12_show_12 : decode cX12_show 12 = .ok (.isub, 1) := by decide +kernel
theorem dX12_show_13 : decode cX12_show 13 = .ok (.invokestatic 245, 3) := by decide +kernel
theorem dX12_show_16 : decode cX12_show 16 = .ok (.ifCond .ne 5, 3) := by decide +kernel
theorem dX12_show_19 : decode cX12_show 19 = .ok (.iconst (-1), 1) := by decide +kernel
theorem dX12_show_20 : decode cX12_show 20 = .ok (.ireturn, 1) := by decide +kernel
theorem dX12_show_21 : decode cX12_show 21 = .ok (.aload_n 0, 1) := by decide +kernel
theorem dX12_show_22 : decode cX12_show 22 = .ok (.iconst 0, 1) := by decide +kernel
theorem dX12_show_23 : decode cX12_show 23 = .ok (.putfield 496, 3) := by decide +kernel
theorem dX12_show_26 : decode cX12_show 26 = .ok (.aload_n 0, 1) := by decide +kernel
theorem dX12_show_27 : decode cX12_show 27 = .ok (.iconst 0, 1) := by decide +kernel
theorem dX12_show_28 : decode cX12_show 28 = .ok (.putfield 513, 3) := by decide +kernel
theorem dX12_show_31 : decode cX12_show 31 = .ok (.aload_n 0, 1) := by decide +kernel
theorem dX12_show_32 : decode cX12_show 32 = .ok (.getfield 181, 3) := by decide +kernel
theorem dX12_show_35 : decode cX12_show 35 = .ok (.iload_n 1, 1) := by decide +kernel
theorem dX12_show_36 : decode cX12_show 36 = .ok (.iaload, 1) := by decide +kernel
theorem dX12_show_37 : decode cX12_show 37 = .ok (.ifCond .ne 17, 3) := by decide +kernel
theorem dX12_show_40 : decode cX12_show 40 = .ok (.aload_n 0, 1) := by decide +kernel
theorem dX12_show_41 : decode cX12_show 41 = .ok (.aload_n 0, 1) := by decide +kernel
theorem dX12_show_42 : decode cX12_show 42 = .ok (.getfield 184, 3) := by decide +kernel
theorem dX12_show_45 : decode cX12_show 45 = .ok (.iload_n 1, 1) := by decide +kernel
theorem dX12_show_46 : decode cX12_show 46 = .ok (.iaload, 1) := by decide +kernel
theorem dX12_show_47 : decode cX12_show 47 = .ok (.iconst 0, 1) := by decide +kernel
theorem dX12_show_48 : decode cX12_show 48 = .ok (.invokevirtual 543, 3) := by decide +kernel
theorem dX12_show_51 : decode cX12_show 51 = .ok (.goto 29, 3) := by decide +kernel
theorem dX12_show_54 : decode cX12_show 54 = .ok (.aload_n 0, 1) := by decide +kernel
theorem dX12_show_55 : decode cX12_show 55 = .ok (.aload_n 0, 1) := by decide +kernel
theorem dX12_show_56 : decode cX12_show 56 = .ok (.getfield 160, 3) := by decide +kernel
theorem dX12_show_59 : decode cX12_show 59 = .ok (.aload_n 0, 1) := by decide +kernel
theorem dX12_show_60 : decode cX12_show 60 = .ok (.getfield 190, 3) := by decide +kernel
theorem dX12_show_63 : decode cX12_show 63 = .ok (.iload_n 1, 1) := by decide +kernel
theorem dX12_show_64 : decode cX12_show 64 = .ok (.iaload, 1) := by decide +kernel
theorem dX12_show_65 : decode cX12_show 65 = .ok (.iaload, 1) := by decide +kernel
theorem dX12_show_66 : decode cX12_show 66 = .ok (.aload_n 0, 1) := by decide +kernel
theorem dX12_show_67 : decode cX12_show 67 = .ok (.getfield 163, 3) := by decide +kernel
theorem dX12_show_70 : decode cX12_show 70 = .ok (.aload_n 0, 1) := by decide +kernel
theorem dX12_show_71 : decode cX12_show 71 = .ok (.getfield 190, 3) := by decide +kernel
theorem dX12_show_74 : decode cX12_show 74 = .ok (.iload_n 1, 1) := by decide +kernel
theorem dX12_show_75 : decode cX12_show 75 = .ok (.iaload, 1) := by decide +kernel
theorem dX12_show_76 : decode cX12_show 76 = .ok (.iaload, 1) := by decide +kernel
theorem dX12_show_77 : decode cX12_show 77 = .ok (.invokevirtual 537, 3) := by decide +kernel
theorem dX12_show_80 : decode cX12_show 80 = .ok (.aload_n 0, 1) := by decide +kernel
theorem dX12_show_81 : decode cX12_show 81 = .ok (.getfield 496, 3) := by decide +kernel
theorem dX12_show_84 : decode cX12_show 84 = .ok (.sipush 4000, 3) := by decide +kernel
theorem dX12_show_87 : decode cX12_show 87 = .ok (.if_icmp .le 8, 3) := by decide +kernel
theorem dX12_show_90 : decode cX12_show 90 = .ok (.bipush (-4), 2) := by decide +kernel
theorem dX12_show_92 : decode cX12_show 92 = .ok (.goto 7, 3) := by decide +kernel
theorem dX12_show_95 : decode cX12_show 95 = .ok (.aload_n 0, 1) := by decide +kernel
theorem dX12_show_96 : decode cX12_show 96 = .ok (.invokevirtual 546, 3) := by decide +kernel
theorem dX12_show_99 : decode cX12_show 99 = .ok (.ireturn, 1) := by decide +kernel
