abbrev wsX1_init : List Cond := Cond.code yX1_init cX1_init 1 none :: gb
abbrev wsX1_thrown : List Cond := Cond.code yX1_thrown cX1_thrown 1 (some .int) :: gb
abbrev wsX1_refuse : List Cond := Cond.code yX1_refuse cX1_refuse 3 (some .boolean) :: gb
abbrev wsX1_in : List Cond := Cond.code yX1_in cX1_in 3 (some .boolean) :: gb
abbrev wsX1_across : List Cond := Cond.code yX1_across cX1_across 1 (some .int) :: gb
abbrev wsX1_tiles : List Cond := Cond.code yX1_tiles cX1_tiles 1 (some .int) :: gb
abbrev wsX1_isTile : List Cond := Cond.code yX1_isTile cX1_isTile 2 (some .boolean) :: gb
abbrev wsX1_field : List Cond := Cond.code yX1_field cX1_field 6 (some .int) :: gb
abbrev wsX1_least : List Cond := Cond.code yX1_least cX1_least 2 (some .int) :: gb
abbrev wsX1_greatest : List Cond := Cond.code yX1_greatest cX1_greatest 2 (some .int) :: gb
abbrev wsX1_edge : List Cond := Cond.code yX1_edge cX1_edge 5 (some .int) :: gb
abbrev wsX1_isEmpty : List Cond := Cond.code yX1_isEmpty cX1_isEmpty 4 (some .boolean) :: gb
abbrev wsX1_touches : List Cond := Cond.code yX1_touches cX1_touches 3 (some .boolean) :: gb
abbrev wsX1_tilesOf : List Cond := Cond.code yX1_tilesOf cX1_tilesOf 4 (some .int) :: gb
abbrev wsX1_put : List Cond := Cond.code yX1_put cX1_put 8 (some .int) :: gb
abbrev wsX1_empty : List Cond := Cond.code yX1_empty cX1_empty 1 none :: gb
abbrev wsX1_manyOf : List Cond := Cond.code yX1_manyOf cX1_manyOf 4 (some .int) :: gb
abbrev wsX1_open : List Cond := Cond.code yX1_open cX1_open 2 (some .int) :: gb
abbrev wsX1_next : List Cond := Cond.code yX1_next cX1_next 1 (some .int) :: gb
abbrev wsX1_item : List Cond := Cond.code yX1_item cX1_item 3 (some .int) :: gb
abbrev wsX1_tile : List Cond := Cond.code yX1_tile cX1_tile 3 (some .int) :: gb
abbrev wsX1_tileOf : List Cond := Cond.code yX1_tileOf cX1_tileOf 4 (some .int) :: gb
abbrev wsX1_count : List Cond := Cond.code yX1_count cX1_count 2 (some .int) :: gb
theorem dX1_init_0 : decode cX1_init 0 = .ok (.aload_n 0, 1) := by decide +kernel
theorem dX1_init_1 : decode cX1_init 1 = .ok (.invokespecial 1, 3) := by decide +kernel
theorem dX1_init_4 : decode cX1_init 4 = .ok (.aload_n 0, 1) := by decide +kernel
theorem dX1_init_5 : decode cX1_init 5 = .ok (.iconst 1, 1) := by decide +kernel
theorem dX1_init_6 : decode cX1_init 6 = .ok (.putfield 7, 3) := by decide +kernel
theorem dX1_init_9 : decode cX1_init 9 = .ok (.aload_n 0, 1) := by decide +kernel
theorem dX1_init_10 : decode cX1_init 10 = .ok (.iconst 1, 1) := by decide +kernel
theorem dX1_init_11 : decode cX1_init 11 = .ok (.putfield 13, 3) := by decide +kernel
theorem dX1_init_14 : decode cX1_init 14 = .ok (.aload_n 0, 1) := by decide +kernel
theorem dX1_init_15 : decode cX1_init 15 = .ok (.bipush 8, 2) := by decide +kernel
theorem dX1_init_17 : decode cX1_init 17 = .ok (.putfield 16, 3) := by decide +kernel
theorem dX1_init_20 : decode cX1_init 20 = .ok (.aload_n 0, 1) := by decide +kernel
theorem dX1_init_21 : decode cX1_init 21 = .ok (.bipush 64, 2) := by decide +kernel
theorem dX1_init_23 : decode cX1_init 23 = .ok (.putfield 19, 3) := by decide +kernel
theorem dX1_init_26 : decode cX1_init 26 = .ok (.aload_n 0, 1) := by decide +kernel
theorem dX1_init_27 : decode cX1_init 27 = .ok (.sipush 4096, 3) := by decide +kernel
theorem dX1_init_30 : decode cX1_init 30 = .ok (.newarray .int, 2) := by decide +kernel
theorem dX1_init_32 : decode cX1_init 32 = .ok (.putfield 22, 3) := by decide +kernel
theorem dX1_init_35 : decode cX1_init 35 = .ok (.aload_n 0, 1) := by decide +kernel
theorem dX1_init_36 : decode cX1_init 36 = .ok (.sipush 4096, 3) := by decide +kernel
theorem dX1_init_39 : decode cX1_init 39 = .ok (.newarray .int, 2) := by decide +kernel
theorem dX1_init_41 : decode cX1_init 41 = .ok (.putfield 26, 3) := by decide +kernel
theorem dX1_init_44 : decode cX1_init 44 = .ok (.aload_n 0, 1) := by decide +kernel
theorem dX1_init_45 : decode cX1_init 45 = .ok (.sipush 4096, 3) := by decide +kernel
theorem dX1_init_48 : decode cX1_init 48 = .ok (.newarray .int, 2) := by decide +kernel
theorem dX1_init_50 : decode cX1_init 50 = .ok (.putfield 29, 3) := by decide +kernel
theorem dX1_init_53 : decode cX1_init 53 = .ok (.aload_n 0, 1) := by decide +kernel
theorem dX1_init_54 : decode cX1_init 54 = .ok (.sipush 4096, 3) := by decide +kernel
theorem dX1_init_57 : decode cX1_init 57 = .ok (.newarray .int, 2) := by decide +kernel
theorem dX1_init_59 : decode cX1_init 59 = .ok (.putfield 32, 3) := by decide +kernel
theorem dX1_init_62 : decode cX1_init 62 = .ok (.aload_n 0, 1) := by decide +kernel
theorem dX1_init_63 : decode cX1_init 63 = .ok (.sipush 4096, 3) := by decide +kernel
theorem dX1_init_66 : decode cX1_init 66 = .ok (.newarray .int, 2) := by decide +kernel
theorem dX1_init_68 : decode cX1_init 68 = .ok (.putfield 35, 3) := by decide +kernel
theorem dX1_init_71 : decode cX1_init 71 = .ok (.aload_n 0, 1) := by decide +kernel
theorem dX1_init_72 : decode cX1_init 72 = .ok (.iconst (-1), 1) := by decide +kernel
theorem dX1_init_73 : decode cX1_init 73 = .ok (.putfield 38, 3) := by decide +kernel
theorem dX1_init_76 : decode cX1_init 76 = .ok (.return_, 1) := by decide +kernel
theorem dX1_thrown_0 : decode cX1_thrown 0 = .ok (.aload_n 0, 1) := by decide +kernel
theorem dX1_thrown_1 : decode cX1_thrown 1 = .ok (.getfield 41, 3) := by decide +kernel
theorem dX1_thrown_4 : decode cX1_thrown 4 = .ok (.ireturn, 1) := by decide +kernel
theorem dX1_refuse_0 : decode cX1_refuse 0 = .ok (.aload_n 0, 1) := by decide +kernel
theorem dX1_refuse_1 : decode cX1_refuse 1 = .ok (.iload_n 1, 1) := by decide +kernel
theorem dX1_refuse_2 : decode cX1_refuse 2 = .ok (.ifCond .eq 7, 3) := by decide +kernel
theorem dX1_refuse_5 : decode cX1_refuse 5 = .ok (.iconst 1, 1) := by decide +kernel
theorem dX1_refuse_6 : decode cX1_refuse 6 = .ok (.goto 12, 3) := by decide +kernel
theorem dX1_refuse_9 : decode cX1_refuse 9 = .ok (.iload_n 2, 1) := by decide +kernel
theorem dX1_refuse_10 : decode cX1_refuse 10 = .ok (.ifCond .eq 7, 3) := by decide +kernel
theorem dX1_refuse_13 : decode cX1_refuse 13 = .ok (.iconst 2, 1) := by decide +kernel
theorem dX1_refuse_14 : decode cX1_refuse 14 = .ok (.goto 4, 3) := by decide +kernel
theorem dX1_refuse_17 : decode cX1_refuse 17 = .ok (.iconst 0, 1) := by decide +kernel
theorem dX1_refuse_18 : decode cX1_refuse 18 = .ok (.putfield 41, 3) := by decide +kernel
theorem dX1_refuse_21 : decode cX1_refuse 21 = .ok (.aload_n 0, 1) := by decide +kernel
theorem dX1_refuse_22 : decode cX1_refuse 22 = .ok (.getfield 41, 3) := by decide +kernel
theorem dX1_refuse_25 : decode cX1_refuse 25 = .ok (.ifCond .le 7, 3) := by decide +kernel
theorem dX1_refuse_28 : decode cX1_refuse 28 = .ok (.iconst 1, 1) := by decide +kernel
theorem dX1_refuse_29 : decode cX1_refuse 29 = .ok (.goto 4, 3) := by decide +kernel
theorem dX1_refuse_32 : decode cX1_refuse 32 = .ok (.iconst 0, 1) := by decide +kernel
theorem dX1_refuse_33 : decode cX1_refuse 33 = .ok (.ireturn, 1) := by decide +kernel
theorem dX1_in_0 : decode cX1_in 0 = .ok (.iload_n 0, 1) := by decide +kernel
theorem dX1_in_1 : decode cX1_in 1 = .ok (.iload_n 1, 1) := by decide +kernel
theorem dX1_in_2 : decode cX1_in 2 = .ok (.if_icmp .lt 12, 3) := by decide +kernel
theorem dX1_in_5 : decode cX1_in 5 = .ok (.iload_n 0, 1) := by decide +kernel
theorem dX1_in_6 : decode cX1_in 6 = .ok (.iload_n 2, 1) := by decide +kernel
theorem dX1_in_7 : decode cX1_in 7 = .ok (.if_icmp .gt 7, 3) := by decide +kernel
theorem dX1_in_10 : decode cX1_in 10 = .ok (.iconst 1, 1) := by decide +kernel
theorem dX1_in_11 : decode cX1_in 11 = .ok (.goto 4, 3) := by decide +kernel
theorem dX1_in_14 : decode cX1_in 14 = .ok (.iconst 0, 1) := by decide +kernel
theorem dX1_in_15 : decode cX1_in 15 = .ok (.ireturn, 1) := by decide +kernel
theorem dX1_across_0 : decode cX1_across 0 = .ok (.aload_n 0, 1) := by decide +kernel
theorem dX1_across_1 : decode cX1_across 1 = .ok (.getfield 7, 3) := by decide +kernel
theorem dX1_across_4 : decode cX1_across 4 = .ok (.aload_n 0, 1) := by decide +kernel
theorem dX1_across_5 : decode cX1_across 5 = .ok (.getfield 16, 3) := by decide +kernel
theorem dX1_across_8 : decode cX1_across 8 = .ok (.iadd, 1) := by decide +kernel
theorem dX1_across_9 : decode cX1_across 9 = .ok (.iconst 1, 1) := by decide +kernel
theorem dX1_across_10 : decode cX1_across 10 = .ok (.isub, 1) := by decide +kernel
theorem dX1_across_11 : decode cX1_across 11 = .ok (.aload_n 0, 1) := by decide +kernel
theorem dX1_across_12 : decode cX1_across 12 = .ok (.getfield 16, 3) := by decide +kernel
theorem dX1_across_15 : decode cX1_across 15 = .ok (.idiv, 1) := by decide +kernel
theorem dX1_across_16 : decode cX1_across 16 = .ok (.ireturn, 1) := by decide +kernel
theorem dX1_tiles_0 : decode cX1_tiles 0 = .ok (.aload_n 0, 1) := by decide +kernel
theorem dX1_tiles_1 : decode cX1_tiles 1 = .ok (.invokevirtual 44, 3) := by decide +kernel
theorem dX1_tiles_4 : decode cX1_tiles 4 = .ok (.aload_n 0, 1) := by decide +kernel
theorem dX1_tiles_5 : decode cX1_tiles 5 = .ok (.getfield 13, 3) := by decide +kernel
theorem dX1_tiles_8 : decode cX1_tiles 8 = .ok (.aload_n 0, 1) := by decide +kernel
theorem dX1_tiles_9 : decode cX1_tiles 9 = .ok (.getfield 16, 3) := by decide +kernel
theorem dX1_tiles_12 : decode cX1_tiles 12 = .ok (.iadd, 1) := by decide +kernel
theorem dX1_tiles_13 : decode cX1_tiles 13 = .ok (.iconst 1, 1) := by decide +kernel
theorem dX1_tiles_14 : decode cX1_tiles 14 = .ok (.isub, 1) := by decide +kernel
theorem dX1_tiles_15 : decode cX1_tiles 15 = .ok (.aload_n 0, 1) := by decide +kernel
theorem dX1_tiles_16 : decode cX1_tiles 16 = .ok (.getfield 16, 3) := by decide +kernel
theorem dX1_tiles_19 : decode cX1_tiles 19 = .ok (.idiv, 1) := by decide +kernel
theorem dX1_tiles_20 : decode cX1_tiles 20 = .ok (.imul, 1) := by decide +kernel
theorem dX1_tiles_21 : decode cX1_tiles 21 = .ok (.ireturn, 1) := by decide +kernel
theorem dX1_isTile_0 : decode cX1_isTile 0 = .ok (.iload_n 1, 1) := by decide +kernel
theorem dX1_isTile_1 : decode cX1_isTile 1 = .ok (.iconst 0, 1) := by decide +kernel
theorem dX1_isTile_2 : decode cX1_isTile 2 = .ok (.aload_n 0, 1) := by decide +kernel
theorem dX1_isTile_3 : decode cX1_isTile 3 = .ok (.invokevirtual 48, 3) := by decide +kernel
theorem dX1_isTile_6 : decode cX1_isTile 6 = .ok (.iconst 1, 1) := by decide +kernel
theorem dX1_isTile_7 : decode cX1_isTile 7 = .ok (.isub, 1) := by decide +kernel
theorem dX1_isTile_8 : decode cX1_isTile 8 = .ok (.invokestatic 51, 3) := by decide +kernel
theorem dX1_isTile_11 : decode cX1_isTile 11 = .ok (.ireturn, 1) := by decide +kernel
theorem dX1_field_0 : decode cX1_field 0 = .ok (.iload_n 1, 1) := by decide +kernel
theorem dX1_field_1 : decode cX1_field 1 = .ok (.iconst 1, 1) := by decide +kernel
theorem dX1_field_2 : decode cX1_field 2 = .ok (.sipush 1024, 3) := by decide +kernel
theorem dX1_field_5 : decode cX1_field 5 = .ok (.invokestatic 51, 3) := by decide +kernel
theorem dX1_field_8 : decode cX1_field 8 = .ok (.ifCond .eq 54, 3) := by decide +kernel
theorem dX1_field_11 : decode cX1_field 11 = .ok (.iload_n 2, 1) := by decide +kernel
theorem dX1_field_12 : decode cX1_field 12 = .ok (.iconst 1, 1) := by decide +kernel
theorem dX1_field_13 : decode cX1_field 13 = .ok (.sipush 1024, 3) := by decide +kernel
theorem dX1_field_16 : decode cX1_field 16 = .ok (.invokestatic 51, 3) := by decide +kernel
theorem dX1_field_19 : decode cX1_field 19 = .ok (.ifCond .eq 43, 3) := by decide +kernel
theorem dX1_field_22 : decode cX1_field 22 = .ok (.iload_n 3, 1) := by decide +kernel
theorem dX1_field_23 : decode cX1_field 23 = .ok (.bipush 8, 2) := by decide +kernel
theorem dX1_field_25 : decode cX1_field 25 = .ok (.if_icmp .eq 21, 3) := by decide +kernel
theorem dX1_field_28 : decode cX1_field 28 = .ok (.iload_n 3, 1) := by decide +kernel
theorem dX1_field_29 : decode cX1_field 29 = .ok (.bipush 16, 2) := by decide +kernel
theorem dX1_field_31 : decode cX1_field 31 = .ok (.if_icmp .eq 15, 3) := by decide +kernel
theorem dX1_field_34 : decode cX1_field 34 = .ok (.iload_n 3, 1) := by decide +kernel
theorem dX1_field_35 : decode cX1_field 35 = .ok (.bipush 32, 2) := by decide +kernel
theorem dX1_field_37 : decode cX1_field 37 = .ok (.if_icmp .eq 9, 3) := by decide +kernel
theorem dX1_field_40 : decode cX1_field 40 = .ok (.iload_n 3, 1) := by decide +kernel
theorem dX1_field_41 : decode cX1_field 41 = .ok (.bipush 64, 2) := by decide +kernel
theorem dX1_field_43 : decode cX1_field 43 = .ok (.if_icmp .ne 19, 3) := by decide +kernel
theorem dX1_field_46 : decode cX1_field 46 = .ok (.iload 4, 2) := by decide +kernel
theorem dX1_field_48 : decode cX1_field 48 = .ok (.iconst 1, 1) := by decide +kernel
theorem dX1_field_49 : decode cX1_field 49 = .ok (.sipush 8192, 3) := by decide +kernel
theorem dX1_field_52 : decode cX1_field 52 = .ok (.invokestatic 51, 3) := by decide +kernel
theorem dX1_field_55 : decode cX1_field 55 = .ok (.ifCond .eq 7, 3) := by decide +kernel
theorem dX1_field_58 : decode cX1_field 58 = .ok (.iconst 1, 1) := by decide +kernel
theorem dX1_field_59 : decode cX1_field 59 = .ok (.goto 4, 3) := by decide +kernel
theorem dX1_field_62 : decode cX1_field 62 = .ok (.iconst 0, 1) := by decide +kernel
theorem dX1_field_63 : decode cX1_field 63 = .ok (.istore 5, 2) := by decide +kernel
theorem dX1_field_65 : decode cX1_field 65 = .ok (.aload_n 0, 1) := by decide +kernel
theorem dX1_field_66 : decode cX1_field 66 = .ok (.iload 5, 2) := by decide +kernel
theorem dX1_field_68 : decode cX1_field 68 = .ok (.ifCond .ne 7, 3) := by decide +kernel
theorem dX1_field_71 : decode cX1_field 71 = .ok (.iconst 1, 1) := by decide +kernel
theorem dX1_field_72 : decode cX1_field 72 = .ok (.goto 4, 3) := by decide +kernel
theorem dX1_field_75 : decode cX1_field 75 = .ok (.iconst 0, 1) := by decide +kernel
theorem dX1_field_76 : decode cX1_field 76 = .ok (.iconst 0, 1) := by decide +kernel
theorem dX1_field_77 : decode cX1_field 77 = .ok (.invokevirtual 55, 3) := by decide +kernel
theorem dX1_field_80 : decode cX1_field 80 = .ok (.ifCond .eq 5, 3) := by decide +kernel
theorem dX1_field_83 : decode cX1_field 83 = .ok (.iconst 0, 1) := by decide +kernel
theorem dX1_field_84 : decode cX1_field 84 = .ok (.ireturn, 1) := by decide +kernel
theorem dX1_field_85 : decode cX1_field 85 = .ok (.aload_n 0, 1) := by decide +kernel
theorem dX1_field_86 : decode cX1_field 86 = .ok (.iload_n 1, 1) := by decide +kernel
theorem dX1_field_87 : decode cX1_field 87 = .ok (.putfield 7, 3) := by decide +kernel
theorem dX1_field_90 : decode cX1_field 90 = .ok (.aload_n 0, 1) := by decide +kernel
theorem dX1_field_91 : decode cX1_field 91 = .ok (.iload_n 2, 1) := by decide +kernel
theorem dX1_field_92 : decode cX1_field 92 = .ok (.putfield 13, 3) := by decide +kernel
theorem dX1_field_95 : decode cX1_field 95 = .ok (.aload_n 0, 1) := by decide +kernel
theorem dX1_field_96 : decode cX1_field 96 = .ok (.iload_n 3, 1) := by decide +kernel
theorem dX1_field_97 : decode cX1_field 97 = .ok (.putfield 16, 3) := by decide +kernel
theorem dX1_field_100 : decode cX1_field 100 = .ok (.aload_n 0, 1) := by decide +kernel
theorem dX1_field_101 : decode cX1_field 101 = .ok (.iload 4, 2) := by decide +kernel
theorem dX1_field_103 : decode cX1_field 103 = .ok (.putfield 19, 3) := by decide +kernel
theorem dX1_field_106 : decode cX1_field 106 = .ok (.aload_n 0, 1) := by decide +kernel
theorem dX1_field_107 : decode cX1_field 107 = .ok (.iconst 0, 1) := by decide +kernel
theorem dX1_field_108 : decode cX1_field 108 = .ok (.putfield 59, 3) := by decide +kernel
theorem dX1_field_111 : decode cX1_field 111 = .ok (.aload_n 0, 1) := by decide +kernel
theorem dX1_field_112 : decode cX1_field 112 = .ok (.iconst 0, 1) := by decide +kernel
theorem dX1_field_113 : decode cX1_field 113 = .ok (.putfield 62, 3) := by decide +kernel
theorem dX1_field_116 : decode cX1_field 116 = .ok (.aload_n 0, 1) := by decide +kernel
theorem dX1_field_117 : decode cX1_field 117 = .ok (.iconst (-1), 1) := by decide +kernel
theorem dX1_field_118 : decode cX1_field 118 = .ok (.putfield 38, 3) := by decide +kernel
theorem dX1_field_121 : decode cX1_field 121 = .ok (.aload_n 0, 1) := by decide +kernel
theorem dX1_field_122 : decode cX1_field 122 = .ok (.invokevirtual 48, 3) := by decide +kernel
theorem dX1_field_125 : decode cX1_field 125 = .ok (.ireturn, 1) := by decide +kernel
theorem dX1_least_0 : decode cX1_least 0 = .ok (.iload_n 0, 1) := by decide +kernel
theorem dX1_least_1 : decode cX1_least 1 = .ok (.iload_n 1, 1) := by decide +kernel
theorem dX1_least_2 : decode cX1_least 2 = .ok (.if_icmp .ge 7, 3) := by decide +kernel
theorem dX1_least_5 : decode cX1_least 5 = .ok (.iload_n 0, 1) := by decide +kernel
theorem dX1_least_6 : decode cX1_least 6 = .ok (.goto 4, 3) := by decide +kernel
theorem dX1_least_9 : decode cX1_least 9 = .ok (.iload_n 1, 1) := by decide +kernel
theorem dX1_least_10 : decode cX1_least 10 = .ok (.ireturn, 1) := by decide +kernel
theorem dX1_greatest_0 : decode cX1_greatest 0 = .ok (.iload_n 0, 1) := by decide +kernel
theorem dX1_greatest_1 : decode cX1_greatest 1 = .ok (.iload_n 1, 1) := by decide +kernel
theorem dX1_greatest_2 : decode cX1_greatest 2 = .ok (.if_icmp .le 7, 3) := by decide +kernel
theorem dX1_greatest_5 : decode cX1_greatest 5 = .ok (.iload_n 0, 1) := by decide +kernel
theorem dX1_greatest_6 : decode cX1_greatest 6 = .ok (.goto 4, 3) := by decide +kernel
theorem dX1_greatest_9 : decode cX1_greatest 9 = .ok (.iload_n 1, 1) := by decide +kernel
theorem dX1_greatest_10 : decode cX1_greatest 10 = .ok (.ireturn, 1) := by decide +kernel
theorem dX1_edge_0 : decode cX1_edge 0 = .ok (.iload_n 1, 1) := by decide +kernel
theorem dX1_edge_1 : decode cX1_edge 1 = .ok (.aload_n 0, 1) := by decide +kernel
theorem dX1_edge_2 : decode cX1_edge 2 = .ok (.invokevirtual 44, 3) := by decide +kernel
theorem dX1_edge_5 : decode cX1_edge 5 = .ok (.irem, 1) := by decide +kernel
theorem dX1_edge_6 : decode cX1_edge 6 = .ok (.aload_n 0, 1) := by decide +kernel
theorem dX1_edge_7 : decode cX1_edge 7 = .ok (.getfield 16, 3) := by decide +kernel
theorem dX1_edge_10 : decode cX1_edge 10 = .ok (.imul, 1) := by decide +kernel
theorem dX1_edge_11 : decode cX1_edge 11 = .ok (.istore_n 3, 1) := by decide +kernel
theorem dX1_edge_12 : decode cX1_edge 12 = .ok (.iload_n 1, 1) := by decide +kernel
theorem dX1_edge_13 : decode cX1_edge 13 = .ok (.aload_n 0, 1) := by decide +kernel
theorem dX1_edge_14 : decode cX1_edge 14 = .ok (.invokevirtual 44, 3) := by decide +kernel
theorem dX1_edge_17 : decode cX1_edge 17 = .ok (.idiv, 1) := by decide +kernel
theorem dX1_edge_18 : decode cX1_edge 18 = .ok (.aload_n 0, 1) := by decide +kernel
theorem dX1_edge_19 : decode cX1_edge 19 = .ok (.getfield 16, 3) := by decide +kernel
theorem dX1_edge_22 : decode cX1_edge 22 = .ok (.imul, 1) := by decide +kernel
theorem dX1_edge_23 : decode cX1_edge 23 = .ok (.istore 4, 2) := by decide +kernel
theorem dX1_edge_25 : decode cX1_edge 25 = .ok (.iload_n 2, 1) := by decide +kernel
theorem dX1_edge_26 : decode cX1_edge 26 = .ok (.tableswitch 45 0 2 #[26, 28, 31], 26) := by decide +kernel
theorem dX1_edge_52 : decode cX1_edge 52 = .ok (.iload_n 3, 1) := by decide +kernel
theorem dX1_edge_53 : decode cX1_edge 53 = .ok (.ireturn, 1) := by decide +kernel
theorem dX1_edge_54 : decode cX1_edge 54 = .ok (.iload 4, 2) := by decide +kernel
theorem dX1_edge_56 : decode cX1_edge 56 = .ok (.ireturn, 1) := by decide +kernel
theorem dX1_edge_57 : decode cX1_edge 57 = .ok (.iload_n 3, 1) := by decide +kernel
theorem dX1_edge_58 : decode cX1_edge 58 = .ok (.aload_n 0, 1) := by decide +kernel
theorem dX1_edge_59 : decode cX1_edge 59 = .ok (.getfield 16, 3) := by decide +kernel
theorem dX1_edge_62 : decode cX1_edge 62 = .ok (.iadd, 1) := by decide +kernel
theorem dX1_edge_63 : decode cX1_edge 63 = .ok (.aload_n 0, 1) := by decide +kernel
theorem dX1_edge_64 : decode cX1_edge 64 = .ok (.getfield 7, 3) := by decide +kernel
theorem dX1_edge_67 : decode cX1_edge 67 = .ok (.invokestatic 65, 3) := by decide +kernel
theorem dX1_edge_70 : decode cX1_edge 70 = .ok (.ireturn, 1) := by decide +kernel
theorem dX1_edge_71 : decode cX1_edge 71 = .ok (.iload 4, 2) := by decide +kernel
theorem dX1_edge_73 : decode cX1_edge 73 = .ok (.aload_n 0, 1) := by decide +kernel
theorem dX1_edge_74 : decode cX1_edge 74 = .ok (.getfield 16, 3) := by decide +kernel
theorem dX1_edge_77 : decode cX1_edge 77 = .ok (.iadd, 1) := by decide +kernel
theorem dX1_edge_78 : decode cX1_edge 78 = .ok (.aload_n 0, 1) := by decide +kernel
theorem dX1_edge_79 : decode cX1_edge 79 = .ok (.getfield 13, 3) := by decide +kernel
theorem dX1_edge_82 : decode cX1_edge 82 = .ok (.invokestatic 65, 3) := by decide +kernel
theorem dX1_edge_85 : decode cX1_edge 85 = .ok (.ireturn, 1) := by decide +kernel
theorem dX1_isEmpty_0 : decode cX1_isEmpty 0 = .ok (.iload_n 0, 1) := by decide +kernel
theorem dX1_isEmpty_1 : decode cX1_isEmpty 1 = .ok (.iload_n 2, 1) := by decide +kernel
theorem dX1_isEmpty_2 : decode cX1_isEmpty 2 = .ok (.if_icmp .ge 8, 3) := by decide +kernel
theorem dX1_isEmpty_5 : decode cX1_isEmpty 5 = .ok (.iload_n 1, 1) := by decide +kernel
theorem dX1_isEmpty_6 : decode cX1_isEmpty 6 = .ok (.iload_n 3, 1) := by decide +kernel
theorem dX1_isEmpty_7 : decode cX1_isEmpty 7 = .ok (.if_icmp .lt 7, 3) := by decide +kernel
theorem dX1_isEmpty_10 : decode cX1_isEmpty 10 = .ok (.iconst 1, 1) := by decide +kernel
theorem dX1_isEmpty_11 : decode cX1_isEmpty 11 = .ok (.goto 4, 3) := by decide +kernel
theorem dX1_isEmpty_14 : decode cX1_isEmpty 14 = .ok (.iconst 0, 1) := by decide +kernel
theorem dX1_isEmpty_15 : decode cX1_isEmpty 15 = .ok (.ireturn, 1) := by decide +kernel
theorem dX1_touches_0 : decode cX1_touches 0 = .ok (.aload_n 0, 1) := by decide +kernel
theorem dX1_touches_1 : decode cX1_touches 1 = .ok (.getfield 22, 3) := by decide +kernel
theorem dX1_touches_4 : decode cX1_touches 4 = .ok (.iload_n 1, 1) := by decide +kernel
theorem dX1_touches_5 : decode cX1_touches 5 = .ok (.iaload, 1) := by decide +kernel
theorem dX1_touches_6 : decode cX1_touches 6 = .ok (.aload_n 0, 1) := by decide +kernel
theorem dX1_touches_7 : decode cX1_touches 7 = .ok (.iload_n 2, 1) := by decide +kernel
theorem dX1_touches_8 : decode cX1_touches 8 = .ok (.iconst 0, 1) := by decide +kernel
theorem dX1_touches_9 : decode cX1_touches 9 = .ok (.invokevirtual 69, 3) := by decide +kernel
theorem dX1_touches_12 : decode cX1_touches 12 = .ok (.invokestatic 72, 3) := by decide +kernel
theorem dX1_touches_15 : decode cX1_touches 15 = .ok (.aload_n 0, 1) := by decide +kernel
theorem dX1_touches_16 : decode cX1_touches 16 = .ok (.getfield 26, 3) := by decide +kernel
theorem dX1_touches_19 : decode cX1_touches 19 = .ok (.iload_n 1, 1) := by decide +kernel
theorem dX1_touches_20 : decode cX1_touches 20 = .ok (.iaload, 1) := by decide +kernel
theorem dX1_touches_21 : decode cX1_touches 21 = .ok (.aload_n 0, 1) := by decide +kernel
theorem dX1_touches_22 : decode cX1_touches 22 = .ok (.iload_n 2, 1) := by decide +kernel
theorem dX1_touches_23 : decode cX1_touches 23 = .ok (.iconst 1, 1) := by decide +kernel
theorem dX1_touches_24 : decode cX1_touches 24 = .ok (.invokevirtual 69, 3) := by decide +kernel
theorem dX1_touches_27 : decode cX1_touches 27 = .ok (.invokestatic 72, 3) := by decide +kernel
theorem dX1_touches_30 : decode cX1_touches 30 = .ok (.aload_n 0, 1) := by decide +kernel
theorem dX1_touches_31 : decode cX1_touches 31 = .ok (.getfield 29, 3) := by decide +kernel
theorem dX1_touches_34 : decode cX1_touches 34 = .ok (.iload_n 1, 1) := by decide +kernel
theorem dX1_touches_35 : decode cX1_touches 35 = .ok (.iaload, 1) := by decide +kernel
theorem dX1_touches_36 : decode cX1_touches 36 = .ok (.aload_n 0, 1) := by decide +kernel
theorem dX1_touches_37 : decode cX1_touches 37 = .ok (.iload_n 2, 1) := by decide +kernel
theorem dX1_touches_38 : decode cX1_touches 38 = .ok (.iconst 2, 1) := by decide +kernel
theorem dX1_touches_39 : decode cX1_touches 39 = .ok (.invokevirtual 69, 3) := by decide +kernel
theorem dX1_touches_42 : decode cX1_touches 42 = .ok (.invokestatic 65, 3) := by decide +kernel
theorem dX1_touches_45 : decode cX1_touches 45 = .ok (.aload_n 0, 1) := by decide +kernel
theorem dX1_touches_46 : decode cX1_touches 46 = .ok (.getfield 32, 3) := by decide +kernel
theorem dX1_touches_49 : decode cX1_touches 49 = .ok (.iload_n 1, 1) := by decide +kernel
theorem dX1_touches_50 : decode cX1_touches 50 = .ok (.iaload, 1) := by decide +kernel
theorem dX1_touches_51 : decode cX1_touches 51 = .ok (.aload_n 0, 1) := by decide +kernel
theorem dX1_touches_52 : decode cX1_touches 52 = .ok (.iload_n 2, 1) := by decide +kernel
theorem dX1_touches_53 : decode cX1_touches 53 = .ok (.iconst 3, 1) := by decide +kernel
theorem dX1_touches_54 : decode cX1_touches 54 = .ok (.invokevirtual 69, 3) := by decide +kernel
theorem dX1_touches_57 : decode cX1_touches 57 = .ok (.invokestatic 65, 3) := by decide +kernel
theorem dX1_touches_60 : decode cX1_touches 60 = .ok (.invokestatic 75, 3) := by decide +kernel
theorem dX1_touches_63 : decode cX1_touches 63 = .ok (.ifCond .ne 7, 3) := by decide +kernel
theorem dX1_touches_66 : decode cX1_touches 66 = .ok (.iconst 1, 1) := by decide +kernel
theorem dX1_touches_67 : decode cX1_touches 67 = .ok (.goto 4, 3) := by decide +kernel
theorem dX1_touches_70 : decode cX1_touches 70 = .ok (.iconst 0, 1) := by decide +kernel
theorem dX1_touches_71 : decode cX1_touches 71 = .ok (.ireturn, 1) := by decide +kernel
theorem dX1_tilesOf_0 : decode cX1_tilesOf 0 = .ok (.iconst 0, 1) := by decide +kernel
theorem dX1_tilesOf_1 : decode cX1_tilesOf 1 = .ok (.istore_n 2, 1) := by decide +kernel
theorem dX1_tilesOf_2 : decode cX1_tilesOf 2 = .ok (.iconst 0, 1) := by decide +kernel
theorem dX1_tilesOf_3 : decode cX1_tilesOf 3 = .ok (.istore_n 3, 1) := by decide +kernel
theorem dX1_tilesOf_4 : decode cX1_tilesOf 4 = .ok (.iload_n 3, 1) := by decide +kernel
theorem dX1_tilesOf_5 : decode cX1_tilesOf 5 = .ok (.aload_n 0, 1) := by decide +kernel
theorem dX1_tilesOf_6 : decode cX1_tilesOf 6 = .ok (.invokevirtual 48, 3) := by decide +kernel
theorem dX1_tilesOf_9 : decode cX1_tilesOf 9 = .ok (.if_icmp .ge 26, 3) := by decide +kernel
theorem dX1_tilesOf_12 : decode cX1_tilesOf 12 = .ok (.aload_n 0, 1) := by decide +kernel
theorem dX1_tilesOf_13 : decode cX1_tilesOf 13 = .ok (.iload_n 1, 1) := by decide +kernel
theorem dX1_tilesOf_14 : decode cX1_tilesOf 14 = .ok (.iload_n 3, 1) := by decide +kernel
theorem dX1_tilesOf_15 : decode cX1_tilesOf 15 = .ok (.invokevirtual 79, 3) := by decide +kernel
theorem dX1_tilesOf_18 : decode cX1_tilesOf 18 = .ok (.ifCond .eq 9, 3) := by decide +kernel
theorem dX1_tilesOf_21 : decode cX1_tilesOf 21 = .ok (.iload_n 2, 1) := by decide +kernel
theorem dX1_tilesOf_22 : decode cX1_tilesOf 22 = .ok (.iconst 1, 1) := by decide +kernel
theorem dX1_tilesOf_23 : decode cX1_tilesOf 23 = .ok (.iadd, 1) := by decide +kernel
theorem dX1_tilesOf_24 : decode cX1_tilesOf 24 = .ok (.goto 4, 3) := by decide +kernel
theorem dX1_tilesOf_27 : decode cX1_tilesOf 27 = .ok (.iload_n 2, 1) := by decide +kernel
theorem dX1_tilesOf_28 : decode cX1_tilesOf 28 = .ok (.istore_n 2, 1) := by decide +kernel
theorem dX1_tilesOf_29 : decode cX1_tilesOf 29 = .ok (.iinc 3 1, 3) := by decide +kernel
theorem dX1_tilesOf_32 : decode cX1_tilesOf 32 = .ok (.goto (-28), 3) := by decide +kernel
theorem dX1_tilesOf_35 : decode cX1_tilesOf 35 = .ok (.iload_n 2, 1) := by decide +kernel
theorem dX1_tilesOf_36 : decode cX1_tilesOf 36 = .ok (.ireturn, 1) := by decide +kernel
theorem dX1_put_0 : decode cX1_put 0 = .ok (.aload_n 0, 1) := by decide +kernel
theorem dX1_put_1 : decode cX1_put 1 = .ok (.aload_n 0, 1) := by decide +kernel
theorem dX1_put_2 : decode cX1_put 2 = .ok (.getfield 59, 3) := by decide +kernel
theorem dX1_put_5 : decode cX1_put 5 = .ok (.sipush 4096, 3) := by decide +kernel
theorem dX1_put_8 : decode cX1_put 8 = .ok (.if_icmp .ne 7, 3) := by decide +kernel
theorem dX1_put_11 : decode cX1_put 11 = .ok (.iconst 1, 1) := by decide +kernel
theorem dX1_put_12 : decode cX1_put 12 = .ok (.goto 4, 3) := by decide +kernel
theorem dX1_put_15 : decode cX1_put 15 = .ok (.iconst 0, 1) := by decide +kernel
theorem dX1_put_16 : decode cX1_put 16 = .ok (.iconst 0, 1) := by decide +kernel
theorem dX1_put_17 : decode cX1_put 17 = .ok (.invokevirtual 55, 3) := by decide +kernel
theorem dX1_put_20 : decode cX1_put 20 = .ok (.ifCond .eq 5, 3) := by decide +kernel
theorem dX1_put_23 : decode cX1_put 23 = .ok (.iconst 0, 1) := by decide +kernel
theorem dX1_put_24 : decode cX1_put 24 = .ok (.ireturn, 1) := by decide +kernel
theorem dX1_put_25 : decode cX1_put 25 = .ok (.aload_n 0, 1) := by decide +kernel
theorem dX1_put_26 : decode cX1_put 26 = .ok (.getfield 59, 3) := by decide +kernel
theorem dX1_put_29 : decode cX1_put 29 = .ok (.istore 6, 2) := by decide +kernel
theorem dX1_put_31 : decode cX1_put 31 = .ok (.aload_n 0, 1) := by decide +kernel
theorem dX1_put_32 : decode cX1_put 32 = .ok (.getfield 22, 3) := by decide +kernel
theorem dX1_put_35 : decode cX1_put 35 = .ok (.iload 6, 2) := by decide +kernel
theorem dX1_put_37 : decode cX1_put 37 = .ok (.iload_n 1, 1) := by decide +kernel
theorem dX1_put_38 : decode cX1_put 38 = .ok (.iconst 0, 1) := by decide +kernel
theorem dX1_put_39 : decode cX1_put 39 = .ok (.invokestatic 72, 3) := by decide +kernel
theorem dX1_put_42 : decode cX1_put 42 = .ok (.iastore, 1) := by decide +kernel
theorem dX1_put_43 : decode cX1_put 43 = .ok (.aload_n 0, 1) := by decide +kernel
theorem dX1_put_44 : decode cX1_put 44 = .ok (.getfield 26, 3) := by decide +kernel
theorem dX1_put_47 : decode cX1_put 47 = .ok (.iload 6, 2) := by decide +kernel
theorem dX1_put_49 : decode cX1_put 49 = .ok (.iload_n 2, 1) := by decide +kernel
theorem dX1_put_50 : decode cX1_put 50 = .ok (.iconst 0, 1) := by decide +kernel
theorem dX1_put_51 : decode cX1_put 51 = .ok (.invokestatic 72, 3) := by decide +kernel
theorem dX1_put_54 : decode cX1_put 54 = .ok (.iastore, 1) := by decide +kernel
theorem dX1_put_55 : decode cX1_put 55 = .ok (.aload_n 0, 1) := by decide +kernel
theorem dX1_put_56 : decode cX1_put 56 = .ok (.getfield 29, 3) := by decide +kernel
theorem dX1_put_59 : decode cX1_put 59 = .ok (.iload 6, 2) := by decide +kernel
theorem dX1_put_61 : decode cX1_put 61 = .ok (.iload_n 3, 1) := by decide +kernel
theorem dX1_put_62 : decode cX1_put 62 = .ok (.aload_n 0, 1) := by decide +kernel
theorem dX1_put_63 : decode cX1_put 63 = .ok (.getfield 7, 3) := by decide +kernel
theorem dX1_put_66 : decode cX1_put 66 = .ok (.invokestatic 65, 3) := by decide +kernel
theorem dX1_put_69 : decode cX1_put 69 = .ok (.iastore, 1) := by decide +kernel
theorem dX1_put_70 : decode cX1_put 70 = .ok (.aload_n 0, 1) := by decide +kernel
theorem dX1_put_71 : decode cX1_put 71 = .ok (.getfield 32, 3) := by decide +kernel
theorem dX1_put_74 : decode cX1_put 74 = .ok (.iload 6, 2) := by decide +kernel
theorem dX1_put_76 : decode cX1_put 76 = .ok (.iload 4, 2) := by decide +kernel
theorem dX1_put_78 : decode cX1_put 78 = .ok (.aload_n 0, 1) := by decide +kernel
theorem dX1_put_79 : decode cX1_put 79 = .ok (.getfield 13, 3) := by decide +kernel
theorem dX1_put_82 : decode cX1_put 82 = .ok (.invokestatic 65, 3) := by decide +kernel
theorem dX1_put_85 : decode cX1_put 85 = .ok (.iastore, 1) := by decide +kernel
theorem dX1_put_86 : decode cX1_put 86 = .ok (.aload_n 0, 1) := by decide +kernel
theorem dX1_put_87 : decode cX1_put 87 = .ok (.getfield 35, 3) := by decide +kernel
theorem dX1_put_90 : decode cX1_put 90 = .ok (.iload 6, 2) := by decide +kernel
theorem dX1_put_92 : decode cX1_put 92 = .ok (.iload 5, 2) := by decide +kernel
theorem dX1_put_94 : decode cX1_put 94 = .ok (.iastore, 1) := by decide +kernel
theorem dX1_put_95 : decode cX1_put 95 = .ok (.aload_n 0, 1) := by decide +kernel
theorem dX1_put_96 : decode cX1_put 96 = .ok (.getfield 22, 3) := by decide +kernel
theorem dX1_put_99 : decode cX1_put 99 = .ok (.iload 6, 2) := by decide +kernel
theorem dX1_put_101 : decode cX1_put 101 = .ok (.iaload, 1) := by decide +kernel
theorem dX1_put_102 : decode cX1_put 102 = .ok (.aload_n 0, 1) := by decide +kernel
theorem dX1_put_103 : decode cX1_put 103 = .ok (.getfield 26, 3) := by decide +kernel
theorem dX1_put_106 : decode cX1_put 106 = .ok (.iload 6, 2) := by decide +kernel
theorem dX1_put_108 : decode cX1_put 108 = .ok (.iaload, 1) := by decide +kernel
theorem dX1_put_109 : decode cX1_put 109 = .ok (.aload_n 0, 1) := by decide +kernel
theorem dX1_put_110 : decode cX1_put 110 = .ok (.getfield 29, 3) := by decide +kernel
theorem dX1_put_113 : decode cX1_put 113 = .ok (.iload 6, 2) := by decide +kernel
theorem dX1_put_115 : decode cX1_put 115 = .ok (.iaload, 1) := by decide +kernel
theorem dX1_put_116 : decode cX1_put 116 = .ok (.aload_n 0, 1) := by decide +kernel
theorem dX1_put_117 : decode cX1_put 117 = .ok (.getfield 32, 3) := by decide +kernel
theorem dX1_put_120 : decode cX1_put 120 = .ok (.iload 6, 2) := by decide +kernel
theorem dX1_put_122 : decode cX1_put 122 = .ok (.iaload, 1) := by decide +kernel
theorem dX1_put_123 : decode cX1_put 123 = .ok (.invokestatic 75, 3) := by decide +kernel
theorem dX1_put_126 : decode cX1_put 126 = .ok (.ifCond .eq 35, 3) := by decide +kernel
theorem dX1_put_129 : decode cX1_put 129 = .ok (.aload_n 0, 1) := by decide +kernel
theorem dX1_put_130 : decode cX1_put 130 = .ok (.getfield 22, 3) := by decide +kernel
theorem dX1_put_133 : decode cX1_put 133 = .ok (.iload 6, 2) := by decide +kernel
theorem dX1_put_135 : decode cX1_put 135 = .ok (.iconst 0, 1) := by decide +kernel
theorem dX1_put_136 : decode cX1_put 136 = .ok (.iastore, 1) := by decide +kernel
theorem dX1_put_137 : decode cX1_put 137 = .ok (.aload_n 0, 1) := by decide +kernel
theorem dX1_put_138 : decode cX1_put 138 = .ok (.getfield 26, 3) := by decide +kernel
theorem dX1_put_141 : decode cX1_put 141 = .ok (.iload 6, 2) := by decide +kernel
theorem dX1_put_143 : decode cX1_put 143 = .ok (.iconst 0, 1) := by decide +kernel
theorem dX1_put_144 : decode cX1_put 144 = .ok (.iastore, 1) := by decide +kernel
theorem dX1_put_145 : decode cX1_put 145 = .ok (.aload_n 0, 1) := by decide +kernel
theorem dX1_put_146 : decode cX1_put 146 = .ok (.getfield 29, 3) := by decide +kernel
theorem dX1_put_149 : decode cX1_put 149 = .ok (.iload 6, 2) := by decide +kernel
theorem dX1_put_151 : decode cX1_put 151 = .ok (.iconst 0, 1) := by decide +kernel
theorem dX1_put_152 : decode cX1_put 152 = .ok (.iastore, 1) := by decide +kernel
theorem dX1_put_153 : decode cX1_put 153 = .ok (.aload_n 0, 1) := by decide +kernel
theorem dX1_put_154 : decode cX1_put 154 = .ok (.getfield 32, 3) := by decide +kernel
theorem dX1_put_157 : decode cX1_put 157 = .ok (.iload 6, 2) := by decide +kernel
theorem dX1_put_159 : decode cX1_put 159 = .ok (.iconst 0, 1) := by decide +kernel
theorem dX1_put_160 : decode cX1_put 160 = .ok (.iastore, 1) := by decide +kernel
theorem dX1_put_161 : decode cX1_put 161 = .ok (.aload_n 0, 1) := by decide +kernel
theorem dX1_put_162 : decode cX1_put 162 = .ok (.iload 6, 2) := by decide +kernel
theorem dX1_put_164 : decode cX1_put 164 = .ok (.invokevirtual 83, 3) := by decide +kernel
theorem dX1_put_167 : decode cX1_put 167 = .ok (.istore 7, 2) := by decide +kernel
theorem dX1_put_169 : decode cX1_put 169 = .ok (.aload_n 0, 1) := by decide +kernel
theorem dX1_put_170 : decode cX1_put 170 = .ok (.iload 7, 2) := by decide +kernel
theorem dX1_put_172 : decode cX1_put 172 = .ok (.aload_n 0, 1) := by decide +kernel
theorem dX1_put_173 : decode cX1_put 173 = .ok (.getfield 19, 3) := by decide +kernel
theorem dX1_put_176 : decode cX1_put 176 = .ok (.aload_n 0, 1) := by decide +kernel
theorem dX1_put_177 : decode cX1_put 177 = .ok (.getfield 62, 3) := by decide +kernel
theorem dX1_put_180 : decode cX1_put 180 = .ok (.isub, 1) := by decide +kernel
theorem dX1_put_181 : decode cX1_put 181 = .ok (.if_icmp .le 7, 3) := by decide +kernel
theorem dX1_put_184 : decode cX1_put 184 = .ok (.iconst 1, 1) := by decide +kernel
theorem dX1_put_185 : decode cX1_put 185 = .ok (.goto 4, 3) := by decide +kernel
theorem dX1_put_188 : decode cX1_put 188 = .ok (.iconst 0, 1) := by decide +kernel
theorem dX1_put_189 : decode cX1_put 189 = .ok (.iconst 0, 1) := by decide +kernel
theorem dX1_put_190 : decode cX1_put 190 = .ok (.invokevirtual 55, 3) := by decide +kernel
theorem dX1_put_193 : decode cX1_put 193 = .ok (.ifCond .eq 5, 3) := by decide +kernel
theorem dX1_put_196 : decode cX1_put 196 = .ok (.iconst 0, 1) := by decide +kernel
theorem dX1_put_197 : decode cX1_put 197 = .ok (.ireturn, 1) := by decide +kernel
theorem dX1_put_198 : decode cX1_put 198 = .ok (.aload_n 0, 1) := by decide +kernel
theorem dX1_put_199 : decode cX1_put 199 = .ok (.aload_n 0, 1) := by decide +kernel
theorem dX1_put_200 : decode cX1_put 200 = .ok (.getfield 62, 3) := by decide +kernel
theorem dX1_put_203 : decode cX1_put 203 = .ok (.iload 7, 2) := by decide +kernel
theorem dX1_put_205 : decode cX1_put 205 = .ok (.iadd, 1) := by decide +kernel
theorem dX1_put_206 : decode cX1_put 206 = .ok (.putfield 62, 3) := by decide +kernel
theorem dX1_put_209 : decode cX1_put 209 = .ok (.aload_n 0, 1) := by decide +kernel
theorem dX1_put_210 : decode cX1_put 210 = .ok (.dup, 1) := by decide +kernel
theorem dX1_put_211 : decode cX1_put 211 = .ok (.getfield 59, 3) := by decide +kernel
theorem dX1_put_214 : decode cX1_put 214 = .ok (.iconst 1, 1) := by decide +kernel
theorem dX1_put_215 : decode cX1_put 215 = .ok (.iadd, 1) := by decide +kernel
theorem dX1_put_216 : decode cX1_put 216 = .ok (.putfield 59, 3) := by decide +kernel
theorem dX1_put_219 : decode cX1_put 219 = .ok (.iload 6, 2) := by decide +kernel
theorem dX1_put_221 : decode cX1_put 221 = .ok (.ireturn, 1) := by decide +kernel
theorem dX1_empty_0 : decode cX1_empty 0 = .ok (.aload_n 0, 1) := by decide +kernel
theorem dX1_empty_1 : decode cX1_empty 1 = .ok (.iconst 0, 1) := by decide +kernel
theorem dX1_empty_2 : decode cX1_empty 2 = .ok (.putfield 41, 3) := by decide +kernel
theorem dX1_empty_5 : decode cX1_empty 5 = .ok (.aload_n 0, 1) := by decide +kernel
theorem dX1_empty_6 : decode cX1_empty 6 = .ok (.iconst 0, 1) := by decide +kernel
theorem dX1_empty_7 : decode cX1_empty 7 = .ok (.putfield 59, 3) := by decide +kernel
theorem dX1_empty_10 : decode cX1_empty 10 = .ok (.aload_n 0, 1) := by decide +kernel
theorem dX1_empty_11 : decode cX1_empty 11 = .ok (.iconst 0, 1) := by decide +kernel
theorem dX1_empty_12 : decode cX1_empty 12 = .ok (.putfield 62, 3) := by decide +kernel
theorem dX1_empty_15 : decode cX1_empty 15 = .ok (.aload_n 0, 1) := by decide +kernel
theorem dX1_empty_16 : decode cX1_empty 16 = .ok (.iconst (-1), 1) := by decide +kernel
theorem dX1_empty_17 : decode cX1_empty 17 = .ok (.putfield 38, 3) := by decide +kernel
theorem dX1_empty_20 : decode cX1_empty 20 = .ok (.return_, 1) := by decide +kernel
theorem dX1_manyOf_0 : decode cX1_manyOf 0 = .ok (.iconst 0, 1) := by decide +kernel
theorem dX1_manyOf_1 : decode cX1_manyOf 1 = .ok (.istore_n 2, 1) := by decide +kernel
theorem dX1_manyOf_2 : decode cX1_manyOf 2 = .ok (.iconst 0, 1) := by decide +kernel
theorem dX1_manyOf_3 : decode cX1_manyOf 3 = .ok (.istore_n 3, 1) := by decide +kernel
theorem dX1_manyOf_4 : decode cX1_manyOf 4 = .ok (.iload_n 3, 1) := by decide +kernel
theorem dX1_manyOf_5 : decode cX1_manyOf 5 = .ok (.aload_n 0, 1) := by decide +kernel
theorem dX1_manyOf_6 : decode cX1_manyOf 6 = .ok (.getfield 59, 3) := by decide +kernel
theorem dX1_manyOf_9 : decode cX1_manyOf 9 = .ok (.if_icmp .ge 26, 3) := by decide +kernel
theorem dX1_manyOf_12 : decode cX1_manyOf 12 = .ok (.aload_n 0, 1) := by decide +kernel
theorem dX1_manyOf_13 : decode cX1_manyOf 13 = .ok (.iload_n 3, 1) := by decide +kernel
theorem dX1_manyOf_14 : decode cX1_manyOf 14 = .ok (.iload_n 1, 1) := by decide +kernel
theorem dX1_manyOf_15 : decode cX1_manyOf 15 = .ok (.invokevirtual 79, 3) := by decide +kernel
theorem dX1_manyOf_18 : decode cX1_manyOf 18 = .ok (.ifCond .eq 9, 3) := by decide +kernel
theorem dX1_manyOf_21 : decode cX1_manyOf 21 = .ok (.iload_n 2, 1) := by decide +kernel
theorem dX1_manyOf_22 : decode cX1_manyOf 22 = .ok (.iconst 1, 1) := by decide +kernel
theorem dX1_manyOf_23 : decode cX1_manyOf 23 = .ok (.iadd, 1) := by decide +kernel
theorem dX1_manyOf_24 : decode cX1_manyOf 24 = .ok (.goto 4, 3) := by decide +kernel
theorem dX1_manyOf_27 : decode cX1_manyOf 27 = .ok (.iload_n 2, 1) := by decide +kernel
theorem dX1_manyOf_28 : decode cX1_manyOf 28 = .ok (.istore_n 2, 1) := by decide +kernel
theorem dX1_manyOf_29 : decode cX1_manyOf 29 = .ok (.iinc 3 1, 3) := by decide +kernel
theorem dX1_manyOf_32 : decode cX1_manyOf 32 = .ok (.goto (-28), 3) := by decide +kernel
theorem dX1_manyOf_35 : decode cX1_manyOf 35 = .ok (.iload_n 2, 1) := by decide +kernel
theorem dX1_manyOf_36 : decode cX1_manyOf 36 = .ok (.ireturn, 1) := by decide +kernel
theorem dX1_open_0 : decode cX1_open 0 = .ok (.aload_n 0, 1) := by decide +kernel
theorem dX1_open_1 : decode cX1_open 1 = .ok (.aload_n 0, 1) := by decide +kernel
theorem dX1_open_2 : decode cX1_open 2 = .ok (.iload_n 1, 1) := by decide +kernel
theorem dX1_open_3 : decode cX1_open 3 = .ok (.invokevirtual 87, 3) := by decide +kernel
theorem dX1_open_6 : decode cX1_open 6 = .ok (.ifCond .ne 7, 3) := by decide +kernel
theorem dX1_open_9 : decode cX1_open 9 = .ok (.iconst 1, 1) := by decide +kernel
theorem dX1_open_10 : decode cX1_open 10 = .ok (.goto 4, 3) := by decide +kernel
theorem dX1_open_13 : decode cX1_open 13 = .ok (.iconst 0, 1) := by decide +kernel
theorem dX1_open_14 : decode cX1_open 14 = .ok (.iconst 0, 1) := by decide +kernel
theorem dX1_open_15 : decode cX1_open 15 = .ok (.invokevirtual 55, 3) := by decide +kernel
theorem dX1_open_18 : decode cX1_open 18 = .ok (.ifCond .eq 5, 3) := by decide +kernel
theorem dX1_open_21 : decode cX1_open 21 = .ok (.iconst 0, 1) := by decide +kernel
theorem dX1_open_22 : decode cX1_open 22 = .ok (.ireturn, 1) := by decide +kernel
theorem dX1_open_23 : decode cX1_open 23 = .ok (.aload_n 0, 1) := by decide +kernel
theorem dX1_open_24 : decode cX1_open 24 = .ok (.iload_n 1, 1) := by decide +kernel
theorem dX1_open_25 : decode cX1_open 25 = .ok (.putfield 38, 3) := by decide +kernel
theorem dX1_open_28 : decode cX1_open 28 = .ok (.aload_n 0, 1) := by decide +kernel
theorem dX1_open_29 : decode cX1_open 29 = .ok (.iconst 0, 1) := by decide +kernel
theorem dX1_open_30 : decode cX1_open 30 = .ok (.putfield 91, 3) := by decide +kernel
theorem dX1_open_33 : decode cX1_open 33 = .ok (.aload_n 0, 1) := by decide +kernel
theorem dX1_open_34 : decode cX1_open 34 = .ok (.iload_n 1, 1) := by decide +kernel
theorem dX1_open_35 : decode cX1_open 35 = .ok (.invokevirtual 94, 3) := by decide +kernel
theorem dX1_open_38 : decode cX1_open 38 = .ok (.ireturn, 1) := by decide +kernel
theorem dX1_next_0 : decode cX1_next 0 = .ok (.aload_n 0, 1) := by decide +kernel
theorem dX1_next_1 : decode cX1_next 1 = .ok (.aload_n 0, 1) := by decide +kernel
theorem dX1_next_2 : decode cX1_next 2 = .ok (.getfield 38, 3) := by decide +kernel
theorem dX1_next_5 : decode cX1_next 5 = .ok (.ifCond .ge 7, 3) := by decide +kernel
theorem dX1_next_8 : decode cX1_next 8 = .ok (.iconst 1, 1) := by decide +kernel
theorem dX1_next_9 : decode cX1_next 9 = .ok (.goto 4, 3) := by decide +kernel
theorem dX1_next_12 : decode cX1_next 12 = .ok (.iconst 0, 1) := by decide +kernel
theorem dX1_next_13 : decode cX1_next 13 = .ok (.iconst 0, 1) := by decide +kernel
theorem dX1_next_14 : decode cX1_next 14 = .ok (.invokevirtual 55, 3) := by decide +kernel
theorem dX1_next_17 : decode cX1_next 17 = .ok (.ifCond .eq 5, 3) := by decide +kernel
theorem dX1_next_20 : decode cX1_next 20 = .ok (.iconst 0, 1) := by decide +kernel
theorem dX1_next_21 : decode cX1_next 21 = .ok (.ireturn, 1) := by decide +kernel
theorem dX1_next_22 : decode cX1_next 22 = .ok (.aload_n 0, 1) := by decide +kernel
theorem dX1_next_23 : decode cX1_next 23 = .ok (.getfield 91, 3) := by decide +kernel
theorem dX1_next_26 : decode cX1_next 26 = .ok (.aload_n 0, 1) := by decide +kernel
theorem dX1_next_27 : decode cX1_next 27 = .ok (.getfield 59, 3) := by decide +kernel
theorem dX1_next_30 : decode cX1_next 30 = .ok (.if_icmp .ge 31, 3) := by decide +kernel
theorem dX1_next_33 : decode cX1_next 33 = .ok (.aload_n 0, 1) := by decide +kernel
theorem dX1_next_34 : decode cX1_next 34 = .ok (.aload_n 0, 1) := by decide +kernel
theorem dX1_next_35 : decode cX1_next 35 = .ok (.getfield 91, 3) := by decide +kernel
theorem dX1_next_38 : decode cX1_next 38 = .ok (.aload_n 0, 1) := by decide +kernel
theorem dX1_next_39 : decode cX1_next 39 = .ok (.getfield 38, 3) := by decide +kernel
theorem dX1_next_42 : decode cX1_next 42 = .ok (.invokevirtual 79, 3) := by decide +kernel
theorem dX1_next_45 : decode cX1_next 45 = .ok (.ifCond .ne 16, 3) := by decide +kernel
theorem dX1_next_48 : decode cX1_next 48 = .ok (.aload_n 0, 1) := by decide +kernel
theorem dX1_next_49 : decode cX1_next 49 = .ok (.dup, 1) := by decide +kernel
theorem dX1_next_50 : decode cX1_next 50 = .ok (.getfield 91, 3) := by decide +kernel
theorem dX1_next_53 : decode cX1_next 53 = .ok (.iconst 1, 1) := by decide +kernel
theorem dX1_next_54 : decode cX1_next 54 = .ok (.iadd, 1) := by decide +kernel
theorem dX1_next_55 : decode cX1_next 55 = .ok (.putfield 91, 3) := by decide +kernel
theorem dX1_next_58 : decode cX1_next 58 = .ok (.goto (-36), 3) := by decide +kernel
theorem dX1_next_61 : decode cX1_next 61 = .ok (.aload_n 0, 1) := by decide +kernel
theorem dX1_next_62 : decode cX1_next 62 = .ok (.getfield 91, 3) := by decide +kernel
theorem dX1_next_65 : decode cX1_next 65 = .ok (.aload_n 0, 1) := by decide +kernel
theorem dX1_next_66 : decode cX1_next 66 = .ok (.getfield 59, 3) := by decide +kernel
theorem dX1_next_69 : decode cX1_next 69 = .ok (.if_icmp .ne 5, 3) := by decide +kernel
theorem dX1_next_72 : decode cX1_next 72 = .ok (.iconst (-1), 1) := by decide +kernel
theorem dX1_next_73 : decode cX1_next 73 = .ok (.ireturn, 1) := by decide +kernel
theorem dX1_next_74 : decode cX1_next 74 = .ok (.aload_n 0, 1) := by decide +kernel
theorem dX1_next_75 : decode cX1_next 75 = .ok (.dup, 1) := by decide +kernel
theorem dX1_next_76 : decode cX1_next 76 = .ok (.getfield 91, 3) := by decide +kernel
theorem dX1_next_79 : decode cX1_next 79 = .ok (.iconst 1, 1) := by decide +kernel
theorem dX1_next_80 : decode cX1_next 80 = .ok (.iadd, 1) := by decide +kernel
theorem dX1_next_81 : decode cX1_next 81 = .ok (.putfield 91, 3) := by decide +kernel
theorem dX1_next_84 : decode cX1_next 84 = .ok (.aload_n 0, 1) := by decide +kernel
theorem dX1_next_85 : decode cX1_next 85 = .ok (.getfield 91, 3) := by decide +kernel
theorem dX1_next_88 : decode cX1_next 88 = .ok (.iconst 1, 1) := by decide +kernel
theorem dX1_next_89 : decode cX1_next 89 = .ok (.isub, 1) := by decide +kernel
theorem dX1_next_90 : decode cX1_next 90 = .ok (.ireturn, 1) := by decide +kernel
theorem dX1_item_0 : decode cX1_item 0 = .ok (.aload_n 0, 1) := by decide +kernel
theorem dX1_item_1 : decode cX1_item 1 = .ok (.iload_n 1, 1) := by decide +kernel
theorem dX1_item_2 : decode cX1_item 2 = .ok (.iconst 0, 1) := by decide +kernel
theorem dX1_item_3 : decode cX1_item 3 = .ok (.aload_n 0, 1) := by decide +kernel
theorem dX1_item_4 : decode cX1_item 4 = .ok (.getfield 59, 3) := by decide +kernel
theorem dX1_item_7 : decode cX1_item 7 = .ok (.iconst 1, 1) := by decide +kernel
theorem dX1_item_8 : decode cX1_item 8 = .ok (.isub, 1) := by decide +kernel
theorem dX1_item_9 : decode cX1_item 9 = .ok (.invokestatic 51, 3) := by decide +kernel
theorem dX1_item_12 : decode cX1_item 12 = .ok (.ifCond .ne 7, 3) := by decide +kernel
theorem dX1_item_15 : decode cX1_item 15 = .ok (.iconst 1, 1) := by decide +kernel
theorem dX1_item_16 : decode cX1_item 16 = .ok (.goto 4, 3) := by decide +kernel
theorem dX1_item_19 : decode cX1_item 19 = .ok (.iconst 0, 1) := by decide +kernel
theorem dX1_item_20 : decode cX1_item 20 = .ok (.iload_n 2, 1) := by decide +kernel
theorem dX1_item_21 : decode cX1_item 21 = .ok (.iconst 0, 1) := by decide +kernel
theorem dX1_item_22 : decode cX1_item 22 = .ok (.iconst 5, 1) := by decide +kernel
theorem dX1_item_23 : decode cX1_item 23 = .ok (.invokestatic 51, 3) := by decide +kernel
theorem dX1_item_26 : decode cX1_item 26 = .ok (.ifCond .ne 7, 3) := by decide +kernel
theorem dX1_item_29 : decode cX1_item 29 = .ok (.iconst 1, 1) := by decide +kernel
theorem dX1_item_30 : decode cX1_item 30 = .ok (.goto 4, 3) := by decide +kernel
theorem dX1_item_33 : decode cX1_item 33 = .ok (.iconst 0, 1) := by decide +kernel
theorem dX1_item_34 : decode cX1_item 34 = .ok (.invokevirtual 55, 3) := by decide +kernel
theorem dX1_item_37 : decode cX1_item 37 = .ok (.ifCond .eq 5, 3) := by decide +kernel
theorem dX1_item_40 : decode cX1_item 40 = .ok (.iconst 0, 1) := by decide +kernel
theorem dX1_item_41 : decode cX1_item 41 = .ok (.ireturn, 1) := by decide +kernel
theorem dX1_item_42 : decode cX1_item 42 = .ok (.iload_n 2, 1) := by decide +kernel
theorem dX1_item_43 : decode cX1_item 43 = .ok (.tableswitch 68 0 4 #[33, 40, 47, 54, 61], 33) := by decide +kernel
theorem dX1_item_76 : decode cX1_item 76 = .ok (.aload_n 0, 1) := by decide +kernel
theorem dX1_item_77 : decode cX1_item 77 = .ok (.getfield 22, 3) := by decide +kernel
theorem dX1_item_80 : decode cX1_item 80 = .ok (.iload_n 1, 1) := by decide +kernel
theorem dX1_item_81 : decode cX1_item 81 = .ok (.iaload, 1) := by decide +kernel
theorem dX1_item_82 : decode cX1_item 82 = .ok (.ireturn, 1) := by decide +kernel
theorem dX1_item_83 : decode cX1_item 83 = .ok (.aload_n 0, 1) := by decide +kernel
theorem dX1_item_84 : decode cX1_item 84 = .ok (.getfield 26, 3) := by decide +kernel
theorem dX1_item_87 : decode cX1_item 87 = .ok (.iload_n 1, 1) := by decide +kernel
theorem dX1_item_88 : decode cX1_item 88 = .ok (.iaload, 1) := by decide +kernel
theorem dX1_item_89 : decode cX1_item 89 = .ok (.ireturn, 1) := by decide +kernel
theorem dX1_item_90 : decode cX1_item 90 = .ok (.aload_n 0, 1) := by decide +kernel
theorem dX1_item_91 : decode cX1_item 91 = .ok (.getfield 29, 3) := by decide +kernel
theorem dX1_item_94 : decode cX1_item 94 = .ok (.iload_n 1, 1) := by decide +kernel
theorem dX1_item_95 : decode cX1_item 95 = .ok (.iaload, 1) := by decide +kernel
theorem dX1_item_96 : decode cX1_item 96 = .ok (.ireturn, 1) := by decide +kernel
theorem dX1_item_97 : decode cX1_item 97 = .ok (.aload_n 0, 1) := by decide +kernel
theorem dX1_item_98 : decode cX1_item 98 = .ok (.getfield 32, 3) := by decide +kernel
theorem dX1_item_101 : decode cX1_item 101 = .ok (.iload_n 1, 1) := by decide +kernel
theorem dX1_item_102 : decode cX1_item 102 = .ok (.iaload, 1) := by decide +kernel
theorem dX1_item_103 : decode cX1_item 103 = .ok (.ireturn, 1) := by decide +kernel
theorem dX1_item_104 : decode cX1_item 104 = .ok (.aload_n 0, 1) := by decide +kernel
theorem dX1_item_105 : decode cX1_item 105 = .ok (.getfield 35, 3) := by decide +kernel
theorem dX1_item_108 : decode cX1_item 108 = .ok (.iload_n 1, 1) := by decide +kernel
theorem dX1_item_109 : decode cX1_item 109 = .ok (.iaload, 1) := by decide +kernel
theorem dX1_item_110 : decode cX1_item 110 = .ok (.ireturn, 1) := by decide +kernel
theorem dX1_item_111 : decode cX1_item 111 = .ok (.aload_n 0, 1) := by decide +kernel
theorem dX1_item_112 : decode cX1_item 112 = .ok (.iload_n 1, 1) := by decide +kernel
theorem dX1_item_113 : decode cX1_item 113 = .ok (.invokevirtual 83, 3) := by decide +kernel
theorem dX1_item_116 : decode cX1_item 116 = .ok (.ireturn, 1) := by decide +kernel
theorem dX1_tile_0 : decode cX1_tile 0 = .ok (.aload_n 0, 1) := by decide +kernel
theorem dX1_tile_1 : decode cX1_tile 1 = .ok (.aload_n 0, 1) := by decide +kernel
theorem dX1_tile_2 : decode cX1_tile 2 = .ok (.iload_n 1, 1) := by decide +kernel
theorem dX1_tile_3 : decode cX1_tile 3 = .ok (.invokevirtual 87, 3) := by decide +kernel
theorem dX1_tile_6 : decode cX1_tile 6 = .ok (.ifCond .eq 12, 3) := by decide +kernel
theorem dX1_tile_9 : decode cX1_tile 9 = .ok (.iload_n 2, 1) := by decide +kernel
theorem dX1_tile_10 : decode cX1_tile 10 = .ok (.iconst 0, 1) := by decide +kernel
theorem dX1_tile_11 : decode cX1_tile 11 = .ok (.iconst 4, 1) := by decide +kernel
theorem dX1_tile_12 : decode cX1_tile 12 = .ok (.invokestatic 51, 3) := by decide +kernel
theorem dX1_tile_15 : decode cX1_tile 15 = .ok (.ifCond .ne 7, 3) := by decide +kernel
theorem dX1_tile_18 : decode cX1_tile 18 = .ok (.iconst 1, 1) := by decide +kernel
theorem dX1_tile_19 : decode cX1_tile 19 = .ok (.goto 4, 3) := by decide +kernel
theorem dX1_tile_22 : decode cX1_tile 22 = .ok (.iconst 0, 1) := by decide +kernel
theorem dX1_tile_23 : decode cX1_tile 23 = .ok (.iconst 0, 1) := by decide +kernel
theorem dX1_tile_24 : decode cX1_tile 24 = .ok (.invokevirtual 55, 3) := by decide +kernel
theorem dX1_tile_27 : decode cX1_tile 27 = .ok (.ifCond .eq 5, 3) := by decide +kernel
theorem dX1_tile_30 : decode cX1_tile 30 = .ok (.iconst 0, 1) := by decide +kernel
theorem dX1_tile_31 : decode cX1_tile 31 = .ok (.ireturn, 1) := by decide +kernel
theorem dX1_tile_32 : decode cX1_tile 32 = .ok (.iload_n 2, 1) := by decide +kernel
theorem dX1_tile_33 : decode cX1_tile 33 = .ok (.iconst 4, 1) := by decide +kernel
theorem dX1_tile_34 : decode cX1_tile 34 = .ok (.if_icmp .ne 11, 3) := by decide +kernel
theorem dX1_tile_37 : decode cX1_tile 37 = .ok (.aload_n 0, 1) := by decide +kernel
theorem dX1_tile_38 : decode cX1_tile 38 = .ok (.iload_n 1, 1) := by decide +kernel
theorem dX1_tile_39 : decode cX1_tile 39 = .ok (.invokevirtual 94, 3) := by decide +kernel
theorem dX1_tile_42 : decode cX1_tile 42 = .ok (.goto 9, 3) := by decide +kernel
theorem dX1_tile_45 : decode cX1_tile 45 = .ok (.aload_n 0, 1) := by decide +kernel
theorem dX1_tile_46 : decode cX1_tile 46 = .ok (.iload_n 1, 1) := by decide +kernel
theorem dX1_tile_47 : decode cX1_tile 47 = .ok (.iload_n 2, 1) := by decide +kernel
theorem dX1_tile_48 : decode cX1_tile 48 = .ok (.invokevirtual 69, 3) := by decide +kernel
theorem dX1_tile_51 : decode cX1_tile 51 = .ok (.ireturn, 1) := by decide +kernel
theorem dX1_tileOf_0 : decode cX1_tileOf 0 = .ok (.aload_n 0, 1) := by decide +kernel
theorem dX1_tileOf_1 : decode cX1_tileOf 1 = .ok (.iload_n 1, 1) := by decide +kernel
theorem dX1_tileOf_2 : decode cX1_tileOf 2 = .ok (.iconst 0, 1) := by decide +kernel
theorem dX1_tileOf_3 : decode cX1_tileOf 3 = .ok (.aload_n 0, 1) := by decide +kernel
theorem dX1_tileOf_4 : decode cX1_tileOf 4 = .ok (.getfield 7, 3) := by decide +kernel
theorem dX1_tileOf_7 : decode cX1_tileOf 7 = .ok (.iconst 1, 1) := by decide +kernel
theorem dX1_tileOf_8 : decode cX1_tileOf 8 = .ok (.isub, 1) := by decide +kernel
theorem dX1_tileOf_9 : decode cX1_tileOf 9 = .ok (.invokestatic 51, 3) := by decide +kernel
theorem dX1_tileOf_12 : decode cX1_tileOf 12 = .ok (.ifCond .eq 17, 3) := by decide +kernel
theorem dX1_tileOf_15 : decode cX1_tileOf 15 = .ok (.iload_n 2, 1) := by decide +kernel
theorem dX1_tileOf_16 : decode cX1_tileOf 16 = .ok (.iconst 0, 1) := by decide +kernel
theorem dX1_tileOf_17 : decode cX1_tileOf 17 = .ok (.aload_n 0, 1) := by decide +kernel
theorem dX1_tileOf_18 : decode cX1_tileOf 18 = .ok (.getfield 13, 3) := by decide +kernel
theorem dX1_tileOf_21 : decode cX1_tileOf 21 = .ok (.iconst 1, 1) := by decide +kernel
theorem dX1_tileOf_22 : decode cX1_tileOf 22 = .ok (.isub, 1) := by decide +kernel
theorem dX1_tileOf_23 : decode cX1_tileOf 23 = .ok (.invokestatic 51, 3) := by decide +kernel
theorem dX1_tileOf_26 : decode cX1_tileOf 26 = .ok (.ifCond .ne 7, 3) := by decide +kernel
theorem dX1_tileOf_29 : decode cX1_tileOf 29 = .ok (.iconst 1, 1) := by decide +kernel
theorem dX1_tileOf_30 : decode cX1_tileOf 30 = .ok (.goto 4, 3) := by decide +kernel
theorem dX1_tileOf_33 : decode cX1_tileOf 33 = .ok (.iconst 0, 1) := by decide +kernel
theorem dX1_tileOf_34 : decode cX1_tileOf 34 = .ok (.iconst 0, 1) := by decide +kernel
theorem dX1_tileOf_35 : decode cX1_tileOf 35 = .ok (.invokevirtual 55, 3) := by decide +kernel
theorem dX1_tileOf_38 : decode cX1_tileOf 38 = .ok (.ifCond .eq 5, 3) := by decide +kernel
theorem dX1_tileOf_41 : decode cX1_tileOf 41 = .ok (.iconst 0, 1) := by decide +kernel
theorem dX1_tileOf_42 : decode cX1_tileOf 42 = .ok (.ireturn, 1) := by decide +kernel
theorem dX1_tileOf_43 : decode cX1_tileOf 43 = .ok (.iconst 0, 1) := by decide +kernel
theorem dX1_tileOf_44 : decode cX1_tileOf 44 = .ok (.istore_n 3, 1) := by decide +kernel
theorem dX1_tileOf_45 : decode cX1_tileOf 45 = .ok (.iload_n 1, 1) := by decide +kernel
theorem dX1_tileOf_46 : decode cX1_tileOf 46 = .ok (.aload_n 0, 1) := by decide +kernel
theorem dX1_tileOf_47 : decode cX1_tileOf 47 = .ok (.iload_n 3, 1) := by decide +kernel
theorem dX1_tileOf_48 : decode cX1_tileOf 48 = .ok (.iconst 2, 1) := by decide +kernel
theorem dX1_tileOf_49 : decode cX1_tileOf 49 = .ok (.invokevirtual 69, 3) := by decide +kernel
theorem dX1_tileOf_52 : decode cX1_tileOf 52 = .ok (.if_icmp .ge 33, 3) := by decide +kernel
theorem dX1_tileOf_55 : decode cX1_tileOf 55 = .ok (.iload_n 2, 1) := by decide +kernel
theorem dX1_tileOf_56 : decode cX1_tileOf 56 = .ok (.aload_n 0, 1) := by decide +kernel
theorem dX1_tileOf_57 : decode cX1_tileOf 57 = .ok (.iload_n 3, 1) := by decide +kernel
theorem dX1_tileOf_58 : decode cX1_tileOf 58 = .ok (.iconst 3, 1) := by decide +kernel
theorem dX1_tileOf_59 : decode cX1_tileOf 59 = .ok (.invokevirtual 69, 3) := by decide +kernel
theorem dX1_tileOf_62 : decode cX1_tileOf 62 = .ok (.if_icmp .ge 23, 3) := by decide +kernel
theorem dX1_tileOf_65 : decode cX1_tileOf 65 = .ok (.iload_n 1, 1) := by decide +kernel
theorem dX1_tileOf_66 : decode cX1_tileOf 66 = .ok (.aload_n 0, 1) := by decide +kernel
theorem dX1_tileOf_67 : decode cX1_tileOf 67 = .ok (.iload_n 3, 1) := by decide +kernel
theorem dX1_tileOf_68 : decode cX1_tileOf 68 = .ok (.iconst 0, 1) := by decide +kernel
theorem dX1_tileOf_69 : decode cX1_tileOf 69 = .ok (.invokevirtual 69, 3) := by decide +kernel
theorem dX1_tileOf_72 : decode cX1_tileOf 72 = .ok (.if_icmp .lt 13, 3) := by decide +kernel
theorem dX1_tileOf_75 : decode cX1_tileOf 75 = .ok (.iload_n 2, 1) := by decide +kernel
theorem dX1_tileOf_76 : decode cX1_tileOf 76 = .ok (.aload_n 0, 1) := by decide +kernel
theorem dX1_tileOf_77 : decode cX1_tileOf 77 = .ok (.iload_n 3, 1) := by decide +kernel
theorem dX1_tileOf_78 : decode cX1_tileOf 78 = .ok (.iconst 1, 1) := by decide +kernel
theorem dX1_tileOf_79 : decode cX1_tileOf 79 = .ok (.invokevirtual 69, 3) := by decide +kernel
theorem dX1_tileOf_82 : decode cX1_tileOf 82 = .ok (.if_icmp .ge 9, 3) := by decide +kernel
theorem dX1_tileOf_85 : decode cX1_tileOf 85 = .ok (.iinc 3 1, 3) := by decide +kernel
theorem dX1_tileOf_88 : decode cX1_tileOf 88 = .ok (.goto (-43), 3) := by decide +kernel
theorem dX1_tileOf_91 : decode cX1_tileOf 91 = .ok (.iload_n 3, 1) := by decide +kernel
theorem dX1_tileOf_92 : decode cX1_tileOf 92 = .ok (.ireturn, 1) := by decide +kernel
theorem dX1_count_0 : decode cX1_count 0 = .ok (.aload_n 0, 1) := by decide +kernel
theorem dX1_count_1 : decode cX1_count 1 = .ok (.iload_n 1, 1) := by decide +kernel
theorem dX1_count_2 : decode cX1_count 2 = .ok (.iconst 0, 1) := by decide +kernel
theorem dX1_count_3 : decode cX1_count 3 = .ok (.iconst 4, 1) := by decide +kernel
theorem dX1_count_4 : decode cX1_count 4 = .ok (.invokestatic 51, 3) := by decide +kernel
theorem dX1_count_7 : decode cX1_count 7 = .ok (.ifCond .ne 7, 3) := by decide +kernel
theorem dX1_count_10 : decode cX1_count 10 = .ok (.iconst 1, 1) := by decide +kernel
theorem dX1_count_11 : decode cX1_count 11 = .ok (.goto 4, 3) := by decide +kernel
theorem dX1_count_14 : decode cX1_count 14 = .ok (.iconst 0, 1) := by decide +kernel
theorem dX1_count_15 : decode cX1_count 15 = .ok (.iconst 0, 1) := by decide +kernel
theorem dX1_count_16 : decode cX1_count 16 = .ok (.invokevirtual 55, 3) := by decide +kernel
theorem dX1_count_19 : decode cX1_count 19 = .ok (.ifCond .eq 5, 3) := by decide +kernel
theorem dX1_count_22 : decode cX1_count 22 = .ok (.iconst 0, 1) := by decide +kernel
theorem dX1_count_23 : decode cX1_count 23 = .ok (.ireturn, 1) := by decide +kernel
theorem dX1_count_24 : decode cX1_count 24 = .ok (.iload_n 1, 1) := by decide +kernel
theorem dX1_count_25 : decode cX1_count 25 = .ok (.tableswitch 51 0 3 #[31, 36, 41, 46], 31) := by decide +kernel
theorem dX1_count_56 : decode cX1_count 56 = .ok (.aload_n 0, 1) := by decide +kernel
theorem dX1_count_57 : decode cX1_count 57 = .ok (.getfield 59, 3) := by decide +kernel
theorem dX1_count_60 : decode cX1_count 60 = .ok (.ireturn, 1) := by decide +kernel
theorem dX1_count_61 : decode cX1_count 61 = .ok (.aload_n 0, 1) := by decide +kernel
theorem dX1_count_62 : decode cX1_count 62 = .ok (.getfield 62, 3) := by decide +kernel
theorem dX1_count_65 : decode cX1_count 65 = .ok (.ireturn, 1) := by decide +kernel
theorem dX1_count_66 : decode cX1_count 66 = .ok (.aload_n 0, 1) := by decide +kernel
theorem dX1_count_67 : decode cX1_count 67 = .ok (.getfield 19, 3) := by decide +kernel
theorem dX1_count_70 : decode cX1_count 70 = .ok (.ireturn, 1) := by decide +kernel
theorem dX1_count_71 : decode cX1_count 71 = .ok (.aload_n 0, 1) := by decide +kernel
theorem dX1_count_72 : decode cX1_count 72 = .ok (.invokevirtual 48, 3) := by decide +kernel
theorem dX1_count_75 : decode cX1_count 75 = .ok (.ireturn, 1) := by decide +kernel
theorem dX1_count_76 : decode cX1_count 76 = .ok (.aload_n 0, 1) := by decide +kernel
theorem dX1_count_77 : decode cX1_count 77 = .ok (.getfield 38, 3) := by decide +kernel
theorem dX1_count_80 : decode cX1_count 80 = .ok (.ireturn, 1) := by decide +kernel
