theorem dX7_told_6 : decode cX7_told 6 = .ok (.if_icmp .lt 7, 3) := by decide +kernel
theorem dX7_told_9 : decode cX7_told 9 = .ok (.iconst (-1), 1) := by decide +kernel
theorem dX7_told_10 : decode cX7_told 10 = .ok (.goto 12, 3) := by decide +kernel
theorem dX7_told_13 : decode cX7_told 13 = .ok (.aload_n 0, 1) := by decide +kernel
theorem dX7_told_14 : decode cX7_told 14 = .ok (.getfield 19, 3) := by decide +kernel
theorem dX7_told_17 : decode cX7_told 17 = .ok (.getfield 100, 3) := by decide +kernel
theorem dX7_told_20 : decode cX7_told 20 = .ok (.iload_n 1, 1) := by decide +kernel
theorem dX7_told_21 : decode cX7_told 21 = .ok (.iaload, 1) := by decide +kernel
theorem dX7_told_22 : decode cX7_told 22 = .ok (.ireturn, 1) := by decide +kernel
theorem dX7_name_0 : decode cX7_name 0 = .ok (.iload_n 1, 1) := by decide +kernel
theorem dX7_name_1 : decode cX7_name 1 = .ok (.invokestatic 83, 3) := by decide +kernel
theorem dX7_name_4 : decode cX7_name 4 = .ok (.ifCond .ne 5, 3) := by decide +kernel
theorem dX7_name_7 : decode cX7_name 7 = .ok (.iconst (-1), 1) := by decide +kernel
theorem dX7_name_8 : decode cX7_name 8 = .ok (.ireturn, 1) := by decide +kernel
theorem dX7_name_9 : decode cX7_name 9 = .ok (.aload_n 0, 1) := by decide +kernel
theorem dX7_name_10 : decode cX7_name 10 = .ok (.getfield 26, 3) := by decide +kernel
theorem dX7_name_13 : decode cX7_name 13 = .ok (.getfield 90, 3) := by decide +kernel
theorem dX7_name_16 : decode cX7_name 16 = .ok (.iload_n 1, 1) := by decide +kernel
theorem dX7_name_17 : decode cX7_name 17 = .ok (.aaload, 1) := by decide +kernel
theorem dX7_name_18 : decode cX7_name 18 = .ok (.astore_n 3, 1) := by decide +kernel
theorem dX7_name_19 : decode cX7_name 19 = .ok (.iload_n 2, 1) := by decide +kernel
theorem dX7_name_20 : decode cX7_name 20 = .ok (.iconst (-1), 1) := by decide +kernel
theorem dX7_name_21 : decode cX7_name 21 = .ok (.if_icmp .ne 8, 3) := by decide +kernel
theorem dX7_name_24 : decode cX7_name 24 = .ok (.aload_n 3, 1) := by decide +kernel
theorem dX7_name_25 : decode cX7_name 25 = .ok (.getfield 99, 3) := by decide +kernel
theorem dX7_name_28 : decode cX7_name 28 = .ok (.ireturn, 1) := by decide +kernel
theorem dX7_name_29 : decode cX7_name 29 = .ok (.aload_n 3, 1) := by decide +kernel
theorem dX7_name_30 : decode cX7_name 30 = .ok (.iload_n 2, 1) := by decide +kernel
theorem dX7_name_31 : decode cX7_name 31 = .ok (.invokevirtual 103, 3) := by decide +kernel
theorem dX7_name_34 : decode cX7_name 34 = .ok (.ifCond .eq 11, 3) := by decide +kernel
theorem dX7_name_37 : decode cX7_name 37 = .ok (.aload_n 3, 1) := by decide +kernel
theorem dX7_name_38 : decode cX7_name 38 = .ok (.iload_n 2, 1) := by decide +kernel
theorem dX7_name_39 : decode cX7_name 39 = .ok (.invokevirtual 106, 3) := by decide +kernel
theorem dX7_name_42 : decode cX7_name 42 = .ok (.goto 4, 3) := by decide +kernel
theorem dX7_name_45 : decode cX7_name 45 = .ok (.iconst (-1), 1) := by decide +kernel
theorem dX7_name_46 : decode cX7_name 46 = .ok (.ireturn, 1) := by decide +kernel
theorem dX7_place_0 : decode cX7_place 0 = .ok (.iload_n 1, 1) := by decide +kernel
theorem dX7_place_1 : decode cX7_place 1 = .ok (.invokestatic 83, 3) := by decide +kernel
theorem dX7_place_4 : decode cX7_place 4 = .ok (.ifCond .eq 26, 3) := by decide +kernel
theorem dX7_place_7 : decode cX7_place 7 = .ok (.iload_n 2, 1) := by decide +kernel
theorem dX7_place_8 : decode cX7_place 8 = .ok (.invokestatic 110, 3) := by decide +kernel
theorem dX7_place_11 : decode cX7_place 11 = .ok (.ifCond .eq 19, 3) := by decide +kernel
theorem dX7_place_14 : decode cX7_place 14 = .ok (.aload_n 0, 1) := by decide +kernel
theorem dX7_place_15 : decode cX7_place 15 = .ok (.getfield 26, 3) := by decide +kernel
theorem dX7_place_18 : decode cX7_place 18 = .ok (.getfield 90, 3) := by decide +kernel
theorem dX7_place_21 : decode cX7_place 21 = .ok (.iload_n 1, 1) := by decide +kernel
theorem dX7_place_22 : decode cX7_place 22 = .ok (.aaload, 1) := by decide +kernel
theorem dX7_place_23 : decode cX7_place 23 = .ok (.iload_n 2, 1) := by decide +kernel
theorem dX7_place_24 : decode cX7_place 24 = .ok (.invokevirtual 113, 3) := by decide +kernel
theorem dX7_place_27 : decode cX7_place 27 = .ok (.goto 4, 3) := by decide +kernel
theorem dX7_place_30 : decode cX7_place 30 = .ok (.iconst (-1), 1) := by decide +kernel
theorem dX7_place_31 : decode cX7_place 31 = .ok (.ireturn, 1) := by decide +kernel
theorem dX7_house_0 : decode cX7_house 0 = .ok (.iload_n 1, 1) := by decide +kernel
theorem dX7_house_1 : decode cX7_house 1 = .ok (.invokestatic 116, 3) := by decide +kernel
theorem dX7_house_4 : decode cX7_house 4 = .ok (.ifCond .ne 5, 3) := by decide +kernel
theorem dX7_house_7 : decode cX7_house 7 = .ok (.iconst (-1), 1) := by decide +kernel
theorem dX7_house_8 : decode cX7_house 8 = .ok (.ireturn, 1) := by decide +kernel
theorem dX7_house_9 : decode cX7_house 9 = .ok (.iload_n 2, 1) := by decide +kernel
theorem dX7_house_10 : decode cX7_house 10 = .ok (.ifCond .ne 26, 3) := by decide +kernel
theorem dX7_house_13 : decode cX7_house 13 = .ok (.iload_n 3, 1) := by decide +kernel
theorem dX7_house_14 : decode cX7_house 14 = .ok (.invokestatic 119, 3) := by decide +kernel
theorem dX7_house_17 : decode cX7_house 17 = .ok (.ifCond .eq 19, 3) := by decide +kernel
theorem dX7_house_20 : decode cX7_house 20 = .ok (.aload_n 0, 1) := by decide +kernel
theorem dX7_house_21 : decode cX7_house 21 = .ok (.getfield 26, 3) := by decide +kernel
theorem dX7_house_24 : decode cX7_house 24 = .ok (.getfield 122, 3) := by decide +kernel
theorem dX7_house_27 : decode cX7_house 27 = .ok (.getfield 126, 3) := by decide +kernel
theorem dX7_house_30 : decode cX7_house 30 = .ok (.iload_n 1, 1) := by decide +kernel
theorem dX7_house_31 : decode cX7_house 31 = .ok (.iload_n 3, 1) := by decide +kernel
theorem dX7_house_32 : decode cX7_house 32 = .ok (.invokestatic 131, 3) := by decide +kernel
theorem dX7_house_35 : decode cX7_house 35 = .ok (.ireturn, 1) := by decide +kernel
theorem dX7_house_36 : decode cX7_house 36 = .ok (.iload_n 2, 1) := by decide +kernel
theorem dX7_house_37 : decode cX7_house 37 = .ok (.iconst 1, 1) := by decide +kernel
theorem dX7_house_38 : decode cX7_house 38 = .ok (.if_icmp .ne 26, 3) := by decide +kernel
theorem dX7_house_41 : decode cX7_house 41 = .ok (.iload_n 3, 1) := by decide +kernel
theorem dX7_house_42 : decode cX7_house 42 = .ok (.invokestatic 135, 3) := by decide +kernel
theorem dX7_house_45 : decode cX7_house 45 = .ok (.ifCond .eq 19, 3) := by decide +kernel
theorem dX7_house_48 : decode cX7_house 48 = .ok (.aload_n 0, 1) := by decide +kernel
theorem dX7_house_49 : decode cX7_house 49 = .ok (.getfield 26, 3) := by decide +kernel
theorem dX7_house_52 : decode cX7_house 52 = .ok (.getfield 122, 3) := by decide +kernel
theorem dX7_house_55 : decode cX7_house 55 = .ok (.getfield 138, 3) := by decide +kernel
theorem dX7_house_58 : decode cX7_house 58 = .ok (.iload_n 1, 1) := by decide +kernel
theorem dX7_house_59 : decode cX7_house 59 = .ok (.iload_n 3, 1) := by decide +kernel
theorem dX7_house_60 : decode cX7_house 60 = .ok (.invokestatic 131, 3) := by decide +kernel
theorem dX7_house_63 : decode cX7_house 63 = .ok (.ireturn, 1) := by decide +kernel
theorem dX7_house_64 : decode cX7_house 64 = .ok (.iconst (-1), 1) := by decide +kernel
theorem dX7_house_65 : decode cX7_house 65 = .ok (.ireturn, 1) := by decide +kernel
theorem dX7_held_0 : decode cX7_held 0 = .ok (.iload_n 1, 1) := by decide +kernel
theorem dX7_held_1 : decode cX7_held 1 = .ok (.invokestatic 110, 3) := by decide +kernel
theorem dX7_held_4 : decode cX7_held 4 = .ok (.ifCond .eq 17, 3) := by decide +kernel
theorem dX7_held_7 : decode cX7_held 7 = .ok (.aload_n 0, 1) := by decide +kernel
theorem dX7_held_8 : decode cX7_held 8 = .ok (.getfield 26, 3) := by decide +kernel
theorem dX7_held_11 : decode cX7_held 11 = .ok (.getfield 122, 3) := by decide +kernel
theorem dX7_held_14 : decode cX7_held 14 = .ok (.iload_n 1, 1) := by decide +kernel
theorem dX7_held_15 : decode cX7_held 15 = .ok (.invokevirtual 141, 3) := by decide +kernel
theorem dX7_held_18 : decode cX7_held 18 = .ok (.goto 4, 3) := by decide +kernel
theorem dX7_held_21 : decode cX7_held 21 = .ok (.iconst (-1), 1) := by decide +kernel
theorem dX7_held_22 : decode cX7_held 22 = .ok (.ireturn, 1) := by decide +kernel
theorem dX7_say_0 : decode cX7_say 0 = .ok (.iload_n 1, 1) := by decide +kernel
theorem dX7_say_1 : decode cX7_say 1 = .ok (.invokestatic 83, 3) := by decide +kernel
theorem dX7_say_4 : decode cX7_say 4 = .ok (.ifCond .eq 10, 3) := by decide +kernel
theorem dX7_say_7 : decode cX7_say 7 = .ok (.iload_n 2, 1) := by decide +kernel
theorem dX7_say_8 : decode cX7_say 8 = .ok (.invokestatic 135, 3) := by decide +kernel
theorem dX7_say_11 : decode cX7_say 11 = .ok (.ifCond .ne 5, 3) := by decide +kernel
theorem dX7_say_14 : decode cX7_say 14 = .ok (.iconst (-1), 1) := by decide +kernel
theorem dX7_say_15 : decode cX7_say 15 = .ok (.ireturn, 1) := by decide +kernel
theorem dX7_say_16 : decode cX7_say 16 = .ok (.aload_n 0, 1) := by decide +kernel
theorem dX7_say_17 : decode cX7_say 17 = .ok (.getfield 26, 3) := by decide +kernel
theorem dX7_say_20 : decode cX7_say 20 = .ok (.getfield 90, 3) := by decide +kernel
theorem dX7_say_23 : decode cX7_say 23 = .ok (.iload_n 1, 1) := by decide +kernel
theorem dX7_say_24 : decode cX7_say 24 = .ok (.aaload, 1) := by decide +kernel
theorem dX7_say_25 : decode cX7_say 25 = .ok (.astore_n 3, 1) := by decide +kernel
theorem dX7_say_26 : decode cX7_say 26 = .ok (.iload_n 2, 1) := by decide +kernel
theorem dX7_say_27 : decode cX7_say 27 = .ok (.bipush (-9), 2) := by decide +kernel
theorem dX7_say_29 : decode cX7_say 29 = .ok (.if_icmp .eq 16, 3) := by decide +kernel
theorem dX7_say_32 : decode cX7_say 32 = .ok (.aload_n 3, 1) := by decide +kernel
theorem dX7_say_33 : decode cX7_say 33 = .ok (.iload_n 2, 1) := by decide +kernel
theorem dX7_say_34 : decode cX7_say 34 = .ok (.invokevirtual 113, 3) := by decide +kernel
theorem dX7_say_37 : decode cX7_say 37 = .ok (.bipush (-9), 2) := by decide +kernel
theorem dX7_say_39 : decode cX7_say 39 = .ok (.if_icmp .eq 6, 3) := by decide +kernel
theorem dX7_say_42 : decode cX7_say 42 = .ok (.bipush (-2), 2) := by decide +kernel
theorem dX7_say_44 : decode cX7_say 44 = .ok (.ireturn, 1) := by decide +kernel
theorem dX7_say_45 : decode cX7_say 45 = .ok (.aload_n 0, 1) := by decide +kernel
theorem dX7_say_46 : decode cX7_say 46 = .ok (.getfield 39, 3) := by decide +kernel
theorem dX7_say_49 : decode cX7_say 49 = .ok (.aload_n 3, 1) := by decide +kernel
theorem dX7_say_50 : decode cX7_say 50 = .ok (.aload_n 0, 1) := by decide +kernel
theorem dX7_say_51 : decode cX7_say 51 = .ok (.getfield 26, 3) := by decide +kernel
theorem dX7_say_54 : decode cX7_say 54 = .ok (.getfield 122, 3) := by decide +kernel
theorem dX7_say_57 : decode cX7_say 57 = .ok (.invokevirtual 144, 3) := by decide +kernel
theorem dX7_say_60 : decode cX7_say 60 = .ok (.aload_n 0, 1) := by decide +kernel
theorem dX7_say_61 : decode cX7_say 61 = .ok (.getfield 39, 3) := by decide +kernel
theorem dX7_say_64 : decode cX7_say 64 = .ok (.aload_n 0, 1) := by decide +kernel
theorem dX7_say_65 : decode cX7_say 65 = .ok (.getfield 19, 3) := by decide +kernel
theorem dX7_say_68 : decode cX7_say 68 = .ok (.iload_n 2, 1) := by decide +kernel
theorem dX7_say_69 : decode cX7_say 69 = .ok (.invokevirtual 148, 3) := by decide +kernel
theorem dX7_say_72 : decode cX7_say 72 = .ok (.aload_n 3, 1) := by decide +kernel
theorem dX7_say_73 : decode cX7_say 73 = .ok (.aload_n 0, 1) := by decide +kernel
theorem dX7_say_74 : decode cX7_say 74 = .ok (.getfield 39, 3) := by decide +kernel
theorem dX7_say_77 : decode cX7_say 77 = .ok (.getfield 152, 3) := by decide +kernel
theorem dX7_say_80 : decode cX7_say 80 = .ok (.invokevirtual 156, 3) := by decide +kernel
theorem dX7_say_83 : decode cX7_say 83 = .ok (.aload_n 3, 1) := by decide +kernel
theorem dX7_say_84 : decode cX7_say 84 = .ok (.getfield 99, 3) := by decide +kernel
theorem dX7_say_87 : decode cX7_say 87 = .ok (.ireturn, 1) := by decide +kernel
theorem dX7_said_0 : decode cX7_said 0 = .ok (.iload_n 1, 1) := by decide +kernel
theorem dX7_said_1 : decode cX7_said 1 = .ok (.ifCond .lt 8, 3) := by decide +kernel
theorem dX7_said_4 : decode cX7_said 4 = .ok (.iload_n 1, 1) := by decide +kernel
theorem dX7_said_5 : decode cX7_said 5 = .ok (.iconst 2, 1) := by decide +kernel
theorem dX7_said_6 : decode cX7_said 6 = .ok (.if_icmp .le 7, 3) := by decide +kernel
theorem dX7_said_9 : decode cX7_said 9 = .ok (.iconst (-1), 1) := by decide +kernel
theorem dX7_said_10 : decode cX7_said 10 = .ok (.goto 11, 3) := by decide +kernel
theorem dX7_said_13 : decode cX7_said 13 = .ok (.aload_n 0, 1) := by decide +kernel
theorem dX7_said_14 : decode cX7_said 14 = .ok (.getfield 39, 3) := by decide +kernel
theorem dX7_said_17 : decode cX7_said 17 = .ok (.iload_n 1, 1) := by decide +kernel
theorem dX7_said_18 : decode cX7_said 18 = .ok (.invokevirtual 160, 3) := by decide +kernel
theorem dX7_said_21 : decode cX7_said 21 = .ok (.ireturn, 1) := by decide +kernel
theorem dX7_foretold_0 : decode cX7_foretold 0 = .ok (.iload_n 1, 1) := by decide +kernel
theorem dX7_foretold_1 : decode cX7_foretold 1 = .ok (.invokestatic 83, 3) := by decide +kernel
theorem dX7_foretold_4 : decode cX7_foretold 4 = .ok (.ifCond .eq 28, 3) := by decide +kernel
theorem dX7_foretold_7 : decode cX7_foretold 7 = .ok (.iload_n 2, 1) := by decide +kernel
theorem dX7_foretold_8 : decode cX7_foretold 8 = .ok (.invokestatic 116, 3) := by decide +kernel
theorem dX7_foretold_11 : decode cX7_foretold 11 = .ok (.ifCond .eq 21, 3) := by decide +kernel
theorem dX7_foretold_14 : decode cX7_foretold 14 = .ok (.iload_n 3, 1) := by decide +kernel
theorem dX7_foretold_15 : decode cX7_foretold 15 = .ok (.invokestatic 119, 3) := by decide +kernel
theorem dX7_foretold_18 : decode cX7_foretold 18 = .ok (.ifCond .eq 14, 3) := by decide +kernel
theorem dX7_foretold_21 : decode cX7_foretold 21 = .ok (.iload 4, 2) := by decide +kernel
theorem dX7_foretold_23 : decode cX7_foretold 23 = .ok (.ifCond .lt 9, 3) := by decide +kernel
theorem dX7_foretold_26 : decode cX7_foretold 26 = .ok (.iload 4, 2) := by decide +kernel
theorem dX7_foretold_28 : decode cX7_foretold 28 = .ok (.iconst 2, 1) := by decide +kernel
theorem dX7_foretold_29 : decode cX7_foretold 29 = .ok (.if_icmp .le 5, 3) := by decide +kernel
theorem dX7_foretold_32 : decode cX7_foretold 32 = .ok (.iconst (-1), 1) := by decide +kernel
theorem dX7_foretold_33 : decode cX7_foretold 33 = .ok (.ireturn, 1) := by decide +kernel
theorem dX7_foretold_34 : decode cX7_foretold 34 = .ok (.aload_n 0, 1) := by decide +kernel
theorem dX7_foretold_35 : decode cX7_foretold 35 = .ok (.getfield 43, 3) := by decide +kernel
theorem dX7_foretold_38 : decode cX7_foretold 38 = .ok (.aload_n 0, 1) := by decide +kernel
theorem dX7_foretold_39 : decode cX7_foretold 39 = .ok (.getfield 26, 3) := by decide +kernel
theorem dX7_foretold_42 : decode cX7_foretold 42 = .ok (.getfield 90, 3) := by decide +kernel
theorem dX7_foretold_45 : decode cX7_foretold 45 = .ok (.iload_n 1, 1) := by decide +kernel
theorem dX7_foretold_46 : decode cX7_foretold 46 = .ok (.aaload, 1) := by decide +kernel
theorem dX7_foretold_47 : decode cX7_foretold 47 = .ok (.aload_n 0, 1) := by decide +kernel
theorem dX7_foretold_48 : decode cX7_foretold 48 = .ok (.getfield 26, 3) := by decide +kernel
theorem dX7_foretold_51 : decode cX7_foretold 51 = .ok (.getfield 122, 3) := by decide +kernel
theorem dX7_foretold_54 : decode cX7_foretold 54 = .ok (.invokevirtual 144, 3) := by decide +kernel
theorem dX7_foretold_57 : decode cX7_foretold 57 = .ok (.aload_n 0, 1) := by decide +kernel
theorem dX7_foretold_58 : decode cX7_foretold 58 = .ok (.getfield 43, 3) := by decide +kernel
theorem dX7_foretold_61 : decode cX7_foretold 61 = .ok (.getfield 163, 3) := by decide +kernel
theorem dX7_foretold_64 : decode cX7_foretold 64 = .ok (.getfield 126, 3) := by decide +kernel
theorem dX7_foretold_67 : decode cX7_foretold 67 = .ok (.iload_n 2, 1) := by decide +kernel
theorem dX7_foretold_68 : decode cX7_foretold 68 = .ok (.iload_n 3, 1) := by decide +kernel
theorem dX7_foretold_69 : decode cX7_foretold 69 = .ok (.iastore, 1) := by decide +kernel
theorem dX7_foretold_70 : decode cX7_foretold 70 = .ok (.aload_n 0, 1) := by decide +kernel
theorem dX7_foretold_71 : decode cX7_foretold 71 = .ok (.getfield 43, 3) := by decide +kernel
theorem dX7_foretold_74 : decode cX7_foretold 74 = .ok (.aload_n 0, 1) := by decide +kernel
theorem dX7_foretold_75 : decode cX7_foretold 75 = .ok (.getfield 19, 3) := by decide +kernel
theorem dX7_foretold_78 : decode cX7_foretold 78 = .ok (.bipush (-9), 2) := by decide +kernel
theorem dX7_foretold_80 : decode cX7_foretold 80 = .ok (.invokevirtual 148, 3) := by decide +kernel
theorem dX7_foretold_83 : decode cX7_foretold 83 = .ok (.aload_n 0, 1) := by decide +kernel
theorem dX7_foretold_84 : decode cX7_foretold 84 = .ok (.getfield 43, 3) := by decide +kernel
theorem dX7_foretold_87 : decode cX7_foretold 87 = .ok (.iload 4, 2) := by decide +kernel
theorem dX7_foretold_89 : decode cX7_foretold 89 = .ok (.invokevirtual 160, 3) := by decide +kernel
theorem dX7_foretold_92 : decode cX7_foretold 92 = .ok (.ireturn, 1) := by decide +kernel
theorem dX7_both_0 : decode cX7_both 0 = .ok (.iload_n 1, 1) := by decide +kernel
theorem dX7_both_1 : decode cX7_both 1 = .ok (.invokestatic 83, 3) := by decide +kernel
theorem dX7_both_4 : decode cX7_both 4 = .ok (.ifCond .eq 10, 3) := by decide +kernel
theorem dX7_both_7 : decode cX7_both 7 = .ok (.iload_n 2, 1) := by decide +kernel
theorem dX7_both_8 : decode cX7_both 8 = .ok (.invokestatic 83, 3) := by decide +kernel
theorem dX7_both_11 : decode cX7_both 11 = .ok (.ifCond .ne 5, 3) := by decide +kernel
theorem dX7_both_14 : decode cX7_both 14 = .ok (.iconst (-1), 1) := by decide +kernel
theorem dX7_both_15 : decode cX7_both 15 = .ok (.ireturn, 1) := by decide +kernel
theorem dX7_both_16 : decode cX7_both 16 = .ok (.aload_n 0, 1) := by decide +kernel
theorem dX7_both_17 : decode cX7_both 17 = .ok (.getfield 26, 3) := by decide +kernel
theorem dX7_both_20 : decode cX7_both 20 = .ok (.getfield 90, 3) := by decide +kernel
theorem dX7_both_23 : decode cX7_both 23 = .ok (.iload_n 1, 1) := by decide +kernel
theorem dX7_both_24 : decode cX7_both 24 = .ok (.aaload, 1) := by decide +kernel
theorem dX7_both_25 : decode cX7_both 25 = .ok (.astore 4, 2) := by decide +kernel
theorem dX7_both_27 : decode cX7_both 27 = .ok (.aload_n 0, 1) := by decide +kernel
theorem dX7_both_28 : decode cX7_both 28 = .ok (.getfield 26, 3) := by decide +kernel
theorem dX7_both_31 : decode cX7_both 31 = .ok (.getfield 90, 3) := by decide +kernel
theorem dX7_both_34 : decode cX7_both 34 = .ok (.iload_n 2, 1) := by decide +kernel
theorem dX7_both_35 : decode cX7_both 35 = .ok (.aaload, 1) := by decide +kernel
theorem dX7_both_36 : decode cX7_both 36 = .ok (.astore 5, 2) := by decide +kernel
theorem dX7_both_38 : decode cX7_both 38 = .ok (.aload 4, 2) := by decide +kernel
theorem dX7_both_40 : decode cX7_both 40 = .ok (.invokevirtual 164, 3) := by decide +kernel
theorem dX7_both_43 : decode cX7_both 43 = .ok (.istore 6, 2) := by decide +kernel
theorem dX7_both_45 : decode cX7_both 45 = .ok (.aload 5, 2) := by decide +kernel
theorem dX7_both_47 : decode cX7_both 47 = .ok (.invokevirtual 164, 3) := by decide +kernel
theorem dX7_both_50 : decode cX7_both 50 = .ok (.istore 7, 2) := by decide +kernel
theorem dX7_both_52 : decode cX7_both 52 = .ok (.iload_n 3, 1) := by decide +kernel
theorem dX7_both_53 : decode cX7_both 53 = .ok (.tableswitch 74 0 3 #[31, 39, 47, 56], 31) := by decide +kernel
theorem dX7_both_84 : decode cX7_both 84 = .ok (.iload 6, 2) := by decide +kernel
theorem dX7_both_86 : decode cX7_both 86 = .ok (.iload 7, 2) := by decide +kernel
theorem dX7_both_88 : decode cX7_both 88 = .ok (.iconst (-1), 1) := by decide +kernel
theorem dX7_both_89 : decode cX7_both 89 = .ok (.ixor, 1) := by decide +kernel
theorem dX7_both_90 : decode cX7_both 90 = .ok (.iand, 1) := by decide +kernel
theorem dX7_both_91 : decode cX7_both 91 = .ok (.ireturn, 1) := by decide +kernel
theorem dX7_both_92 : decode cX7_both 92 = .ok (.iload 7, 2) := by decide +kernel
theorem dX7_both_94 : decode cX7_both 94 = .ok (.iload 6, 2) := by decide +kernel
theorem dX7_both_96 : decode cX7_both 96 = .ok (.iconst (-1), 1) := by decide +kernel
theorem dX7_both_97 : decode cX7_both 97 = .ok (.ixor, 1) := by decide +kernel
theorem dX7_both_98 : decode cX7_both 98 = .ok (.iand, 1) := by decide +kernel
theorem dX7_both_99 : decode cX7_both 99 = .ok (.ireturn, 1) := by decide +kernel
theorem dX7_both_100 : decode cX7_both 100 = .ok (.aload_n 0, 1) := by decide +kernel
theorem dX7_both_101 : decode cX7_both 101 = .ok (.aload 4, 2) := by decide +kernel
theorem dX7_both_103 : decode cX7_both 103 = .ok (.aload 5, 2) := by decide +kernel
theorem dX7_both_105 : decode cX7_both 105 = .ok (.invokevirtual 167, 3) := by decide +kernel
theorem dX7_both_108 : decode cX7_both 108 = .ok (.ireturn, 1) := by decide +kernel
theorem dX7_both_109 : decode cX7_both 109 = .ok (.iload 6, 2) := by decide +kernel
theorem dX7_both_111 : decode cX7_both 111 = .ok (.iload 7, 2) := by decide +kernel
theorem dX7_both_113 : decode cX7_both 113 = .ok (.iand, 1) := by decide +kernel
theorem dX7_both_114 : decode cX7_both 114 = .ok (.invokestatic 171, 3) := by decide +kernel
theorem dX7_both_117 : decode cX7_both 117 = .ok (.aload_n 0, 1) := by decide +kernel
theorem dX7_both_118 : decode cX7_both 118 = .ok (.aload 4, 2) := by decide +kernel
theorem dX7_both_120 : decode cX7_both 120 = .ok (.aload 5, 2) := by decide +kernel
theorem dX7_both_122 : decode cX7_both 122 = .ok (.invokevirtual 167, 3) := by decide +kernel
theorem dX7_both_125 : decode cX7_both 125 = .ok (.isub, 1) := by decide +kernel
theorem dX7_both_126 : decode cX7_both 126 = .ok (.ireturn, 1) := by decide +kernel
theorem dX7_both_127 : decode cX7_both 127 = .ok (.iconst (-1), 1) := by decide +kernel
theorem dX7_both_128 : decode cX7_both 128 = .ok (.ireturn, 1) := by decide +kernel
theorem dX7_orders_0 : decode cX7_orders 0 = .ok (.iload_n 1, 1) := by decide +kernel
theorem dX7_orders_1 : decode cX7_orders 1 = .ok (.invokestatic 176, 3) := by decide +kernel
theorem dX7_orders_4 : decode cX7_orders 4 = .ok (.ifCond .ne 7, 3) := by decide +kernel
theorem dX7_orders_7 : decode cX7_orders 7 = .ok (.ldc2_w 179, 3) := by decide +kernel
theorem dX7_orders_10 : decode cX7_orders 10 = .ok (.lreturn, 1) := by decide +kernel
theorem dX7_orders_11 : decode cX7_orders 11 = .ok (.aload_n 0, 1) := by decide +kernel
theorem dX7_orders_12 : decode cX7_orders 12 = .ok (.getfield 49, 3) := by decide +kernel
theorem dX7_orders_15 : decode cX7_orders 15 = .ok (.aload_n 0, 1) := by decide +kernel
theorem dX7_orders_16 : decode cX7_orders 16 = .ok (.getfield 26, 3) := by decide +kernel
theorem dX7_orders_19 : decode cX7_orders 19 = .ok (.iload_n 1, 1) := by decide +kernel
theorem dX7_orders_20 : decode cX7_orders 20 = .ok (.invokevirtual 181, 3) := by decide +kernel
theorem dX7_orders_23 : decode cX7_orders 23 = .ok (.aload_n 0, 1) := by decide +kernel
theorem dX7_orders_24 : decode cX7_orders 24 = .ok (.getfield 49, 3) := by decide +kernel
theorem dX7_orders_27 : decode cX7_orders 27 = .ok (.invokevirtual 185, 3) := by decide +kernel
theorem dX7_orders_30 : decode cX7_orders 30 = .ok (.ifCond .eq 9, 3) := by decide +kernel
theorem dX7_orders_33 : decode cX7_orders 33 = .ok (.ldc2_w 189, 3) := by decide +kernel
theorem dX7_orders_36 : decode cX7_orders 36 = .ok (.goto 10, 3) := by decide +kernel
theorem dX7_orders_39 : decode cX7_orders 39 = .ok (.aload_n 0, 1) := by decide +kernel
theorem dX7_orders_40 : decode cX7_orders 40 = .ok (.getfield 49, 3) := by decide +kernel
theorem dX7_orders_43 : decode cX7_orders 43 = .ok (.invokevirtual 191, 3) := by decide +kernel
theorem dX7_orders_46 : decode cX7_orders 46 = .ok (.lreturn, 1) := by decide +kernel
theorem dX7_quarrel_0 : decode cX7_quarrel 0 = .ok (.iload_n 1, 1) := by decide +kernel
theorem dX7_quarrel_1 : decode cX7_quarrel 1 = .ok (.invokestatic 176, 3) := by decide +kernel
theorem dX7_quarrel_4 : decode cX7_quarrel 4 = .ok (.ifCond .eq 12, 3) := by decide +kernel
theorem dX7_quarrel_7 : decode cX7_quarrel 7 = .ok (.iload_n 2, 1) := by decide +kernel
theorem dX7_quarrel_8 : decode cX7_quarrel 8 = .ok (.ifCond .lt 8, 3) := by decide +kernel
theorem dX7_quarrel_11 : decode cX7_quarrel 11 = .ok (.iload_n 2, 1) := by decide +kernel
theorem dX7_quarrel_12 : decode cX7_quarrel 12 = .ok (.iconst 1, 1) := by decide +kernel
theorem dX7_quarrel_13 : decode cX7_quarrel 13 = .ok (.if_icmp .le 5, 3) := by decide +kernel
theorem dX7_quarrel_16 : decode cX7_quarrel 16 = .ok (.iconst (-1), 1) := by decide +kernel
theorem dX7_quarrel_17 : decode cX7_quarrel 17 = .ok (.ireturn, 1) := by decide +kernel
theorem dX7_quarrel_18 : decode cX7_quarrel 18 = .ok (.aload_n 0, 1) := by decide +kernel
theorem dX7_quarrel_19 : decode cX7_quarrel 19 = .ok (.getfield 49, 3) := by decide +kernel
theorem dX7_quarrel_22 : decode cX7_quarrel 22 = .ok (.aload_n 0, 1) := by decide +kernel
theorem dX7_quarrel_23 : decode cX7_quarrel 23 = .ok (.getfield 26, 3) := by decide +kernel
theorem dX7_quarrel_26 : decode cX7_quarrel 26 = .ok (.iload_n 1, 1) := by decide +kernel
theorem dX7_quarrel_27 : decode cX7_quarrel 27 = .ok (.invokevirtual 181, 3) := by decide +kernel
theorem dX7_quarrel_30 : decode cX7_quarrel 30 = .ok (.aload_n 0, 1) := by decide +kernel
theorem dX7_quarrel_31 : decode cX7_quarrel 31 = .ok (.getfield 49, 3) := by decide +kernel
theorem dX7_quarrel_34 : decode cX7_quarrel 34 = .ok (.invokevirtual 185, 3) := by decide +kernel
theorem dX7_quarrel_37 : decode cX7_quarrel 37 = .ok (.ifCond .eq 6, 3) := by decide +kernel
theorem dX7_quarrel_40 : decode cX7_quarrel 40 = .ok (.bipush (-2), 2) := by decide +kernel
theorem dX7_quarrel_42 : decode cX7_quarrel 42 = .ok (.ireturn, 1) := by decide +kernel
theorem dX7_quarrel_43 : decode cX7_quarrel 43 = .ok (.aload_n 0, 1) := by decide +kernel
theorem dX7_quarrel_44 : decode cX7_quarrel 44 = .ok (.getfield 49, 3) := by decide +kernel
theorem dX7_quarrel_47 : decode cX7_quarrel 47 = .ok (.aload_n 0, 1) := by decide +kernel
theorem dX7_quarrel_48 : decode cX7_quarrel 48 = .ok (.getfield 26, 3) := by decide +kernel
theorem dX7_quarrel_51 : decode cX7_quarrel 51 = .ok (.iload_n 1, 1) := by decide +kernel
theorem dX7_quarrel_52 : decode cX7_quarrel 52 = .ok (.invokevirtual 195, 3) := by decide +kernel
theorem dX7_quarrel_55 : decode cX7_quarrel 55 = .ok (.istore_n 3, 1) := by decide +kernel
theorem dX7_quarrel_56 : decode cX7_quarrel 56 = .ok (.iload_n 3, 1) := by decide +kernel
theorem dX7_quarrel_57 : decode cX7_quarrel 57 = .ok (.ifCond .ne 6, 3) := by decide +kernel
theorem dX7_quarrel_60 : decode cX7_quarrel 60 = .ok (.bipush (-9), 2) := by decide +kernel
theorem dX7_quarrel_62 : decode cX7_quarrel 62 = .ok (.ireturn, 1) := by decide +kernel
theorem dX7_quarrel_63 : decode cX7_quarrel 63 = .ok (.iload_n 2, 1) := by decide +kernel
theorem dX7_quarrel_64 : decode cX7_quarrel 64 = .ok (.ifCond .ne 10, 3) := by decide +kernel
theorem dX7_quarrel_67 : decode cX7_quarrel 67 = .ok (.iload_n 3, 1) := by decide +kernel
theorem dX7_quarrel_68 : decode cX7_quarrel 68 = .ok (.invokestatic 171, 3) := by decide +kernel
theorem dX7_quarrel_71 : decode cX7_quarrel 71 = .ok (.goto 4, 3) := by decide +kernel
theorem dX7_quarrel_74 : decode cX7_quarrel 74 = .ok (.iload_n 3, 1) := by decide +kernel
theorem dX7_quarrel_75 : decode cX7_quarrel 75 = .ok (.ireturn, 1) := by decide +kernel
theorem dX7_ahead_0 : decode cX7_ahead 0 = .ok (.iload_n 1, 1) := by decide +kernel
theorem dX7_ahead_1 : decode cX7_ahead 1 = .ok (.invokestatic 176, 3) := by decide +kernel
theorem dX7_ahead_4 : decode cX7_ahead 4 = .ok (.ifCond .eq 22, 3) := by decide +kernel
theorem dX7_ahead_7 : decode cX7_ahead 7 = .ok (.iload_n 2, 1) := by decide +kernel
theorem dX7_ahead_8 : decode cX7_ahead 8 = .ok (.invokestatic 110, 3) := by decide +kernel
theorem dX7_ahead_11 : decode cX7_ahead 11 = .ok (.ifCond .eq 15, 3) := by decide +kernel
theorem dX7_ahead_14 : decode cX7_ahead 14 = .ok (.iload_n 3, 1) := by decide +kernel
theorem dX7_ahead_15 : decode cX7_ahead 15 = .ok (.invokestatic 110, 3) := by decide +kernel
theorem dX7_ahead_18 : decode cX7_ahead 18 = .ok (.ifCond .eq 8, 3) := by decide +kernel
theorem dX7_ahead_21 : decode cX7_ahead 21 = .ok (.iload_n 2, 1) := by decide +kernel
theorem dX7_ahead_22 : decode cX7_ahead 22 = .ok (.iload_n 3, 1) := by decide +kernel
theorem dX7_ahead_23 : decode cX7_ahead 23 = .ok (.if_icmp .ne 5, 3) := by decide +kernel
theorem dX7_ahead_26 : decode cX7_ahead 26 = .ok (.iconst (-1), 1) := by decide +kernel
theorem dX7_ahead_27 : decode cX7_ahead 27 = .ok (.ireturn, 1) := by decide +kernel
theorem dX7_ahead_28 : decode cX7_ahead 28 = .ok (.aload_n 0, 1) := by decide +kernel
theorem dX7_ahead_29 : decode cX7_ahead 29 = .ok (.getfield 49, 3) := by decide +kernel
theorem dX7_ahead_32 : decode cX7_ahead 32 = .ok (.aload_n 0, 1) := by decide +kernel
theorem dX7_ahead_33 : decode cX7_ahead 33 = .ok (.getfield 26, 3) := by decide +kernel
theorem dX7_ahead_36 : decode cX7_ahead 36 = .ok (.iload_n 1, 1) := by decide +kernel
theorem dX7_ahead_37 : decode cX7_ahead 37 = .ok (.invokevirtual 181, 3) := by decide +kernel
theorem dX7_ahead_40 : decode cX7_ahead 40 = .ok (.aload_n 0, 1) := by decide +kernel
theorem dX7_ahead_41 : decode cX7_ahead 41 = .ok (.getfield 49, 3) := by decide +kernel
theorem dX7_ahead_44 : decode cX7_ahead 44 = .ok (.getfield 199, 3) := by decide +kernel
theorem dX7_ahead_47 : decode cX7_ahead 47 = .ok (.iload_n 2, 1) := by decide +kernel
theorem dX7_ahead_48 : decode cX7_ahead 48 = .ok (.invokestatic 202, 3) := by decide +kernel
theorem dX7_ahead_51 : decode cX7_ahead 51 = .ok (.ifCond .eq 17, 3) := by decide +kernel
theorem dX7_ahead_54 : decode cX7_ahead 54 = .ok (.aload_n 0, 1) := by decide +kernel
theorem dX7_ahead_55 : decode cX7_ahead 55 = .ok (.getfield 49, 3) := by decide +kernel
theorem dX7_ahead_58 : decode cX7_ahead 58 = .ok (.getfield 199, 3) := by decide +kernel
theorem dX7_ahead_61 : decode cX7_ahead 61 = .ok (.iload_n 3, 1) := by decide +kernel
theorem dX7_ahead_62 : decode cX7_ahead 62 = .ok (.invokestatic 202, 3) := by decide +kernel
theorem dX7_ahead_65 : decode cX7_ahead 65 = .ok (.ifCond .ne 5, 3) := by decide +kernel
theorem dX7_ahead_68 : decode cX7_ahead 68 = .ok (.iconst (-1), 1) := by decide +kernel
theorem dX7_ahead_69 : decode cX7_ahead 69 = .ok (.ireturn, 1) := by decide +kernel
theorem dX7_ahead_70 : decode cX7_ahead 70 = .ok (.aload_n 0, 1) := by decide +kernel
theorem dX7_ahead_71 : decode cX7_ahead 71 = .ok (.getfield 49, 3) := by decide +kernel
theorem dX7_ahead_74 : decode cX7_ahead 74 = .ok (.invokevirtual 185, 3) := by decide +kernel
theorem dX7_ahead_77 : decode cX7_ahead 77 = .ok (.ifCond .ne 13, 3) := by decide +kernel
theorem dX7_ahead_80 : decode cX7_ahead 80 = .ok (.aload_n 0, 1) := by decide +kernel
theorem dX7_ahead_81 : decode cX7_ahead 81 = .ok (.getfield 49, 3) := by decide +kernel
theorem dX7_ahead_84 : decode cX7_ahead 84 = .ok (.invokevirtual 206, 3) := by decide +kernel
theorem dX7_ahead_87 : decode cX7_ahead 87 = .ok (.ifCond .ne 6, 3) := by decide +kernel
theorem dX7_ahead_90 : decode cX7_ahead 90 = .ok (.bipush (-2), 2) := by decide +kernel
theorem dX7_ahead_92 : decode cX7_ahead 92 = .ok (.ireturn, 1) := by decide +kernel
theorem dX7_ahead_93 : decode cX7_ahead 93 = .ok (.aload_n 0, 1) := by decide +kernel
theorem dX7_ahead_94 : decode cX7_ahead 94 = .ok (.getfield 49, 3) := by decide +kernel
theorem dX7_ahead_97 : decode cX7_ahead 97 = .ok (.iload_n 3, 1) := by decide +kernel
theorem dX7_ahead_98 : decode cX7_ahead 98 = .ok (.invokevirtual 209, 3) := by decide +kernel
theorem dX7_ahead_101 : decode cX7_ahead 101 = .ok (.iload_n 2, 1) := by decide +kernel
theorem dX7_ahead_102 : decode cX7_ahead 102 = .ok (.invokestatic 202, 3) := by decide +kernel
theorem dX7_ahead_105 : decode cX7_ahead 105 = .ok (.ifCond .eq 5, 3) := by decide +kernel
theorem dX7_ahead_108 : decode cX7_ahead 108 = .ok (.iconst 1, 1) := by decide +kernel
theorem dX7_ahead_109 : decode cX7_ahead 109 = .ok (.ireturn, 1) := by decide +kernel
theorem dX7_ahead_110 : decode cX7_ahead 110 = .ok (.aload_n 0, 1) := by decide +kernel
theorem dX7_ahead_111 : decode cX7_ahead 111 = .ok (.getfield 49, 3) := by decide +kernel
theorem dX7_ahead_114 : decode cX7_ahead 114 = .ok (.iload_n 2, 1) := by decide +kernel
theorem dX7_ahead_115 : decode cX7_ahead 115 = .ok (.invokevirtual 209, 3) := by decide +kernel
theorem dX7_ahead_118 : decode cX7_ahead 118 = .ok (.iload_n 3, 1) := by decide +kernel
theorem dX7_ahead_119 : decode cX7_ahead 119 = .ok (.invokestatic 202, 3) := by decide +kernel
theorem dX7_ahead_122 : decode cX7_ahead 122 = .ok (.ifCond .eq 7, 3) := by decide +kernel
theorem dX7_ahead_125 : decode cX7_ahead 125 = .ok (.iconst 0, 1) := by decide +kernel
theorem dX7_ahead_126 : decode cX7_ahead 126 = .ok (.goto 4, 3) := by decide +kernel
theorem dX7_ahead_129 : decode cX7_ahead 129 = .ok (.iconst 2, 1) := by decide +kernel
theorem dX7_ahead_130 : decode cX7_ahead 130 = .ok (.ireturn, 1) := by decide +kernel
theorem dX7_date_0 : decode cX7_date 0 = .ok (.iload_n 1, 1) := by decide +kernel
theorem dX7_date_1 : decode cX7_date 1 = .ok (.invokestatic 110, 3) := by decide +kernel
theorem dX7_date_4 : decode cX7_date 4 = .ok (.ifCond .eq 20, 3) := by decide +kernel
theorem dX7_date_7 : decode cX7_date 7 = .ok (.iload_n 2, 1) := by decide +kernel
theorem dX7_date_8 : decode cX7_date 8 = .ok (.bipush (-9), 2) := by decide +kernel
theorem dX7_date_10 : decode cX7_date 10 = .ok (.if_icmp .eq 16, 3) := by decide +kernel
theorem dX7_date_13 : decode cX7_date 13 = .ok (.iload_n 2, 1) := by decide +kernel
theorem dX7_date_14 : decode cX7_date 14 = .ok (.ifCond .lt 10, 3) := by decide +kernel
theorem dX7_date_17 : decode cX7_date 17 = .ok (.iload_n 2, 1) := by decide +kernel
theorem dX7_date_18 : decode cX7_date 18 = .ok (.sipush 2000, 3) := by decide +kernel
theorem dX7_date_21 : decode cX7_date 21 = .ok (.if_icmp .le 5, 3) := by decide +kernel
theorem dX7_date_24 : decode cX7_date 24 = .ok (.iconst (-1), 1) := by decide +kernel
theorem dX7_date_25 : decode cX7_date 25 = .ok (.ireturn, 1) := by decide +kernel
theorem dX7_date_26 : decode cX7_date 26 = .ok (.aload_n 0, 1) := by decide +kernel
theorem dX7_date_27 : decode cX7_date 27 = .ok (.getfield 26, 3) := by decide +kernel
theorem dX7_date_30 : decode cX7_date 30 = .ok (.getfield 212, 3) := by decide +kernel
theorem dX7_date_33 : decode cX7_date 33 = .ok (.iload_n 1, 1) := by decide +kernel
theorem dX7_date_34 : decode cX7_date 34 = .ok (.iload_n 2, 1) := by decide +kernel
theorem dX7_date_35 : decode cX7_date 35 = .ok (.invokestatic 131, 3) := by decide +kernel
theorem dX7_date_38 : decode cX7_date 38 = .ok (.ireturn, 1) := by decide +kernel
theorem dX7_link_0 : decode cX7_link 0 = .ok (.iload_n 2, 1) := by decide +kernel
theorem dX7_link_1 : decode cX7_link 1 = .ok (.iconst 1, 1) := by decide +kernel
theorem dX7_link_2 : decode cX7_link 2 = .ok (.if_icmp .lt 9, 3) := by decide +kernel
theorem dX7_link_5 : decode cX7_link 5 = .ok (.iload_n 2, 1) := by decide +kernel
theorem dX7_link_6 : decode cX7_link 6 = .ok (.bipush 60, 2) := by decide +kernel
theorem dX7_link_8 : decode cX7_link 8 = .ok (.if_icmp .le 5, 3) := by decide +kernel
theorem dX7_link_11 : decode cX7_link 11 = .ok (.iconst (-1), 1) := by decide +kernel
theorem dX7_link_12 : decode cX7_link 12 = .ok (.ireturn, 1) := by decide +kernel
theorem dX7_link_13 : decode cX7_link 13 = .ok (.iload_n 1, 1) := by decide +kernel
theorem dX7_link_14 : decode cX7_link 14 = .ok (.ifCond .ne 23, 3) := by decide +kernel
theorem dX7_link_17 : decode cX7_link 17 = .ok (.iload_n 2, 1) := by decide +kernel
theorem dX7_link_18 : decode cX7_link 18 = .ok (.aload_n 0, 1) := by decide +kernel
theorem dX7_link_19 : decode cX7_link 19 = .ok (.getfield 61, 3) := by decide +kernel
theorem dX7_link_22 : decode cX7_link 22 = .ok (.if_icmp .gt 15, 3) := by decide +kernel
theorem dX7_link_25 : decode cX7_link 25 = .ok (.aload_n 0, 1) := by decide +kernel
theorem dX7_link_26 : decode cX7_link 26 = .ok (.getfield 57, 3) := by decide +kernel
theorem dX7_link_29 : decode cX7_link 29 = .ok (.istore_n 3, 1) := by decide +kernel
theorem dX7_link_30 : decode cX7_link 30 = .ok (.aload_n 0, 1) := by decide +kernel
theorem dX7_link_31 : decode cX7_link 31 = .ok (.iload_n 2, 1) := by decide +kernel
theorem dX7_link_32 : decode cX7_link 32 = .ok (.putfield 57, 3) := by decide +kernel
theorem dX7_link_35 : decode cX7_link 35 = .ok (.iload_n 3, 1) := by decide +kernel
theorem dX7_link_36 : decode cX7_link 36 = .ok (.ireturn, 1) := by decide +kernel
theorem dX7_link_37 : decode cX7_link 37 = .ok (.iload_n 1, 1) := by decide +kernel
theorem dX7_link_38 : decode cX7_link 38 = .ok (.iconst 1, 1) := by decide +kernel
theorem dX7_link_39 : decode cX7_link 39 = .ok (.if_icmp .ne 23, 3) := by decide +kernel
theorem dX7_link_42 : decode cX7_link 42 = .ok (.iload_n 2, 1) := by decide +kernel
theorem dX7_link_43 : decode cX7_link 43 = .ok (.aload_n 0, 1) := by decide +kernel
theorem dX7_link_44 : decode cX7_link 44 = .ok (.getfield 57, 3) := by decide +kernel
theorem dX7_link_47 : decode cX7_link 47 = .ok (.if_icmp .lt 15, 3) := by decide +kernel
theorem dX7_link_50 : decode cX7_link 50 = .ok (.aload_n 0, 1) := by decide +kernel
theorem dX7_link_51 : decode cX7_link 51 = .ok (.getfield 61, 3) := by decide +kernel
theorem dX7_link_54 : decode cX7_link 54 = .ok (.istore_n 3, 1) := by decide +kernel
theorem dX7_link_55 : decode cX7_link 55 = .ok (.aload_n 0, 1) := by decide +kernel
theorem dX7_link_56 : decode cX7_link 56 = .ok (.iload_n 2, 1) := by decide +kernel
theorem dX7_link_57 : decode cX7_link 57 = .ok (.putfield 61, 3) := by decide +kernel
theorem dX7_link_60 : decode cX7_link 60 = .ok (.iload_n 3, 1) := by decide +kernel
theorem dX7_link_61 : decode cX7_link 61 = .ok (.ireturn, 1) := by decide +kernel
theorem dX7_link_62 : decode cX7_link 62 = .ok (.iconst (-1), 1) := by decide +kernel
theorem dX7_link_63 : decode cX7_link 63 = .ok (.ireturn, 1) := by decide +kernel
theorem dX7_span_0 : decode cX7_span 0 = .ok (.iload_n 1, 1) := by decide +kernel
theorem dX7_span_1 : decode cX7_span 1 = .ok (.invokestatic 83, 3) := by decide +kernel
theorem dX7_span_4 : decode cX7_span 4 = .ok (.ifCond .eq 12, 3) := by decide +kernel
theorem dX7_span_7 : decode cX7_span 7 = .ok (.iload_n 3, 1) := by decide +kernel
theorem dX7_span_8 : decode cX7_span 8 = .ok (.ifCond .lt 8, 3) := by decide +kernel
theorem dX7_span_11 : decode cX7_span 11 = .ok (.iload_n 3, 1) := by decide +kernel
theorem dX7_span_12 : decode cX7_span 12 = .ok (.iconst 1, 1) := by decide +kernel
theorem dX7_span_13 : decode cX7_span 13 = .ok (.if_icmp .le 6, 3) := by decide +kernel
theorem dX7_span_16 : decode cX7_span 16 = .ok (.ldc 215, 2) := by decide +kernel
theorem dX7_span_18 : decode cX7_span 18 = .ok (.ireturn, 1) := by decide +kernel
theorem dX7_span_19 : decode cX7_span 19 = .ok (.aload_n 0, 1) := by decide +kernel
theorem dX7_span_20 : decode cX7_span 20 = .ok (.getfield 26, 3) := by decide +kernel
theorem dX7_span_23 : decode cX7_span 23 = .ok (.getfield 90, 3) := by decide +kernel
theorem dX7_span_26 : decode cX7_span 26 = .ok (.iload_n 1, 1) := by decide +kernel
theorem dX7_span_27 : decode cX7_span 27 = .ok (.aaload, 1) := by decide +kernel
theorem dX7_span_28 : decode cX7_span 28 = .ok (.astore 4, 2) := by decide +kernel
theorem dX7_span_30 : decode cX7_span 30 = .ok (.aload 4, 2) := by decide +kernel
theorem dX7_span_32 : decode cX7_span 32 = .ok (.iload_n 2, 1) := by decide +kernel
theorem dX7_span_33 : decode cX7_span 33 = .ok (.invokevirtual 103, 3) := by decide +kernel
theorem dX7_span_36 : decode cX7_span 36 = .ok (.ifCond .eq 21, 3) := by decide +kernel
theorem dX7_span_39 : decode cX7_span 39 = .ok (.aload_n 0, 1) := by decide +kernel
theorem dX7_span_40 : decode cX7_span 40 = .ok (.aload 4, 2) := by decide +kernel
theorem dX7_span_42 : decode cX7_span 42 = .ok (.invokevirtual 216, 3) := by decide +kernel
theorem dX7_span_45 : decode cX7_span 45 = .ok (.ifCond .eq 12, 3) := by decide +kernel
theorem dX7_span_48 : decode cX7_span 48 = .ok (.aload_n 0, 1) := by decide +kernel
theorem dX7_span_49 : decode cX7_span 49 = .ok (.aload 4, 2) := by decide +kernel
theorem dX7_span_51 : decode cX7_span 51 = .ok (.invokevirtual 220, 3) := by decide +kernel
theorem dX7_span_54 : decode cX7_span 54 = .ok (.ifCond .ne 6, 3) := by decide +kernel
theorem dX7_span_57 : decode cX7_span 57 = .ok (.ldc 215, 2) := by decide +kernel
theorem dX7_span_59 : decode cX7_span 59 = .ok (.ireturn, 1) := by decide +kernel
theorem dX7_span_60 : decode cX7_span 60 = .ok (.iload_n 3, 1) := by decide +kernel
theorem dX7_span_61 : decode cX7_span 61 = .ok (.ifCond .ne 13, 3) := by decide +kernel
theorem dX7_span_64 : decode cX7_span 64 = .ok (.aload_n 0, 1) := by decide +kernel
theorem dX7_span_65 : decode cX7_span 65 = .ok (.aload 4, 2) := by decide +kernel
theorem dX7_span_67 : decode cX7_span 67 = .ok (.iload_n 2, 1) := by decide +kernel
theorem dX7_span_68 : decode cX7_span 68 = .ok (.invokevirtual 223, 3) := by decide +kernel
theorem dX7_span_71 : decode cX7_span 71 = .ok (.goto 10, 3) := by decide +kernel
theorem dX7_span_74 : decode cX7_span 74 = .ok (.aload_n 0, 1) := by decide +kernel
theorem dX7_span_75 : decode cX7_span 75 = .ok (.aload 4, 2) := by decide +kernel
theorem dX7_span_77 : decode cX7_span 77 = .ok (.iload_n 2, 1) := by decide +kernel
theorem dX7_span_78 : decode cX7_span 78 = .ok (.invokevirtual 227, 3) := by decide +kernel
theorem dX7_span_81 : decode cX7_span 81 = .ok (.ireturn, 1) := by decide +kernel
theorem dX7_lost_0 : decode cX7_lost 0 = .ok (.iload_n 1, 1) := by decide +kernel
theorem dX7_lost_1 : decode cX7_lost 1 = .ok (.invokestatic 83, 3) := by decide +kernel
theorem dX7_lost_4 : decode cX7_lost 4 = .ok (.ifCond .ne 5, 3) := by decide +kernel
theorem dX7_lost_7 : decode cX7_lost 7 = .ok (.iconst (-1), 1) := by decide +kernel
theorem dX7_lost_8 : decode cX7_lost 8 = .ok (.ireturn, 1) := by decide +kernel
theorem dX7_lost_9 : decode cX7_lost 9 = .ok (.aload_n 0, 1) := by decide +kernel
theorem dX7_lost_10 : decode cX7_lost 10 = .ok (.getfield 26, 3) := by decide +kernel
theorem dX7_lost_13 : decode cX7_lost 13 = .ok (.getfield 90, 3) := by decide +kernel
theorem dX7_lost_16 : decode cX7_lost 16 = .ok (.iload_n 1, 1) := by decide +kernel
theorem dX7_lost_17 : decode cX7_lost 17 = .ok (.aaload, 1) := by decide +kernel
theorem dX7_lost_18 : decode cX7_lost 18 = .ok (.astore_n 2, 1) := by decide +kernel
theorem dX7_lost_19 : decode cX7_lost 19 = .ok (.iconst 0, 1) := by decide +kernel
theorem dX7_lost_20 : decode cX7_lost 20 = .ok (.istore_n 3, 1) := by decide +kernel
theorem dX7_lost_21 : decode cX7_lost 21 = .ok (.bipush (-9), 2) := by decide +kernel
theorem dX7_lost_23 : decode cX7_lost 23 = .ok (.istore 4, 2) := by decide +kernel
theorem dX7_lost_25 : decode cX7_lost 25 = .ok (.iconst 0, 1) := by decide +kernel
theorem dX7_lost_26 : decode cX7_lost 26 = .ok (.istore 5, 2) := by decide +kernel
theorem dX7_lost_28 : decode cX7_lost 28 = .ok (.iload 5, 2) := by decide +kernel
theorem dX7_lost_30 : decode cX7_lost 30 = .ok (.aload_n 2, 1) := by decide +kernel
theorem dX7_lost_31 : decode cX7_lost 31 = .ok (.getfield 99, 3) := by decide +kernel
theorem dX7_lost_34 : decode cX7_lost 34 = .ok (.if_icmp .ge 76, 3) := by decide +kernel
theorem dX7_lost_37 : decode cX7_lost 37 = .ok (.aload_n 0, 1) := by decide +kernel
theorem dX7_lost_38 : decode cX7_lost 38 = .ok (.aload_n 2, 1) := by decide +kernel
theorem dX7_lost_39 : decode cX7_lost 39 = .ok (.iload 5, 2) := by decide +kernel
theorem dX7_lost_41 : decode cX7_lost 41 = .ok (.invokevirtual 230, 3) := by decide +kernel
theorem dX7_lost_44 : decode cX7_lost 44 = .ok (.bipush (-9), 2) := by decide +kernel
theorem dX7_lost_46 : decode cX7_lost 46 = .ok (.if_icmp .ne 6, 3) := by decide +kernel
theorem dX7_lost_49 : decode cX7_lost 49 = .ok (.goto 55, 3) := by decide +kernel
theorem dX7_lost_52 : decode cX7_lost 52 = .ok (.iload 4, 2) := by decide +kernel
theorem dX7_lost_54 : decode cX7_lost 54 = .ok (.bipush (-9), 2) := by decide +kernel
theorem dX7_lost_56 : decode cX7_lost 56 = .ok (.if_icmp .eq 44, 3) := by decide +kernel
theorem dX7_lost_59 : decode cX7_lost 59 = .ok (.aload_n 0, 1) := by decide +kernel
theorem dX7_lost_60 : decode cX7_lost 60 = .ok (.iload 5, 2) := by decide +kernel
theorem dX7_lost_62 : decode cX7_lost 62 = .ok (.iload 4, 2) := by decide +kernel
theorem dX7_lost_64 : decode cX7_lost 64 = .ok (.isub, 1) := by decide +kernel
theorem dX7_lost_65 : decode cX7_lost 65 = .ok (.aload_n 0, 1) := by decide +kernel
theorem dX7_lost_66 : decode cX7_lost 66 = .ok (.aload_n 2, 1) := by decide +kernel
theorem dX7_lost_67 : decode cX7_lost 67 = .ok (.iload 5, 2) := by decide +kernel
theorem dX7_lost_69 : decode cX7_lost 69 = .ok (.invokevirtual 230, 3) := by decide +kernel
theorem dX7_lost_72 : decode cX7_lost 72 = .ok (.aload_n 0, 1) := by decide +kernel
theorem dX7_lost_73 : decode cX7_lost 73 = .ok (.aload_n 2, 1) := by decide +kernel
theorem dX7_lost_74 : decode cX7_lost 74 = .ok (.iload 4, 2) := by decide +kernel
theorem dX7_lost_76 : decode cX7_lost 76 = .ok (.invokevirtual 230, 3) := by decide +kernel
theorem dX7_lost_79 : decode cX7_lost 79 = .ok (.isub, 1) := by decide +kernel
theorem dX7_lost_80 : decode cX7_lost 80 = .ok (.invokevirtual 233, 3) := by decide +kernel
theorem dX7_lost_83 : decode cX7_lost 83 = .ok (.istore 6, 2) := by decide +kernel
theorem dX7_lost_85 : decode cX7_lost 85 = .ok (.iload 6, 2) := by decide +kernel
theorem dX7_lost_87 : decode cX7_lost 87 = .ok (.bipush (-2), 2) := by decide +kernel
theorem dX7_lost_89 : decode cX7_lost 89 = .ok (.if_icmp .ne 6, 3) := by decide +kernel
theorem dX7_lost_92 : decode cX7_lost 92 = .ok (.bipush (-2), 2) := by decide +kernel
theorem dX7_lost_94 : decode cX7_lost 94 = .ok (.ireturn, 1) := by decide +kernel
theorem dX7_lost_95 : decode cX7_lost 95 = .ok (.iload_n 3, 1) := by decide +kernel
theorem dX7_lost_96 : decode cX7_lost 96 = .ok (.iload 6, 2) := by decide +kernel
theorem dX7_lost_98 : decode cX7_lost 98 = .ok (.iadd, 1) := by decide +kernel
theorem dX7_lost_99 : decode cX7_lost 99 = .ok (.istore_n 3, 1) := by decide +kernel
theorem dX7_lost_100 : decode cX7_lost 100 = .ok (.iload 5, 2) := by decide +kernel
theorem dX7_lost_102 : decode cX7_lost 102 = .ok (.istore 4, 2) := by decide +kernel
theorem dX7_lost_104 : decode cX7_lost 104 = .ok (.iinc 5 1, 3) := by decide +kernel
theorem dX7_lost_107 : decode cX7_lost 107 = .ok (.goto (-79), 3) := by decide +kernel
theorem dX7_lost_110 : decode cX7_lost 110 = .ok (.iload_n 3, 1) := by decide +kernel
theorem dX7_lost_111 : decode cX7_lost 111 = .ok (.ireturn, 1) := by decide +kernel
theorem dX7_court_0 : decode cX7_court 0 = .ok (.iload_n 1, 1) := by decide +kernel
theorem dX7_court_1 : decode cX7_court 1 = .ok (.invokestatic 176, 3) := by decide +kernel
theorem dX7_court_4 : decode cX7_court 4 = .ok (.ifCond .eq 17, 3) := by decide +kernel
theorem dX7_court_7 : decode cX7_court 7 = .ok (.iload_n 2, 1) := by decide +kernel
theorem dX7_court_8 : decode cX7_court 8 = .ok (.invokestatic 116, 3) := by decide +kernel
theorem dX7_court_11 : decode cX7_court 11 = .ok (.ifCond .eq 10, 3) := by decide +kernel
theorem dX7_court_14 : decode cX7_court 14 = .ok (.iload_n 3, 1) := by decide +kernel
theorem dX7_court_15 : decode cX7_court 15 = .ok (.invokestatic 116, 3) := by decide +kernel
theorem dX7_court_18 : decode cX7_court 18 = .ok (.ifCond .ne 6, 3) := by decide +kernel
theorem dX7_court_21 : decode cX7_court 21 = .ok (.ldc 215, 2) := by decide +kernel
theorem dX7_court_23 : decode cX7_court 23 = .ok (.ireturn, 1) := by decide +kernel
theorem dX7_court_24 : decode cX7_court 24 = .ok (.aload_n 0, 1) := by decide +kernel
theorem dX7_court_25 : decode cX7_court 25 = .ok (.getfield 26, 3) := by decide +kernel
theorem dX7_court_28 : decode cX7_court 28 = .ok (.getfield 122, 3) := by decide +kernel
theorem dX7_court_31 : decode cX7_court 31 = .ok (.getfield 138, 3) := by decide +kernel
theorem dX7_court_34 : decode cX7_court 34 = .ok (.iload_n 2, 1) := by decide +kernel
theorem dX7_court_35 : decode cX7_court 35 = .ok (.iaload, 1) := by decide +kernel
theorem dX7_court_36 : decode cX7_court 36 = .ok (.istore 4, 2) := by decide +kernel
theorem dX7_court_38 : decode cX7_court 38 = .ok (.aload_n 0, 1) := by decide +kernel
theorem dX7_court_39 : decode cX7_court 39 = .ok (.getfield 26, 3) := by decide +kernel
theorem dX7_court_42 : decode cX7_court 42 = .ok (.getfield 122, 3) := by decide +kernel
theorem dX7_court_45 : decode cX7_court 45 = .ok (.getfield 138, 3) := by decide +kernel
theorem dX7_court_48 : decode cX7_court 48 = .ok (.iload_n 3, 1) := by decide +kernel
theorem dX7_court_49 : decode cX7_court 49 = .ok (.iaload, 1) := by decide +kernel
theorem dX7_court_50 : decode cX7_court 50 = .ok (.istore 5, 2) := by decide +kernel
theorem dX7_court_52 : decode cX7_court 52 = .ok (.iload 4, 2) := by decide +kernel
theorem dX7_court_54 : decode cX7_court 54 = .ok (.bipush (-9), 2) := by decide +kernel
theorem dX7_court_56 : decode cX7_court 56 = .ok (.if_icmp .eq 10, 3) := by decide +kernel
theorem dX7_court_59 : decode cX7_court 59 = .ok (.iload 5, 2) := by decide +kernel
theorem dX7_court_61 : decode cX7_court 61 = .ok (.bipush (-9), 2) := by decide +kernel
theorem dX7_court_63 : decode cX7_court 63 = .ok (.if_icmp .ne 6, 3) := by decide +kernel
theorem dX7_court_66 : decode cX7_court 66 = .ok (.ldc 215, 2) := by decide +kernel
theorem dX7_court_68 : decode cX7_court 68 = .ok (.ireturn, 1) := by decide +kernel
theorem dX7_court_69 : decode cX7_court 69 = .ok (.iconst 0, 1) := by decide +kernel
theorem dX7_court_70 : decode cX7_court 70 = .ok (.istore 6, 2) := by decide +kernel
theorem dX7_court_72 : decode cX7_court 72 = .ok (.iconst 0, 1) := by decide +kernel
theorem dX7_court_73 : decode cX7_court 73 = .ok (.istore 7, 2) := by decide +kernel
theorem dX7_court_75 : decode cX7_court 75 = .ok (.iload 7, 2) := by decide +kernel
theorem dX7_court_77 : decode cX7_court 77 = .ok (.iconst 4, 1) := by decide +kernel
theorem dX7_court_78 : decode cX7_court 78 = .ok (.if_icmp .ge 52, 3) := by decide +kernel
theorem dX7_court_81 : decode cX7_court 81 = .ok (.iload_n 1, 1) := by decide +kernel
theorem dX7_court_82 : decode cX7_court 82 = .ok (.iload 7, 2) := by decide +kernel
theorem dX7_court_84 : decode cX7_court 84 = .ok (.invokestatic 202, 3) := by decide +kernel
theorem dX7_court_87 : decode cX7_court 87 = .ok (.ifCond .eq 37, 3) := by decide +kernel
theorem dX7_court_90 : decode cX7_court 90 = .ok (.aload_n 0, 1) := by decide +kernel
theorem dX7_court_91 : decode cX7_court 91 = .ok (.getfield 26, 3) := by decide +kernel
theorem dX7_court_94 : decode cX7_court 94 = .ok (.getfield 90, 3) := by decide +kernel
theorem dX7_court_97 : decode cX7_court 97 = .ok (.iload 7, 2) := by decide +kernel
theorem dX7_court_99 : decode cX7_court 99 = .ok (.aaload, 1) := by decide +kernel
theorem dX7_court_100 : decode cX7_court 100 = .ok (.astore 8, 2) := by decide +kernel
theorem dX7_court_102 : decode cX7_court 102 = .ok (.iload 6, 2) := by decide +kernel
theorem dX7_court_104 : decode cX7_court 104 = .ok (.aload 8, 2) := by decide +kernel
theorem dX7_court_106 : decode cX7_court 106 = .ok (.iload 5, 2) := by decide +kernel
theorem dX7_court_108 : decode cX7_court 108 = .ok (.invokevirtual 237, 3) := by decide +kernel
theorem dX7_court_111 : decode cX7_court 111 = .ok (.aload 8, 2) := by decide +kernel
theorem dX7_court_113 : decode cX7_court 113 = .ok (.iload 4, 2) := by decide +kernel
theorem dX7_court_115 : decode cX7_court 115 = .ok (.invokevirtual 237, 3) := by decide +kernel
theorem dX7_court_118 : decode cX7_court 118 = .ok (.invokestatic 240, 3) := by decide +kernel
theorem dX7_court_121 : decode cX7_court 121 = .ok (.iadd, 1) := by decide +kernel
theorem dX7_court_122 : decode cX7_court 122 = .ok (.istore 6, 2) := by decide +kernel
theorem dX7_court_124 : decode cX7_court 124 = .ok (.iinc 7 1, 3) := by decide +kernel
theorem dX7_court_127 : decode cX7_court 127 = .ok (.goto (-52), 3) := by decide +kernel
theorem dX7_court_130 : decode cX7_court 130 = .ok (.iload 6, 2) := by decide +kernel
theorem dX7_court_132 : decode cX7_court 132 = .ok (.ireturn, 1) := by decide +kernel
theorem dX7_worth_0 : decode cX7_worth 0 = .ok (.iload_n 2, 1) := by decide +kernel
theorem dX7_worth_1 : decode cX7_worth 1 = .ok (.invokestatic 110, 3) := by decide +kernel
theorem dX7_worth_4 : decode cX7_worth 4 = .ok (.ifCond .ne 5, 3) := by decide +kernel
theorem dX7_worth_7 : decode cX7_worth 7 = .ok (.iconst (-1), 1) := by decide +kernel
theorem dX7_worth_8 : decode cX7_worth 8 = .ok (.ireturn, 1) := by decide +kernel
theorem dX7_worth_9 : decode cX7_worth 9 = .ok (.iload_n 1, 1) := by decide +kernel
theorem dX7_worth_10 : decode cX7_worth 10 = .ok (.tableswitch 74 0 5 #[38, 44, 50, 56, 62, 68], 38) := by decide +kernel
theorem dX7_worth_48 : decode cX7_worth 48 = .ok (.aload_n 0, 1) := by decide +kernel
theorem dX7_worth_49 : decode cX7_worth 49 = .ok (.iload_n 2, 1) := by decide +kernel
theorem dX7_worth_50 : decode cX7_worth 50 = .ok (.invokevirtual 243, 3) := by decide +kernel
theorem dX7_worth_53 : decode cX7_worth 53 = .ok (.ireturn, 1) := by decide +kernel
theorem dX7_worth_54 : decode cX7_worth 54 = .ok (.aload_n 0, 1) := by decide +kernel
theorem dX7_worth_55 : decode cX7_worth 55 = .ok (.iload_n 2, 1) := by decide +kernel
theorem dX7_worth_56 : decode cX7_worth 56 = .ok (.invokevirtual 246, 3) := by decide +kernel
theorem dX7_worth_59 : decode cX7_worth 59 = .ok (.ireturn, 1) := by decide +kernel
theorem dX7_worth_60 : decode cX7_worth 60 = .ok (.aload_n 0, 1) := by decide +kernel
theorem dX7_worth_61 : decode cX7_worth 61 = .ok (.iload_n 2, 1) := by decide +kernel
theorem dX7_worth_62 : decode cX7_worth 62 = .ok (.invokevirtual 249, 3) := by decide +kernel
theorem dX7_worth_65 : decode cX7_worth 65 = .ok (.ireturn, 1) := by decide +kernel
theorem dX7_worth_66 : decode cX7_worth 66 = .ok (.aload_n 0, 1) := by decide +kernel
theorem dX7_worth_67 : decode cX7_worth 67 = .ok (.iload_n 2, 1) := by decide +kernel
theorem dX7_worth_68 : decode cX7_worth 68 = .ok (.invokevirtual 252, 3) := by decide +kernel
theorem dX7_worth_71 : decode cX7_worth 71 = .ok (.ireturn, 1) := by decide +kernel
theorem dX7_worth_72 : decode cX7_worth 72 = .ok (.aload_n 0, 1) := by decide +kernel
theorem dX7_worth_73 : decode cX7_worth 73 = .ok (.iload_n 2, 1) := by decide +kernel
theorem dX7_worth_74 : decode cX7_worth 74 = .ok (.invokevirtual 255, 3) := by decide +kernel
theorem dX7_worth_77 : decode cX7_worth 77 = .ok (.ireturn, 1) := by decide +kernel
theorem dX7_worth_78 : decode cX7_worth 78 = .ok (.aload_n 0, 1) := by decide +kernel
theorem dX7_worth_79 : decode cX7_worth 79 = .ok (.iload_n 2, 1) := by decide +kernel
theorem dX7_worth_80 : decode cX7_worth 80 = .ok (.invokevirtual 258, 3) := by decide +kernel
theorem dX7_worth_83 : decode cX7_worth 83 = .ok (.ireturn, 1) := by decide +kernel
theorem dX7_worth_84 : decode cX7_worth 84 = .ok (.iconst (-1), 1) := by decide +kernel
theorem dX7_worth_85 : decode cX7_worth 85 = .ok (.ireturn, 1) := by decide +kernel
theorem dX7_keep_0 : decode cX7_keep 0 = .ok (.iload_n 1, 1) := by decide +kernel
theorem dX7_keep_1 : decode cX7_keep 1 = .ok (.ifCond .lt 8, 3) := by decide +kernel
theorem dX7_keep_4 : decode cX7_keep 4 = .ok (.iload_n 1, 1) := by decide +kernel
theorem dX7_keep_5 : decode cX7_keep 5 = .ok (.iconst 1, 1) := by decide +kernel
theorem dX7_keep_6 : decode cX7_keep 6 = .ok (.if_icmp .le 5, 3) := by decide +kernel
theorem dX7_keep_9 : decode cX7_keep 9 = .ok (.iconst (-1), 1) := by decide +kernel
theorem dX7_keep_10 : decode cX7_keep 10 = .ok (.ireturn, 1) := by decide +kernel
theorem dX7_keep_11 : decode cX7_keep 11 = .ok (.iload_n 1, 1) := by decide +kernel
theorem dX7_keep_12 : decode cX7_keep 12 = .ok (.ifCond .ne 10, 3) := by decide +kernel
theorem dX7_keep_15 : decode cX7_keep 15 = .ok (.aload_n 0, 1) := by decide +kernel
theorem dX7_keep_16 : decode cX7_keep 16 = .ok (.getfield 30, 3) := by decide +kernel
theorem dX7_keep_19 : decode cX7_keep 19 = .ok (.goto 7, 3) := by decide +kernel
theorem dX7_keep_22 : decode cX7_keep 22 = .ok (.aload_n 0, 1) := by decide +kernel
theorem dX7_keep_23 : decode cX7_keep 23 = .ok (.getfield 33, 3) := by decide +kernel
theorem dX7_keep_26 : decode cX7_keep 26 = .ok (.astore_n 2, 1) := by decide +kernel
theorem dX7_keep_27 : decode cX7_keep 27 = .ok (.aload_n 2, 1) := by decide +kernel
theorem dX7_keep_28 : decode cX7_keep 28 = .ok (.aload_n 0, 1) := by decide +kernel
theorem dX7_keep_29 : decode cX7_keep 29 = .ok (.getfield 26, 3) := by decide +kernel
theorem dX7_keep_32 : decode cX7_keep 32 = .ok (.invokevirtual 261, 3) := by decide +kernel
theorem dX7_keep_35 : decode cX7_keep 35 = .ok (.aload_n 2, 1) := by decide +kernel
theorem dX7_keep_36 : decode cX7_keep 36 = .ok (.iconst 1, 1) := by decide +kernel
theorem dX7_keep_37 : decode cX7_keep 37 = .ok (.putfield 264, 3) := by decide +kernel
theorem dX7_keep_40 : decode cX7_keep 40 = .ok (.aload_n 0, 1) := by decide +kernel
theorem dX7_keep_41 : decode cX7_keep 41 = .ok (.getfield 26, 3) := by decide +kernel
theorem dX7_keep_44 : decode cX7_keep 44 = .ok (.invokevirtual 268, 3) := by decide +kernel
theorem dX7_keep_47 : decode cX7_keep 47 = .ok (.ireturn, 1) := by decide +kernel
theorem dX7_back_0 : decode cX7_back 0 = .ok (.iload_n 1, 1) := by decide +kernel
theorem dX7_back_1 : decode cX7_back 1 = .ok (.ifCond .lt 8, 3) := by decide +kernel
theorem dX7_back_4 : decode cX7_back 4 = .ok (.iload_n 1, 1) := by decide +kernel
theorem dX7_back_5 : decode cX7_back 5 = .ok (.iconst 1, 1) := by decide +kernel
theorem dX7_back_6 : decode cX7_back 6 = .ok (.if_icmp .le 5, 3) := by decide +kernel
theorem dX7_back_9 : decode cX7_back 9 = .ok (.iconst (-1), 1) := by decide +kernel
theorem dX7_back_10 : decode cX7_back 10 = .ok (.ireturn, 1) := by decide +kernel
theorem dX7_back_11 : decode cX7_back 11 = .ok (.iload_n 1, 1) := by decide +kernel
theorem dX7_back_12 : decode cX7_back 12 = .ok (.ifCond .ne 10, 3) := by decide +kernel
theorem dX7_back_15 : decode cX7_back 15 = .ok (.aload_n 0, 1) := by decide +kernel
theorem dX7_back_16 : decode cX7_back 16 = .ok (.getfield 30, 3) := by decide +kernel
theorem dX7_back_19 : decode cX7_back 19 = .ok (.goto 7, 3) := by decide +kernel
theorem dX7_back_22 : decode cX7_back 22 = .ok (.aload_n 0, 1) := by decide +kernel
theorem dX7_back_23 : decode cX7_back 23 = .ok (.getfield 33, 3) := by decide +kernel
theorem dX7_back_26 : decode cX7_back 26 = .ok (.astore_n 2, 1) := by decide +kernel
theorem dX7_back_27 : decode cX7_back 27 = .ok (.aload_n 2, 1) := by decide +kernel
theorem dX7_back_28 : decode cX7_back 28 = .ok (.getfield 264, 3) := by decide +kernel
theorem dX7_back_31 : decode cX7_back 31 = .ok (.ifCond .ne 6, 3) := by decide +kernel
theorem dX7_back_34 : decode cX7_back 34 = .ok (.bipush (-2), 2) := by decide +kernel
theorem dX7_back_36 : decode cX7_back 36 = .ok (.ireturn, 1) := by decide +kernel
theorem dX7_back_37 : decode cX7_back 37 = .ok (.aload_n 0, 1) := by decide +kernel
theorem dX7_back_38 : decode cX7_back 38 = .ok (.getfield 26, 3) := by decide +kernel
theorem dX7_back_41 : decode cX7_back 41 = .ok (.aload_n 2, 1) := by decide +kernel
theorem dX7_back_42 : decode cX7_back 42 = .ok (.invokevirtual 261, 3) := by decide +kernel
theorem dX7_back_45 : decode cX7_back 45 = .ok (.aload_n 0, 1) := by decide +kernel
theorem dX7_back_46 : decode cX7_back 46 = .ok (.getfield 26, 3) := by decide +kernel
theorem dX7_back_49 : decode cX7_back 49 = .ok (.invokevirtual 268, 3) := by decide +kernel
theorem dX7_back_52 : decode cX7_back 52 = .ok (.ireturn, 1) := by decide +kernel
theorem dX7_count_0 : decode cX7_count 0 = .ok (.iload_n 1, 1) := by decide +kernel
theorem dX7_count_1 : decode cX7_count 1 = .ok (.tableswitch 72 0 3 #[31, 39, 47, 61], 31) := by decide +kernel
theorem dX7_count_32 : decode cX7_count 32 = .ok (.aload_n 0, 1) := by decide +kernel
theorem dX7_count_33 : decode cX7_count 33 = .ok (.getfield 26, 3) := by decide +kernel
theorem dX7_count_36 : decode cX7_count 36 = .ok (.invokevirtual 268, 3) := by decide +kernel
theorem dX7_count_39 : decode cX7_count 39 = .ok (.ireturn, 1) := by decide +kernel
theorem dX7_count_40 : decode cX7_count 40 = .ok (.aload_n 0, 1) := by decide +kernel
theorem dX7_count_41 : decode cX7_count 41 = .ok (.getfield 12, 3) := by decide +kernel
theorem dX7_count_44 : decode cX7_count 44 = .ok (.getfield 68, 3) := by decide +kernel
theorem dX7_count_47 : decode cX7_count 47 = .ok (.ireturn, 1) := by decide +kernel
theorem dX7_count_48 : decode cX7_count 48 = .ok (.aload_n 0, 1) := by decide +kernel
theorem dX7_count_49 : decode cX7_count 49 = .ok (.getfield 26, 3) := by decide +kernel
theorem dX7_count_52 : decode cX7_count 52 = .ok (.getfield 122, 3) := by decide +kernel
theorem dX7_count_55 : decode cX7_count 55 = .ok (.getfield 138, 3) := by decide +kernel
theorem dX7_count_58 : decode cX7_count 58 = .ok (.invokestatic 271, 3) := by decide +kernel
theorem dX7_count_61 : decode cX7_count 61 = .ok (.ireturn, 1) := by decide +kernel
theorem dX7_count_62 : decode cX7_count 62 = .ok (.aload_n 0, 1) := by decide +kernel
theorem dX7_count_63 : decode cX7_count 63 = .ok (.getfield 26, 3) := by decide +kernel
theorem dX7_count_66 : decode cX7_count 66 = .ok (.getfield 212, 3) := by decide +kernel
theorem dX7_count_69 : decode cX7_count 69 = .ok (.invokestatic 271, 3) := by decide +kernel
theorem dX7_count_72 : decode cX7_count 72 = .ok (.ireturn, 1) := by decide +kernel
theorem dX7_count_73 : decode cX7_count 73 = .ok (.iconst (-1), 1) := by decide +kernel
theorem dX7_count_74 : decode cX7_count 74 = .ok (.ireturn, 1) := by decide +kernel
theorem dX7_trace_0 : decode cX7_trace 0 = .ok (.aload_n 0, 1) := by decide +kernel
theorem dX7_trace_1 : decode cX7_trace 1 = .ok (.getfield 64, 3) := by decide +kernel
theorem dX7_trace_4 : decode cX7_trace 4 = .ok (.lreturn, 1) := by decide +kernel
theorem dX7_isList_0 : decode cX7_isList 0 = .ok (.iload_n 0, 1) := by decide +kernel
theorem dX7_isList_1 : decode cX7_isList 1 = .ok (.ifCond .lt 12, 3) := by decide +kernel
theorem dX7_isList_4 : decode cX7_isList 4 = .ok (.iload_n 0, 1) := by decide +kernel
theorem dX7_isList_5 : decode cX7_isList 5 = .ok (.iconst 4, 1) := by decide +kernel
theorem dX7_isList_6 : decode cX7_isList 6 = .ok (.if_icmp .ge 7, 3) := by decide +kernel
theorem dX7_isList_9 : decode cX7_isList 9 = .ok (.iconst 1, 1) := by decide +kernel
theorem dX7_isList_10 : decode cX7_isList 10 = .ok (.goto 4, 3) := by decide +kernel
theorem dX7_isList_13 : decode cX7_isList 13 = .ok (.iconst 0, 1) := by decide +kernel
theorem dX7_isList_14 : decode cX7_isList 14 = .ok (.ireturn, 1) := by decide +kernel
theorem dX7_isSet_0 : decode cX7_isSet 0 = .ok (.iload_n 0, 1) := by decide +kernel
theorem dX7_isSet_1 : decode cX7_isSet 1 = .ok (.iconst 1, 1) := by decide +kernel
theorem dX7_isSet_2 : decode cX7_isSet 2 = .ok (.if_icmp .lt 13, 3) := by decide +kernel
theorem dX7_isSet_5 : decode cX7_isSet 5 = .ok (.iload_n 0, 1) := by decide +kernel
theorem dX7_isSet_6 : decode cX7_isSet 6 = .ok (.bipush 16, 2) := by decide +kernel
theorem dX7_isSet_8 : decode cX7_isSet 8 = .ok (.if_icmp .ge 7, 3) := by decide +kernel
theorem dX7_isSet_11 : decode cX7_isSet 11 = .ok (.iconst 1, 1) := by decide +kernel
theorem dX7_isSet_12 : decode cX7_isSet 12 = .ok (.goto 4, 3) := by decide +kernel
theorem dX7_isSet_15 : decode cX7_isSet 15 = .ok (.iconst 0, 1) := by decide +kernel
theorem dX7_isSet_16 : decode cX7_isSet 16 = .ok (.ireturn, 1) := by decide +kernel
theorem dX7_isName_0 : decode cX7_isName 0 = .ok (.iload_n 0, 1) := by decide +kernel
theorem dX7_isName_1 : decode cX7_isName 1 = .ok (.ifCond .lt 13, 3) := by decide +kernel
theorem dX7_isName_4 : decode cX7_isName 4 = .ok (.iload_n 0, 1) := by decide +kernel
theorem dX7_isName_5 : decode cX7_isName 5 = .ok (.bipush 26, 2) := by decide +kernel
theorem dX7_isName_7 : decode cX7_isName 7 = .ok (.if_icmp .ge 7, 3) := by decide +kernel
theorem dX7_isName_10 : decode cX7_isName 10 = .ok (.iconst 1, 1) := by decide +kernel
theorem dX7_isName_11 : decode cX7_isName 11 = .ok (.goto 4, 3) := by decide +kernel
theorem dX7_isName_14 : decode cX7_isName 14 = .ok (.iconst 0, 1) := by decide +kernel
theorem dX7_isName_15 : decode cX7_isName 15 = .ok (.ireturn, 1) := by decide +kernel
theorem dX7_isNameOrNone_0 : decode cX7_isNameOrNone 0 = .ok (.iload_n 0, 1) := by decide +kernel
theorem dX7_isNameOrNone_1 : decode cX7_isNameOrNone 1 = .ok (.bipush (-9), 2) := by decide +kernel
theorem dX7_isNameOrNone_3 : decode cX7_isNameOrNone 3 = .ok (.if_icmp .eq 10, 3) := by decide +kernel
theorem dX7_isNameOrNone_6 : decode cX7_isNameOrNone 6 = .ok (.iload_n 0, 1) := by decide +kernel
theorem dX7_isNameOrNone_7 : decode cX7_isNameOrNone 7 = .ok (.invokestatic 110, 3) := by decide +kernel
theorem dX7_isNameOrNone_10 : decode cX7_isNameOrNone 10 = .ok (.ifCond .eq 7, 3) := by decide +kernel
theorem dX7_isNameOrNone_13 : decode cX7_isNameOrNone 13 = .ok (.iconst 1, 1) := by decide +kernel
theorem dX7_isNameOrNone_14 : decode cX7_isNameOrNone 14 = .ok (.goto 4, 3) := by decide +kernel
theorem dX7_isNameOrNone_17 : decode cX7_isNameOrNone 17 = .ok (.iconst 0, 1) := by decide +kernel
theorem dX7_isNameOrNone_18 : decode cX7_isNameOrNone 18 = .ok (.ireturn, 1) := by decide +kernel
theorem dX7_isHouse_0 : decode cX7_isHouse 0 = .ok (.iload_n 0, 1) := by decide +kernel
theorem dX7_isHouse_1 : decode cX7_isHouse 1 = .ok (.ifCond .lt 13, 3) := by decide +kernel
theorem dX7_isHouse_4 : decode cX7_isHouse 4 = .ok (.iload_n 0, 1) := by decide +kernel
theorem dX7_isHouse_5 : decode cX7_isHouse 5 = .ok (.bipush 6, 2) := by decide +kernel
theorem dX7_isHouse_7 : decode cX7_isHouse 7 = .ok (.if_icmp .ge 7, 3) := by decide +kernel
theorem dX7_isHouse_10 : decode cX7_isHouse 10 = .ok (.iconst 1, 1) := by decide +kernel
theorem dX7_isHouse_11 : decode cX7_isHouse 11 = .ok (.goto 4, 3) := by decide +kernel
theorem dX7_isHouse_14 : decode cX7_isHouse 14 = .ok (.iconst 0, 1) := by decide +kernel
theorem dX7_isHouse_15 : decode cX7_isHouse 15 = .ok (.ireturn, 1) := by decide +kernel
theorem dX7_isStrength_0 : decode cX7_isStrength 0 = .ok (.iload_n 0, 1) := by decide +kernel
theorem dX7_isStrength_1 : decode cX7_isStrength 1 = .ok (.ifCond .lt 13, 3) := by decide +kernel
theorem dX7_isStrength_4 : decode cX7_isStrength 4 = .ok (.iload_n 0, 1) := by decide +kernel
theorem dX7_isStrength_5 : decode cX7_isStrength 5 = .ok (.bipush 99, 2) := by decide +kernel
theorem dX7_isStrength_7 : decode cX7_isStrength 7 = .ok (.if_icmp .gt 7, 3) := by decide +kernel
theorem dX7_isStrength_10 : decode cX7_isStrength 10 = .ok (.iconst 1, 1) := by decide +kernel
theorem dX7_isStrength_11 : decode cX7_isStrength 11 = .ok (.goto 4, 3) := by decide +kernel
theorem dX7_isStrength_14 : decode cX7_isStrength 14 = .ok (.iconst 0, 1) := by decide +kernel
theorem dX7_isStrength_15 : decode cX7_isStrength 15 = .ok (.ireturn, 1) := by decide +kernel
theorem dX7_isIn_0 : decode cX7_isIn 0 = .ok (.iload_n 0, 1) := by decide +kernel
theorem dX7_isIn_1 : decode cX7_isIn 1 = .ok (.iload_n 1, 1) := by decide +kernel
theorem dX7_isIn_2 : decode cX7_isIn 2 = .ok (.ishr, 1) := by decide +kernel
theorem dX7_isIn_3 : decode cX7_isIn 3 = .ok (.iconst 1, 1) := by decide +kernel
theorem dX7_isIn_4 : decode cX7_isIn 4 = .ok (.iand, 1) := by decide +kernel
theorem dX7_isIn_5 : decode cX7_isIn 5 = .ok (.ifCond .eq 7, 3) := by decide +kernel
theorem dX7_isIn_8 : decode cX7_isIn 8 = .ok (.iconst 1, 1) := by decide +kernel
theorem dX7_isIn_9 : decode cX7_isIn 9 = .ok (.goto 4, 3) := by decide +kernel
theorem dX7_isIn_12 : decode cX7_isIn 12 = .ok (.iconst 0, 1) := by decide +kernel
theorem dX7_isIn_13 : decode cX7_isIn 13 = .ok (.ireturn, 1) := by decide +kernel
theorem dX7_isLetter_0 : decode cX7_isLetter 0 = .ok (.iload_n 0, 1) := by decide +kernel
theorem dX7_isLetter_1 : decode cX7_isLetter 1 = .ok (.bipush 97, 2) := by decide +kernel
theorem dX7_isLetter_3 : decode cX7_isLetter 3 = .ok (.if_icmp .lt 13, 3) := by decide +kernel
theorem dX7_isLetter_6 : decode cX7_isLetter 6 = .ok (.iload_n 0, 1) := by decide +kernel
theorem dX7_isLetter_7 : decode cX7_isLetter 7 = .ok (.bipush 122, 2) := by decide +kernel
theorem dX7_isLetter_9 : decode cX7_isLetter 9 = .ok (.if_icmp .gt 7, 3) := by decide +kernel
theorem dX7_isLetter_12 : decode cX7_isLetter 12 = .ok (.iconst 1, 1) := by decide +kernel
theorem dX7_isLetter_13 : decode cX7_isLetter 13 = .ok (.goto 4, 3) := by decide +kernel
theorem dX7_isLetter_16 : decode cX7_isLetter 16 = .ok (.iconst 0, 1) := by decide +kernel
theorem dX7_isLetter_17 : decode cX7_isLetter 17 = .ok (.ireturn, 1) := by decide +kernel
theorem dX7_isDigit_0 : decode cX7_isDigit 0 = .ok (.iload_n 0, 1) := by decide +kernel
theorem dX7_isDigit_1 : decode cX7_isDigit 1 = .ok (.bipush 48, 2) := by decide +kernel
theorem dX7_isDigit_3 : decode cX7_isDigit 3 = .ok (.if_icmp .lt 13, 3) := by decide +kernel
theorem dX7_isDigit_6 : decode cX7_isDigit 6 = .ok (.iload_n 0, 1) := by decide +kernel
theorem dX7_isDigit_7 : decode cX7_isDigit 7 = .ok (.bipush 57, 2) := by decide +kernel
theorem dX7_isDigit_9 : decode cX7_isDigit 9 = .ok (.if_icmp .gt 7, 3) := by decide +kernel
theorem dX7_isDigit_12 : decode cX7_isDigit 12 = .ok (.iconst 1, 1) := by decide +kernel
theorem dX7_isDigit_13 : decode cX7_isDigit 13 = .ok (.goto 4, 3) := by decide +kernel
theorem dX7_isDigit_16 : decode cX7_isDigit 16 = .ok (.iconst 0, 1) := by decide +kernel
theorem dX7_isDigit_17 : decode cX7_isDigit 17 = .ok (.ireturn, 1) := by decide +kernel
theorem dX7_exchange_0 : decode cX7_exchange 0 = .ok (.aload_n 0, 1) := by decide +kernel
theorem dX7_exchange_1 : decode cX7_exchange 1 = .ok (.iload_n 1, 1) := by decide +kernel
theorem dX7_exchange_2 : decode cX7_exchange 2 = .ok (.iaload, 1) := by decide +kernel
theorem dX7_exchange_3 : decode cX7_exchange 3 = .ok (.istore_n 3, 1) := by decide +kernel
theorem dX7_exchange_4 : decode cX7_exchange 4 = .ok (.aload_n 0, 1) := by decide +kernel
theorem dX7_exchange_5 : decode cX7_exchange 5 = .ok (.iload_n 1, 1) := by decide +kernel
theorem dX7_exchange_6 : decode cX7_exchange 6 = .ok (.iload_n 2, 1) := by decide +kernel
theorem dX7_exchange_7 : decode cX7_exchange 7 = .ok (.iastore, 1) := by decide +kernel
theorem dX7_exchange_8 : decode cX7_exchange 8 = .ok (.iload_n 3, 1) := by decide +kernel
theorem dX7_exchange_9 : decode cX7_exchange 9 = .ok (.ireturn, 1) := by decide +kernel
theorem dX7_countThere_0 : decode cX7_countThere 0 = .ok (.iconst 0, 1) := by decide +kernel
theorem dX7_countThere_1 : decode cX7_countThere 1 = .ok (.istore_n 1, 1) := by decide +kernel
theorem dX7_countThere_2 : decode cX7_countThere 2 = .ok (.aload_n 0, 1) := by decide +kernel
theorem dX7_countThere_3 : decode cX7_countThere 3 = .ok (.astore_n 2, 1) := by decide +kernel
theorem dX7_countThere_4 : decode cX7_countThere 4 = .ok (.aload_n 2, 1) := by decide +kernel
theorem dX7_countThere_5 : decode cX7_countThere 5 = .ok (.arraylength, 1) := by decide +kernel
theorem dX7_countThere_6 : decode cX7_countThere 6 = .ok (.istore_n 3, 1) := by decide +kernel
theorem dX7_countThere_7 : decode cX7_countThere 7 = .ok (.iconst 0, 1) := by decide +kernel
theorem dX7_countThere_8 : decode cX7_countThere 8 = .ok (.istore 4, 2) := by decide +kernel
theorem dX7_countThere_10 : decode cX7_countThere 10 = .ok (.iload 4, 2) := by decide +kernel
theorem dX7_countThere_12 : decode cX7_countThere 12 = .ok (.iload_n 3, 1) := by decide +kernel
theorem dX7_countThere_13 : decode cX7_countThere 13 = .ok (.if_icmp .ge 25, 3) := by decide +kernel
theorem dX7_countThere_16 : decode cX7_countThere 16 = .ok (.aload_n 2, 1) := by decide +kernel
theorem dX7_countThere_17 : decode cX7_countThere 17 = .ok (.iload 4, 2) := by decide +kernel
theorem dX7_countThere_19 : decode cX7_countThere 19 = .ok (.iaload, 1) := by decide +kernel
theorem dX7_countThere_20 : decode cX7_countThere 20 = .ok (.istore 5, 2) := by decide +kernel
theorem dX7_countThere_22 : decode cX7_countThere 22 = .ok (.iload 5, 2) := by decide +kernel
theorem dX7_countThere_24 : decode cX7_countThere 24 = .ok (.bipush (-9), 2) := by decide +kernel
theorem dX7_countThere_26 : decode cX7_countThere 26 = .ok (.if_icmp .eq 6, 3) := by decide +kernel
theorem dX7_countThere_29 : decode cX7_countThere 29 = .ok (.iinc 1 1, 3) := by decide +kernel
theorem dX7_countThere_32 : decode cX7_countThere 32 = .ok (.iinc 4 1, 3) := by decide +kernel
theorem dX7_countThere_35 : decode cX7_countThere 35 = .ok (.goto (-25), 3) := by decide +kernel
theorem dX7_countThere_38 : decode cX7_countThere 38 = .ok (.iload_n 1, 1) := by decide +kernel
theorem dX7_countThere_39 : decode cX7_countThere 39 = .ok (.ireturn, 1) := by decide +kernel
theorem dX7_sameOrder_0 : decode cX7_sameOrder 0 = .ok (.iconst 0, 1) := by decide +kernel
theorem dX7_sameOrder_1 : decode cX7_sameOrder 1 = .ok (.istore_n 3, 1) := by decide +kernel
theorem dX7_sameOrder_2 : decode cX7_sameOrder 2 = .ok (.iconst 0, 1) := by decide +kernel
theorem dX7_sameOrder_3 : decode cX7_sameOrder 3 = .ok (.istore 4, 2) := by decide +kernel
theorem dX7_sameOrder_5 : decode cX7_sameOrder 5 = .ok (.iload 4, 2) := by decide +kernel
theorem dX7_sameOrder_7 : decode cX7_sameOrder 7 = .ok (.aload_n 1, 1) := by decide +kernel
theorem dX7_sameOrder_8 : decode cX7_sameOrder 8 = .ok (.getfield 99, 3) := by decide +kernel
theorem dX7_sameOrder_11 : decode cX7_sameOrder 11 = .ok (.if_icmp .ge 74, 3) := by decide +kernel
theorem dX7_sameOrder_14 : decode cX7_sameOrder 14 = .ok (.iload 4, 2) := by decide +kernel
theorem dX7_sameOrder_16 : decode cX7_sameOrder 16 = .ok (.bipush 12, 2) := by decide +kernel
theorem dX7_sameOrder_18 : decode cX7_sameOrder 18 = .ok (.if_icmp .ge 67, 3) := by decide +kernel
theorem dX7_sameOrder_21 : decode cX7_sameOrder 21 = .ok (.aload_n 0, 1) := by decide +kernel
theorem dX7_sameOrder_22 : decode cX7_sameOrder 22 = .ok (.getfield 53, 3) := by decide +kernel
theorem dX7_sameOrder_25 : decode cX7_sameOrder 25 = .ok (.iload 4, 2) := by decide +kernel
theorem dX7_sameOrder_27 : decode cX7_sameOrder 27 = .ok (.iconst 0, 1) := by decide +kernel
theorem dX7_sameOrder_28 : decode cX7_sameOrder 28 = .ok (.iastore, 1) := by decide +kernel
theorem dX7_sameOrder_29 : decode cX7_sameOrder 29 = .ok (.aload_n 2, 1) := by decide +kernel
theorem dX7_sameOrder_30 : decode cX7_sameOrder 30 = .ok (.aload_n 1, 1) := by decide +kernel
theorem dX7_sameOrder_31 : decode cX7_sameOrder 31 = .ok (.iload 4, 2) := by decide +kernel
theorem dX7_sameOrder_33 : decode cX7_sameOrder 33 = .ok (.invokevirtual 106, 3) := by decide +kernel
theorem dX7_sameOrder_36 : decode cX7_sameOrder 36 = .ok (.invokevirtual 113, 3) := by decide +kernel
theorem dX7_sameOrder_39 : decode cX7_sameOrder 39 = .ok (.istore 5, 2) := by decide +kernel
theorem dX7_sameOrder_41 : decode cX7_sameOrder 41 = .ok (.iload 5, 2) := by decide +kernel
theorem dX7_sameOrder_43 : decode cX7_sameOrder 43 = .ok (.bipush (-9), 2) := by decide +kernel
theorem dX7_sameOrder_45 : decode cX7_sameOrder 45 = .ok (.if_icmp .eq 34, 3) := by decide +kernel
theorem dX7_sameOrder_48 : decode cX7_sameOrder 48 = .ok (.aload_n 0, 1) := by decide +kernel
theorem dX7_sameOrder_49 : decode cX7_sameOrder 49 = .ok (.getfield 53, 3) := by decide +kernel
theorem dX7_sameOrder_52 : decode cX7_sameOrder 52 = .ok (.iload 4, 2) := by decide +kernel
theorem dX7_sameOrder_54 : decode cX7_sameOrder 54 = .ok (.iconst 1, 1) := by decide +kernel
theorem dX7_sameOrder_55 : decode cX7_sameOrder 55 = .ok (.aload_n 0, 1) := by decide +kernel
theorem dX7_sameOrder_56 : decode cX7_sameOrder 56 = .ok (.aload_n 1, 1) := by decide +kernel
theorem dX7_sameOrder_57 : decode cX7_sameOrder 57 = .ok (.aload_n 2, 1) := by decide +kernel
theorem dX7_sameOrder_58 : decode cX7_sameOrder 58 = .ok (.iload 4, 2) := by decide +kernel
theorem dX7_sameOrder_60 : decode cX7_sameOrder 60 = .ok (.iload 5, 2) := by decide +kernel
theorem dX7_sameOrder_62 : decode cX7_sameOrder 62 = .ok (.invokevirtual 275, 3) := by decide +kernel
theorem dX7_sameOrder_65 : decode cX7_sameOrder 65 = .ok (.iadd, 1) := by decide +kernel
theorem dX7_sameOrder_66 : decode cX7_sameOrder 66 = .ok (.iastore, 1) := by decide +kernel
theorem dX7_sameOrder_67 : decode cX7_sameOrder 67 = .ok (.iload_n 3, 1) := by decide +kernel
theorem dX7_sameOrder_68 : decode cX7_sameOrder 68 = .ok (.aload_n 0, 1) := by decide +kernel
theorem dX7_sameOrder_69 : decode cX7_sameOrder 69 = .ok (.getfield 53, 3) := by decide +kernel
theorem dX7_sameOrder_72 : decode cX7_sameOrder 72 = .ok (.iload 4, 2) := by decide +kernel
theorem dX7_sameOrder_74 : decode cX7_sameOrder 74 = .ok (.iaload, 1) := by decide +kernel
theorem dX7_sameOrder_75 : decode cX7_sameOrder 75 = .ok (.invokestatic 279, 3) := by decide +kernel
theorem dX7_sameOrder_78 : decode cX7_sameOrder 78 = .ok (.istore_n 3, 1) := by decide +kernel
theorem dX7_sameOrder_79 : decode cX7_sameOrder 79 = .ok (.iinc 4 1, 3) := by decide +kernel
theorem dX7_sameOrder_82 : decode cX7_sameOrder 82 = .ok (.goto (-77), 3) := by decide +kernel
theorem dX7_sameOrder_85 : decode cX7_sameOrder 85 = .ok (.iload_n 3, 1) := by decide +kernel
theorem dX7_sameOrder_86 : decode cX7_sameOrder 86 = .ok (.ireturn, 1) := by decide +kernel
theorem dX7_longestAhead_0 : decode cX7_longestAhead 0 = .ok (.iconst 0, 1) := by decide +kernel
theorem dX7_longestAhead_1 : decode cX7_longestAhead 1 = .ok (.istore 5, 2) := by decide +kernel
theorem dX7_longestAhead_3 : decode cX7_longestAhead 3 = .ok (.iconst 0, 1) := by decide +kernel
theorem dX7_longestAhead_4 : decode cX7_longestAhead 4 = .ok (.istore 6, 2) := by decide +kernel
theorem dX7_longestAhead_6 : decode cX7_longestAhead 6 = .ok (.iload 6, 2) := by decide +kernel
theorem dX7_longestAhead_8 : decode cX7_longestAhead 8 = .ok (.iload_n 3, 1) := by decide +kernel
theorem dX7_longestAhead_9 : decode cX7_longestAhead 9 = .ok (.if_icmp .ge 45, 3) := by decide +kernel
theorem dX7_longestAhead_12 : decode cX7_longestAhead 12 = .ok (.iload 6, 2) := by decide +kernel
theorem dX7_longestAhead_14 : decode cX7_longestAhead 14 = .ok (.bipush 12, 2) := by decide +kernel
theorem dX7_longestAhead_16 : decode cX7_longestAhead 16 = .ok (.if_icmp .ge 38, 3) := by decide +kernel
theorem dX7_longestAhead_19 : decode cX7_longestAhead 19 = .ok (.aload_n 2, 1) := by decide +kernel
theorem dX7_longestAhead_20 : decode cX7_longestAhead 20 = .ok (.aload_n 1, 1) := by decide +kernel
theorem dX7_longestAhead_21 : decode cX7_longestAhead 21 = .ok (.iload 6, 2) := by decide +kernel
theorem dX7_longestAhead_23 : decode cX7_longestAhead 23 = .ok (.invokevirtual 106, 3) := by decide +kernel
theorem dX7_longestAhead_26 : decode cX7_longestAhead 26 = .ok (.invokevirtual 113, 3) := by decide +kernel
theorem dX7_longestAhead_29 : decode cX7_longestAhead 29 = .ok (.iload 4, 2) := by decide +kernel
theorem dX7_longestAhead_31 : decode cX7_longestAhead 31 = .ok (.if_icmp .ge 17, 3) := by decide +kernel
theorem dX7_longestAhead_34 : decode cX7_longestAhead 34 = .ok (.iload 5, 2) := by decide +kernel
theorem dX7_longestAhead_36 : decode cX7_longestAhead 36 = .ok (.aload_n 0, 1) := by decide +kernel
theorem dX7_longestAhead_37 : decode cX7_longestAhead 37 = .ok (.getfield 53, 3) := by decide +kernel
theorem dX7_longestAhead_40 : decode cX7_longestAhead 40 = .ok (.iload 6, 2) := by decide +kernel
theorem dX7_longestAhead_42 : decode cX7_longestAhead 42 = .ok (.iaload, 1) := by decide +kernel
theorem dX7_longestAhead_43 : decode cX7_longestAhead 43 = .ok (.invokestatic 279, 3) := by decide +kernel
theorem dX7_longestAhead_46 : decode cX7_longestAhead 46 = .ok (.istore 5, 2) := by decide +kernel
theorem dX7_longestAhead_48 : decode cX7_longestAhead 48 = .ok (.iinc 6 1, 3) := by decide +kernel
theorem dX7_longestAhead_51 : decode cX7_longestAhead 51 = .ok (.goto (-45), 3) := by decide +kernel
theorem dX7_longestAhead_54 : decode cX7_longestAhead 54 = .ok (.iload 5, 2) := by decide +kernel
theorem dX7_longestAhead_56 : decode cX7_longestAhead 56 = .ok (.ireturn, 1) := by decide +kernel
theorem dX7_dateAt_0 : decode cX7_dateAt 0 = .ok (.aload_n 1, 1) := by decide +kernel
theorem dX7_dateAt_1 : decode cX7_dateAt 1 = .ok (.iload_n 2, 1) := by decide +kernel
theorem dX7_dateAt_2 : decode cX7_dateAt 2 = .ok (.invokevirtual 106, 3) := by decide +kernel
theorem dX7_dateAt_5 : decode cX7_dateAt 5 = .ok (.istore_n 3, 1) := by decide +kernel
theorem dX7_dateAt_6 : decode cX7_dateAt 6 = .ok (.iload_n 3, 1) := by decide +kernel
theorem dX7_dateAt_7 : decode cX7_dateAt 7 = .ok (.invokestatic 110, 3) := by decide +kernel
theorem dX7_dateAt_10 : decode cX7_dateAt 10 = .ok (.ifCond .eq 15, 3) := by decide +kernel
theorem dX7_dateAt_13 : decode cX7_dateAt 13 = .ok (.aload_n 0, 1) := by decide +kernel
theorem dX7_dateAt_14 : decode cX7_dateAt 14 = .ok (.getfield 26, 3) := by decide +kernel
theorem dX7_dateAt_17 : decode cX7_dateAt 17 = .ok (.getfield 212, 3) := by decide +kernel
theorem dX7_dateAt_20 : decode cX7_dateAt 20 = .ok (.iload_n 3, 1) := by decide +kernel
theorem dX7_dateAt_21 : decode cX7_dateAt 21 = .ok (.iaload, 1) := by decide +kernel
theorem dX7_dateAt_22 : decode cX7_dateAt 22 = .ok (.goto 5, 3) := by decide +kernel
theorem dX7_dateAt_25 : decode cX7_dateAt 25 = .ok (.bipush (-9), 2) := by decide +kernel
theorem dX7_dateAt_27 : decode cX7_dateAt 27 = .ok (.ireturn, 1) := by decide +kernel
theorem dX7_isAnyDated_0 : decode cX7_isAnyDated 0 = .ok (.iconst 0, 1) := by decide +kernel
theorem dX7_isAnyDated_1 : decode cX7_isAnyDated 1 = .ok (.istore_n 2, 1) := by decide +kernel
theorem dX7_isAnyDated_2 : decode cX7_isAnyDated 2 = .ok (.iload_n 2, 1) := by decide +kernel
theorem dX7_isAnyDated_3 : decode cX7_isAnyDated 3 = .ok (.aload_n 1, 1) := by decide +kernel
theorem dX7_isAnyDated_4 : decode cX7_isAnyDated 4 = .ok (.getfield 99, 3) := by decide +kernel
theorem dX7_isAnyDated_7 : decode cX7_isAnyDated 7 = .ok (.if_icmp .ge 22, 3) := by decide +kernel
theorem dX7_isAnyDated_10 : decode cX7_isAnyDated 10 = .ok (.aload_n 0, 1) := by decide +kernel
theorem dX7_isAnyDated_11 : decode cX7_isAnyDated 11 = .ok (.aload_n 1, 1) := by decide +kernel
theorem dX7_isAnyDated_12 : decode cX7_isAnyDated 12 = .ok (.iload_n 2, 1) := by decide +kernel
theorem dX7_isAnyDated_13 : decode cX7_isAnyDated 13 = .ok (.invokevirtual 230, 3) := by decide +kernel
theorem dX7_isAnyDated_16 : decode cX7_isAnyDated 16 = .ok (.bipush (-9), 2) := by decide +kernel
theorem dX7_isAnyDated_18 : decode cX7_isAnyDated 18 = .ok (.if_icmp .eq 5, 3) := by decide +kernel
theorem dX7_isAnyDated_21 : decode cX7_isAnyDated 21 = .ok (.iconst 1, 1) := by decide +kernel
theorem dX7_isAnyDated_22 : decode cX7_isAnyDated 22 = .ok (.ireturn, 1) := by decide +kernel
theorem dX7_isAnyDated_23 : decode cX7_isAnyDated 23 = .ok (.iinc 2 1, 3) := by decide +kernel
theorem dX7_isAnyDated_26 : decode cX7_isAnyDated 26 = .ok (.goto (-24), 3) := by decide +kernel
theorem dX7_isAnyDated_29 : decode cX7_isAnyDated 29 = .ok (.iconst 0, 1) := by decide +kernel
theorem dX7_isAnyDated_30 : decode cX7_isAnyDated 30 = .ok (.ireturn, 1) := by decide +kernel
theorem dX7_doDatesFit_0 : decode cX7_doDatesFit 0 = .ok (.iconst 0, 1) := by decide +kernel
theorem dX7_doDatesFit_1 : decode cX7_doDatesFit 1 = .ok (.istore_n 2, 1) := by decide +kernel
theorem dX7_doDatesFit_2 : decode cX7_doDatesFit 2 = .ok (.iload_n 2, 1) := by decide +kernel
theorem dX7_doDatesFit_3 : decode cX7_doDatesFit 3 = .ok (.aload_n 1, 1) := by decide +kernel
theorem dX7_doDatesFit_4 : decode cX7_doDatesFit 4 = .ok (.getfield 99, 3) := by decide +kernel
theorem dX7_doDatesFit_7 : decode cX7_doDatesFit 7 = .ok (.if_icmp .ge 26, 3) := by decide +kernel
theorem dX7_doDatesFit_10 : decode cX7_doDatesFit 10 = .ok (.aload_n 0, 1) := by decide +kernel
theorem dX7_doDatesFit_11 : decode cX7_doDatesFit 11 = .ok (.aload_n 1, 1) := by decide +kernel
theorem dX7_doDatesFit_12 : decode cX7_doDatesFit 12 = .ok (.iload_n 2, 1) := by decide +kernel
theorem dX7_doDatesFit_13 : decode cX7_doDatesFit 13 = .ok (.invokevirtual 223, 3) := by decide +kernel
theorem dX7_doDatesFit_16 : decode cX7_doDatesFit 16 = .ok (.aload_n 0, 1) := by decide +kernel
theorem dX7_doDatesFit_17 : decode cX7_doDatesFit 17 = .ok (.aload_n 1, 1) := by decide +kernel
theorem dX7_doDatesFit_18 : decode cX7_doDatesFit 18 = .ok (.iload_n 2, 1) := by decide +kernel
theorem dX7_doDatesFit_19 : decode cX7_doDatesFit 19 = .ok (.invokevirtual 227, 3) := by decide +kernel
theorem dX7_doDatesFit_22 : decode cX7_doDatesFit 22 = .ok (.if_icmp .le 5, 3) := by decide +kernel
theorem dX7_doDatesFit_25 : decode cX7_doDatesFit 25 = .ok (.iconst 0, 1) := by decide +kernel
theorem dX7_doDatesFit_26 : decode cX7_doDatesFit 26 = .ok (.ireturn, 1) := by decide +kernel
theorem dX7_doDatesFit_27 : decode cX7_doDatesFit 27 = .ok (.iinc 2 1, 3) := by decide +kernel
theorem dX7_doDatesFit_30 : decode cX7_doDatesFit 30 = .ok (.goto (-28), 3) := by decide +kernel
theorem dX7_doDatesFit_33 : decode cX7_doDatesFit 33 = .ok (.iconst 1, 1) := by decide +kernel
theorem dX7_doDatesFit_34 : decode cX7_doDatesFit 34 = .ok (.ireturn, 1) := by decide +kernel
theorem dX7_earliest_0 : decode cX7_earliest 0 = .ok (.ldc 215, 2) := by decide +kernel
theorem dX7_earliest_2 : decode cX7_earliest 2 = .ok (.istore_n 3, 1) := by decide +kernel
theorem dX7_earliest_3 : decode cX7_earliest 3 = .ok (.iconst 0, 1) := by decide +kernel
theorem dX7_earliest_4 : decode cX7_earliest 4 = .ok (.istore 4, 2) := by decide +kernel
theorem dX7_earliest_6 : decode cX7_earliest 6 = .ok (.iload 4, 2) := by decide +kernel
theorem dX7_earliest_8 : decode cX7_earliest 8 = .ok (.aload_n 1, 1) := by decide +kernel
theorem dX7_earliest_9 : decode cX7_earliest 9 = .ok (.getfield 99, 3) := by decide +kernel
theorem dX7_earliest_12 : decode cX7_earliest 12 = .ok (.if_icmp .ge 55, 3) := by decide +kernel
theorem dX7_earliest_15 : decode cX7_earliest 15 = .ok (.aload_n 0, 1) := by decide +kernel
theorem dX7_earliest_16 : decode cX7_earliest 16 = .ok (.aload_n 1, 1) := by decide +kernel
theorem dX7_earliest_17 : decode cX7_earliest 17 = .ok (.iload 4, 2) := by decide +kernel
theorem dX7_earliest_19 : decode cX7_earliest 19 = .ok (.invokevirtual 230, 3) := by decide +kernel
theorem dX7_earliest_22 : decode cX7_earliest 22 = .ok (.istore 5, 2) := by decide +kernel
theorem dX7_earliest_24 : decode cX7_earliest 24 = .ok (.iload 5, 2) := by decide +kernel
theorem dX7_earliest_26 : decode cX7_earliest 26 = .ok (.bipush (-9), 2) := by decide +kernel
theorem dX7_earliest_28 : decode cX7_earliest 28 = .ok (.if_icmp .eq 33, 3) := by decide +kernel
theorem dX7_earliest_31 : decode cX7_earliest 31 = .ok (.iload_n 3, 1) := by decide +kernel
theorem dX7_earliest_32 : decode cX7_earliest 32 = .ok (.iload 5, 2) := by decide +kernel
theorem dX7_earliest_34 : decode cX7_earliest 34 = .ok (.iload_n 2, 1) := by decide +kernel
theorem dX7_earliest_35 : decode cX7_earliest 35 = .ok (.iload 4, 2) := by decide +kernel
theorem dX7_earliest_37 : decode cX7_earliest 37 = .ok (.isub, 1) := by decide +kernel
theorem dX7_earliest_38 : decode cX7_earliest 38 = .ok (.iload 4, 2) := by decide +kernel
theorem dX7_earliest_40 : decode cX7_earliest 40 = .ok (.iload_n 2, 1) := by decide +kernel
theorem dX7_earliest_41 : decode cX7_earliest 41 = .ok (.if_icmp .gt 10, 3) := by decide +kernel
theorem dX7_earliest_44 : decode cX7_earliest 44 = .ok (.aload_n 0, 1) := by decide +kernel
theorem dX7_earliest_45 : decode cX7_earliest 45 = .ok (.getfield 57, 3) := by decide +kernel
theorem dX7_earliest_48 : decode cX7_earliest 48 = .ok (.goto 7, 3) := by decide +kernel
theorem dX7_earliest_51 : decode cX7_earliest 51 = .ok (.aload_n 0, 1) := by decide +kernel
theorem dX7_earliest_52 : decode cX7_earliest 52 = .ok (.getfield 61, 3) := by decide +kernel
theorem dX7_earliest_55 : decode cX7_earliest 55 = .ok (.imul, 1) := by decide +kernel
theorem dX7_earliest_56 : decode cX7_earliest 56 = .ok (.iadd, 1) := by decide +kernel
theorem dX7_earliest_57 : decode cX7_earliest 57 = .ok (.invokestatic 279, 3) := by decide +kernel
theorem dX7_earliest_60 : decode cX7_earliest 60 = .ok (.istore_n 3, 1) := by decide +kernel
theorem dX7_earliest_61 : decode cX7_earliest 61 = .ok (.iinc 4 1, 3) := by decide +kernel
theorem dX7_earliest_64 : decode cX7_earliest 64 = .ok (.goto (-58), 3) := by decide +kernel
theorem dX7_earliest_67 : decode cX7_earliest 67 = .ok (.iload_n 3, 1) := by decide +kernel
theorem dX7_earliest_68 : decode cX7_earliest 68 = .ok (.ireturn, 1) := by decide +kernel
theorem dX7_latestYear_0 : decode cX7_latestYear 0 = .ok (.ldc_w 284, 3) := by decide +kernel
theorem dX7_latestYear_3 : decode cX7_latestYear 3 = .ok (.istore_n 3, 1) := by decide +kernel
theorem dX7_latestYear_4 : decode cX7_latestYear 4 = .ok (.iconst 0, 1) := by decide +kernel
theorem dX7_latestYear_5 : decode cX7_latestYear 5 = .ok (.istore 4, 2) := by decide +kernel
theorem dX7_latestYear_7 : decode cX7_latestYear 7 = .ok (.iload 4, 2) := by decide +kernel
theorem dX7_latestYear_9 : decode cX7_latestYear 9 = .ok (.aload_n 1, 1) := by decide +kernel
theorem dX7_latestYear_10 : decode cX7_latestYear 10 = .ok (.getfield 99, 3) := by decide +kernel
theorem dX7_latestYear_13 : decode cX7_latestYear 13 = .ok (.if_icmp .ge 55, 3) := by decide +kernel
theorem dX7_latestYear_16 : decode cX7_latestYear 16 = .ok (.aload_n 0, 1) := by decide +kernel
theorem dX7_latestYear_17 : decode cX7_latestYear 17 = .ok (.aload_n 1, 1) := by decide +kernel
theorem dX7_latestYear_18 : decode cX7_latestYear 18 = .ok (.iload 4, 2) := by decide +kernel
theorem dX7_latestYear_20 : decode cX7_latestYear 20 = .ok (.invokevirtual 230, 3) := by decide +kernel
theorem dX7_latestYear_23 : decode cX7_latestYear 23 = .ok (.istore 5, 2) := by decide +kernel
theorem dX7_latestYear_25 : decode cX7_latestYear 25 = .ok (.iload 5, 2) := by decide +kernel
theorem dX7_latestYear_27 : decode cX7_latestYear 27 = .ok (.bipush (-9), 2) := by decide +kernel
theorem dX7_latestYear_29 : decode cX7_latestYear 29 = .ok (.if_icmp .eq 33, 3) := by decide +kernel
theorem dX7_latestYear_32 : decode cX7_latestYear 32 = .ok (.iload_n 3, 1) := by decide +kernel
theorem dX7_latestYear_33 : decode cX7_latestYear 33 = .ok (.iload 5, 2) := by decide +kernel
theorem dX7_latestYear_35 : decode cX7_latestYear 35 = .ok (.iload_n 2, 1) := by decide +kernel
theorem dX7_latestYear_36 : decode cX7_latestYear 36 = .ok (.iload 4, 2) := by decide +kernel
theorem dX7_latestYear_38 : decode cX7_latestYear 38 = .ok (.isub, 1) := by decide +kernel
theorem dX7_latestYear_39 : decode cX7_latestYear 39 = .ok (.iload 4, 2) := by decide +kernel
theorem dX7_latestYear_41 : decode cX7_latestYear 41 = .ok (.iload_n 2, 1) := by decide +kernel
theorem dX7_latestYear_42 : decode cX7_latestYear 42 = .ok (.if_icmp .gt 10, 3) := by decide +kernel
theorem dX7_latestYear_45 : decode cX7_latestYear 45 = .ok (.aload_n 0, 1) := by decide +kernel
theorem dX7_latestYear_46 : decode cX7_latestYear 46 = .ok (.getfield 61, 3) := by decide +kernel
theorem dX7_latestYear_49 : decode cX7_latestYear 49 = .ok (.goto 7, 3) := by decide +kernel
theorem dX7_latestYear_52 : decode cX7_latestYear 52 = .ok (.aload_n 0, 1) := by decide +kernel
theorem dX7_latestYear_53 : decode cX7_latestYear 53 = .ok (.getfield 57, 3) := by decide +kernel
theorem dX7_latestYear_56 : decode cX7_latestYear 56 = .ok (.imul, 1) := by decide +kernel
theorem dX7_latestYear_57 : decode cX7_latestYear 57 = .ok (.iadd, 1) := by decide +kernel
theorem dX7_latestYear_58 : decode cX7_latestYear 58 = .ok (.invokestatic 285, 3) := by decide +kernel
theorem dX7_latestYear_61 : decode cX7_latestYear 61 = .ok (.istore_n 3, 1) := by decide +kernel
theorem dX7_latestYear_62 : decode cX7_latestYear 62 = .ok (.iinc 4 1, 3) := by decide +kernel
theorem dX7_latestYear_65 : decode cX7_latestYear 65 = .ok (.goto (-58), 3) := by decide +kernel
theorem dX7_latestYear_68 : decode cX7_latestYear 68 = .ok (.iload_n 3, 1) := by decide +kernel
theorem dX7_latestYear_69 : decode cX7_latestYear 69 = .ok (.ireturn, 1) := by decide +kernel
theorem dX7_lostBetween_0 : decode cX7_lostBetween 0 = .ok (.iload_n 1, 1) := by decide +kernel
theorem dX7_lostBetween_1 : decode cX7_lostBetween 1 = .ok (.istore_n 3, 1) := by decide +kernel
theorem dX7_lostBetween_2 : decode cX7_lostBetween 2 = .ok (.iload_n 3, 1) := by decide +kernel
theorem dX7_lostBetween_3 : decode cX7_lostBetween 3 = .ok (.iload_n 2, 1) := by decide +kernel
theorem dX7_lostBetween_4 : decode cX7_lostBetween 4 = .ok (.if_icmp .gt 33, 3) := by decide +kernel
theorem dX7_lostBetween_7 : decode cX7_lostBetween 7 = .ok (.iload_n 3, 1) := by decide +kernel
theorem dX7_lostBetween_8 : decode cX7_lostBetween 8 = .ok (.aload_n 0, 1) := by decide +kernel
theorem dX7_lostBetween_9 : decode cX7_lostBetween 9 = .ok (.getfield 57, 3) := by decide +kernel
theorem dX7_lostBetween_12 : decode cX7_lostBetween 12 = .ok (.imul, 1) := by decide +kernel
theorem dX7_lostBetween_13 : decode cX7_lostBetween 13 = .ok (.iload_n 2, 1) := by decide +kernel
theorem dX7_lostBetween_14 : decode cX7_lostBetween 14 = .ok (.if_icmp .gt 17, 3) := by decide +kernel
theorem dX7_lostBetween_17 : decode cX7_lostBetween 17 = .ok (.iload_n 2, 1) := by decide +kernel
theorem dX7_lostBetween_18 : decode cX7_lostBetween 18 = .ok (.iload_n 3, 1) := by decide +kernel
theorem dX7_lostBetween_19 : decode cX7_lostBetween 19 = .ok (.aload_n 0, 1) := by decide +kernel
theorem dX7_lostBetween_20 : decode cX7_lostBetween 20 = .ok (.getfield 61, 3) := by decide +kernel
theorem dX7_lostBetween_23 : decode cX7_lostBetween 23 = .ok (.imul, 1) := by decide +kernel
theorem dX7_lostBetween_24 : decode cX7_lostBetween 24 = .ok (.if_icmp .gt 7, 3) := by decide +kernel
theorem dX7_lostBetween_27 : decode cX7_lostBetween 27 = .ok (.iload_n 3, 1) := by decide +kernel
theorem dX7_lostBetween_28 : decode cX7_lostBetween 28 = .ok (.iload_n 1, 1) := by decide +kernel
theorem dX7_lostBetween_29 : decode cX7_lostBetween 29 = .ok (.isub, 1) := by decide +kernel
theorem dX7_lostBetween_30 : decode cX7_lostBetween 30 = .ok (.ireturn, 1) := by decide +kernel
theorem dX7_lostBetween_31 : decode cX7_lostBetween 31 = .ok (.iinc 3 1, 3) := by decide +kernel
theorem dX7_lostBetween_34 : decode cX7_lostBetween 34 = .ok (.goto (-32), 3) := by decide +kernel
theorem dX7_lostBetween_37 : decode cX7_lostBetween 37 = .ok (.bipush (-2), 2) := by decide +kernel
theorem dX7_lostBetween_39 : decode cX7_lostBetween 39 = .ok (.ireturn, 1) := by decide +kernel
theorem dX7_worthAsName_0 : decode cX7_worthAsName 0 = .ok (.aload_n 0, 1) := by decide +kernel
theorem dX7_worthAsName_1 : decode cX7_worthAsName 1 = .ok (.dup, 1) := by decide +kernel
theorem dX7_worthAsName_2 : decode cX7_worthAsName 2 = .ok (.getfield 64, 3) := by decide +kernel
theorem dX7_worthAsName_5 : decode cX7_worthAsName 5 = .ok (.lconst 1, 1) := by decide +kernel
theorem dX7_worthAsName_6 : decode cX7_worthAsName 6 = .ok (.ladd, 1) := by decide +kernel
theorem dX7_worthAsName_7 : decode cX7_worthAsName 7 = .ok (.putfield 64, 3) := by decide +kernel
theorem dX7_worthAsName_10 : decode cX7_worthAsName 10 = .ok (.iconst 0, 1) := by decide +kernel
theorem dX7_worthAsName_11 : decode cX7_worthAsName 11 = .ok (.istore_n 2, 1) := by decide +kernel
theorem dX7_worthAsName_12 : decode cX7_worthAsName 12 = .ok (.iconst 0, 1) := by decide +kernel
theorem dX7_worthAsName_13 : decode cX7_worthAsName 13 = .ok (.istore_n 3, 1) := by decide +kernel
theorem dX7_worthAsName_14 : decode cX7_worthAsName 14 = .ok (.iload_n 3, 1) := by decide +kernel
theorem dX7_worthAsName_15 : decode cX7_worthAsName 15 = .ok (.iconst 4, 1) := by decide +kernel
theorem dX7_worthAsName_16 : decode cX7_worthAsName 16 = .ok (.if_icmp .ge 30, 3) := by decide +kernel
theorem dX7_worthAsName_19 : decode cX7_worthAsName 19 = .ok (.aload_n 0, 1) := by decide +kernel
theorem dX7_worthAsName_20 : decode cX7_worthAsName 20 = .ok (.getfield 26, 3) := by decide +kernel
theorem dX7_worthAsName_23 : decode cX7_worthAsName 23 = .ok (.getfield 90, 3) := by decide +kernel
theorem dX7_worthAsName_26 : decode cX7_worthAsName 26 = .ok (.iload_n 3, 1) := by decide +kernel
theorem dX7_worthAsName_27 : decode cX7_worthAsName 27 = .ok (.aaload, 1) := by decide +kernel
theorem dX7_worthAsName_28 : decode cX7_worthAsName 28 = .ok (.iload_n 1, 1) := by decide +kernel
theorem dX7_worthAsName_29 : decode cX7_worthAsName 29 = .ok (.invokevirtual 113, 3) := by decide +kernel
theorem dX7_worthAsName_32 : decode cX7_worthAsName 32 = .ok (.bipush (-9), 2) := by decide +kernel
theorem dX7_worthAsName_34 : decode cX7_worthAsName 34 = .ok (.if_icmp .eq 6, 3) := by decide +kernel
theorem dX7_worthAsName_37 : decode cX7_worthAsName 37 = .ok (.iinc 2 1, 3) := by decide +kernel
theorem dX7_worthAsName_40 : decode cX7_worthAsName 40 = .ok (.iinc 3 1, 3) := by decide +kernel
theorem dX7_worthAsName_43 : decode cX7_worthAsName 43 = .ok (.goto (-29), 3) := by decide +kernel
theorem dX7_worthAsName_46 : decode cX7_worthAsName 46 = .ok (.iload_n 2, 1) := by decide +kernel
theorem dX7_worthAsName_47 : decode cX7_worthAsName 47 = .ok (.ireturn, 1) := by decide +kernel
theorem dX7_worthAsClaimed_0 : decode cX7_worthAsClaimed 0 = .ok (.aload_n 0, 1) := by decide +kernel
theorem dX7_worthAsClaimed_1 : decode cX7_worthAsClaimed 1 = .ok (.dup, 1) := by decide +kernel
theorem dX7_worthAsClaimed_2 : decode cX7_worthAsClaimed 2 = .ok (.getfield 64, 3) := by decide +kernel
theorem dX7_worthAsClaimed_5 : decode cX7_worthAsClaimed 5 = .ok (.ldc2_w 288, 3) := by decide +kernel
theorem dX7_worthAsClaimed_8 : decode cX7_worthAsClaimed 8 = .ok (.ladd, 1) := by decide +kernel
theorem dX7_worthAsClaimed_9 : decode cX7_worthAsClaimed 9 = .ok (.putfield 64, 3) := by decide +kernel
theorem dX7_worthAsClaimed_12 : decode cX7_worthAsClaimed 12 = .ok (.aload_n 0, 1) := by decide +kernel
theorem dX7_worthAsClaimed_13 : decode cX7_worthAsClaimed 13 = .ok (.iload_n 1, 1) := by decide +kernel
theorem dX7_worthAsClaimed_14 : decode cX7_worthAsClaimed 14 = .ok (.invokevirtual 243, 3) := by decide +kernel
theorem dX7_worthAsClaimed_17 : decode cX7_worthAsClaimed 17 = .ok (.aload_n 0, 1) := by decide +kernel
theorem dX7_worthAsClaimed_18 : decode cX7_worthAsClaimed 18 = .ok (.getfield 26, 3) := by decide +kernel
theorem dX7_worthAsClaimed_21 : decode cX7_worthAsClaimed 21 = .ok (.getfield 122, 3) := by decide +kernel
theorem dX7_worthAsClaimed_24 : decode cX7_worthAsClaimed 24 = .ok (.iload_n 1, 1) := by decide +kernel
theorem dX7_worthAsClaimed_25 : decode cX7_worthAsClaimed 25 = .ok (.invokevirtual 141, 3) := by decide +kernel
theorem dX7_worthAsClaimed_28 : decode cX7_worthAsClaimed 28 = .ok (.iadd, 1) := by decide +kernel
theorem dX7_worthAsClaimed_29 : decode cX7_worthAsClaimed 29 = .ok (.ireturn, 1) := by decide +kernel
theorem dX7_worthAsJoined_0 : decode cX7_worthAsJoined 0 = .ok (.aload_n 0, 1) := by decide +kernel
theorem dX7_worthAsJoined_1 : decode cX7_worthAsJoined 1 = .ok (.dup, 1) := by decide +kernel
theorem dX7_worthAsJoined_2 : decode cX7_worthAsJoined 2 = .ok (.getfield 64, 3) := by decide +kernel
theorem dX7_worthAsJoined_5 : decode cX7_worthAsJoined 5 = .ok (.ldc2_w 290, 3) := by decide +kernel
theorem dX7_worthAsJoined_8 : decode cX7_worthAsJoined 8 = .ok (.ladd, 1) := by decide +kernel
theorem dX7_worthAsJoined_9 : decode cX7_worthAsJoined 9 = .ok (.putfield 64, 3) := by decide +kernel
theorem dX7_worthAsJoined_12 : decode cX7_worthAsJoined 12 = .ok (.aload_n 0, 1) := by decide +kernel
theorem dX7_worthAsJoined_13 : decode cX7_worthAsJoined 13 = .ok (.iload_n 1, 1) := by decide +kernel
theorem dX7_worthAsJoined_14 : decode cX7_worthAsJoined 14 = .ok (.invokevirtual 243, 3) := by decide +kernel
theorem dX7_worthAsJoined_17 : decode cX7_worthAsJoined 17 = .ok (.iconst 2, 1) := by decide +kernel
theorem dX7_worthAsJoined_18 : decode cX7_worthAsJoined 18 = .ok (.aload_n 0, 1) := by decide +kernel
theorem dX7_worthAsJoined_19 : decode cX7_worthAsJoined 19 = .ok (.getfield 26, 3) := by decide +kernel
theorem dX7_worthAsJoined_22 : decode cX7_worthAsJoined 22 = .ok (.getfield 122, 3) := by decide +kernel
theorem dX7_worthAsJoined_25 : decode cX7_worthAsJoined 25 = .ok (.iload_n 1, 1) := by decide +kernel
theorem dX7_worthAsJoined_26 : decode cX7_worthAsJoined 26 = .ok (.invokevirtual 292, 3) := by decide +kernel
theorem dX7_worthAsJoined_29 : decode cX7_worthAsJoined 29 = .ok (.imul, 1) := by decide +kernel
theorem dX7_worthAsJoined_30 : decode cX7_worthAsJoined 30 = .ok (.iadd, 1) := by decide +kernel
theorem dX7_worthAsJoined_31 : decode cX7_worthAsJoined 31 = .ok (.ireturn, 1) := by decide +kernel
theorem dX7_worthAsStood_0 : decode cX7_worthAsStood 0 = .ok (.aload_n 0, 1) := by decide +kernel
theorem dX7_worthAsStood_1 : decode cX7_worthAsStood 1 = .ok (.dup, 1) := by decide +kernel
theorem dX7_worthAsStood_2 : decode cX7_worthAsStood 2 = .ok (.getfield 64, 3) := by decide +kernel
theorem dX7_worthAsStood_5 : decode cX7_worthAsStood 5 = .ok (.ldc2_w 295, 3) := by decide +kernel
theorem dX7_worthAsStood_8 : decode cX7_worthAsStood 8 = .ok (.ladd, 1) := by decide +kernel
theorem dX7_worthAsStood_9 : decode cX7_worthAsStood 9 = .ok (.putfield 64, 3) := by decide +kernel
theorem dX7_worthAsStood_12 : decode cX7_worthAsStood 12 = .ok (.aload_n 0, 1) := by decide +kernel
theorem dX7_worthAsStood_13 : decode cX7_worthAsStood 13 = .ok (.iload_n 1, 1) := by decide +kernel
theorem dX7_worthAsStood_14 : decode cX7_worthAsStood 14 = .ok (.invokevirtual 249, 3) := by decide +kernel
theorem dX7_worthAsStood_17 : decode cX7_worthAsStood 17 = .ok (.istore_n 2, 1) := by decide +kernel
theorem dX7_worthAsStood_18 : decode cX7_worthAsStood 18 = .ok (.iload_n 2, 1) := by decide +kernel
theorem dX7_worthAsStood_19 : decode cX7_worthAsStood 19 = .ok (.iload_n 2, 1) := by decide +kernel
theorem dX7_worthAsStood_20 : decode cX7_worthAsStood 20 = .ok (.imul, 1) := by decide +kernel
theorem dX7_worthAsStood_21 : decode cX7_worthAsStood 21 = .ok (.ireturn, 1) := by decide +kernel
theorem dX7_worthAsDated_0 : decode cX7_worthAsDated 0 = .ok (.aload_n 0, 1) := by decide +kernel
theorem dX7_worthAsDated_1 : decode cX7_worthAsDated 1 = .ok (.dup, 1) := by decide +kernel
theorem dX7_worthAsDated_2 : decode cX7_worthAsDated 2 = .ok (.getfield 64, 3) := by decide +kernel
theorem dX7_worthAsDated_5 : decode cX7_worthAsDated 5 = .ok (.ldc2_w 297, 3) := by decide +kernel
theorem dX7_worthAsDated_8 : decode cX7_worthAsDated 8 = .ok (.ladd, 1) := by decide +kernel
theorem dX7_worthAsDated_9 : decode cX7_worthAsDated 9 = .ok (.putfield 64, 3) := by decide +kernel
theorem dX7_worthAsDated_12 : decode cX7_worthAsDated 12 = .ok (.aload_n 0, 1) := by decide +kernel
theorem dX7_worthAsDated_13 : decode cX7_worthAsDated 13 = .ok (.iload_n 1, 1) := by decide +kernel
theorem dX7_worthAsDated_14 : decode cX7_worthAsDated 14 = .ok (.invokevirtual 243, 3) := by decide +kernel
theorem dX7_worthAsDated_17 : decode cX7_worthAsDated 17 = .ok (.istore_n 2, 1) := by decide +kernel
theorem dX7_worthAsDated_18 : decode cX7_worthAsDated 18 = .ok (.iload_n 1, 1) := by decide +kernel
theorem dX7_worthAsDated_19 : decode cX7_worthAsDated 19 = .ok (.invokestatic 110, 3) := by decide +kernel
theorem dX7_worthAsDated_22 : decode cX7_worthAsDated 22 = .ok (.ifCond .eq 24, 3) := by decide +kernel
theorem dX7_worthAsDated_25 : decode cX7_worthAsDated 25 = .ok (.aload_n 0, 1) := by decide +kernel
theorem dX7_worthAsDated_26 : decode cX7_worthAsDated 26 = .ok (.getfield 26, 3) := by decide +kernel
theorem dX7_worthAsDated_29 : decode cX7_worthAsDated 29 = .ok (.getfield 212, 3) := by decide +kernel
theorem dX7_worthAsDated_32 : decode cX7_worthAsDated 32 = .ok (.iload_n 1, 1) := by decide +kernel
theorem dX7_worthAsDated_33 : decode cX7_worthAsDated 33 = .ok (.iaload, 1) := by decide +kernel
theorem dX7_worthAsDated_34 : decode cX7_worthAsDated 34 = .ok (.bipush (-9), 2) := by decide +kernel
theorem dX7_worthAsDated_36 : decode cX7_worthAsDated 36 = .ok (.if_icmp .eq 10, 3) := by decide +kernel
theorem dX7_worthAsDated_39 : decode cX7_worthAsDated 39 = .ok (.iload_n 2, 1) := by decide +kernel
theorem dX7_worthAsDated_40 : decode cX7_worthAsDated 40 = .ok (.bipush 7, 2) := by decide +kernel
theorem dX7_worthAsDated_42 : decode cX7_worthAsDated 42 = .ok (.iadd, 1) := by decide +kernel
theorem dX7_worthAsDated_43 : decode cX7_worthAsDated 43 = .ok (.goto 4, 3) := by decide +kernel
theorem dX7_worthAsDated_46 : decode cX7_worthAsDated 46 = .ok (.iload_n 2, 1) := by decide +kernel
theorem dX7_worthAsDated_47 : decode cX7_worthAsDated 47 = .ok (.ireturn, 1) := by decide +kernel
theorem dX7_worthAsFar_0 : decode cX7_worthAsFar 0 = .ok (.aload_n 0, 1) := by decide +kernel
theorem dX7_worthAsFar_1 : decode cX7_worthAsFar 1 = .ok (.dup, 1) := by decide +kernel
theorem dX7_worthAsFar_2 : decode cX7_worthAsFar 2 = .ok (.getfield 64, 3) := by decide +kernel
theorem dX7_worthAsFar_5 : decode cX7_worthAsFar 5 = .ok (.ldc2_w 299, 3) := by decide +kernel
theorem dX7_worthAsFar_8 : decode cX7_worthAsFar 8 = .ok (.ladd, 1) := by decide +kernel
theorem dX7_worthAsFar_9 : decode cX7_worthAsFar 9 = .ok (.putfield 64, 3) := by decide +kernel
theorem dX7_worthAsFar_12 : decode cX7_worthAsFar 12 = .ok (.aload_n 0, 1) := by decide +kernel
theorem dX7_worthAsFar_13 : decode cX7_worthAsFar 13 = .ok (.iload_n 1, 1) := by decide +kernel
theorem dX7_worthAsFar_14 : decode cX7_worthAsFar 14 = .ok (.invokevirtual 255, 3) := by decide +kernel
theorem dX7_worthAsFar_17 : decode cX7_worthAsFar 17 = .ok (.iconst 2, 1) := by decide +kernel
theorem dX7_worthAsFar_18 : decode cX7_worthAsFar 18 = .ok (.idiv, 1) := by decide +kernel
theorem dX7_worthAsFar_19 : decode cX7_worthAsFar 19 = .ok (.ireturn, 1) := by decide +kernel
theorem dX8_init_0 : decode cX8_init 0 = .ok (.aload_n 0, 1) := by decide +kernel
theorem dX8_init_1 : decode cX8_init 1 = .ok (.invokespecial 1, 3) := by decide +kernel
theorem dX8_init_4 : decode cX8_init 4 = .ok (.aload_n 0, 1) := by decide +kernel
theorem dX8_init_5 : decode cX8_init 5 = .ok (.bipush 90, 2) := by decide +kernel
theorem dX8_init_7 : decode cX8_init 7 = .ok (.newarray .int, 2) := by decide +kernel
theorem dX8_init_9 : decode cX8_init 9 = .ok (.putfield 7, 3) := by decide +kernel
theorem dX8_init_12 : decode cX8_init 12 = .ok (.aload_n 0, 1) := by decide +kernel
theorem dX8_init_13 : decode cX8_init 13 = .ok (.sipush 180, 3) := by decide +kernel
theorem dX8_init_16 : decode cX8_init 16 = .ok (.newarray .int, 2) := by decide +kernel
theorem dX8_init_18 : decode cX8_init 18 = .ok (.putfield 13, 3) := by decide +kernel
theorem dX8_init_21 : decode cX8_init 21 = .ok (.aload_n 0, 1) := by decide +kernel
theorem dX8_init_22 : decode cX8_init 22 = .ok (.iconst 2, 1) := by decide +kernel
theorem dX8_init_23 : decode cX8_init 23 = .ok (.newarray .boolean, 2) := by decide +kernel
theorem dX8_init_25 : decode cX8_init 25 = .ok (.putfield 16, 3) := by decide +kernel
theorem dX8_init_28 : decode cX8_init 28 = .ok (.aload_n 0, 1) := by decide +kernel
theorem dX8_init_29 : decode cX8_init 29 = .ok (.bipush 10, 2) := by decide +kernel
theorem dX8_init_31 : decode cX8_init 31 = .ok (.newarray .int, 2) := by decide +kernel
theorem dX8_init_33 : decode cX8_init 33 = .ok (.putfield 20, 3) := by decide +kernel
theorem dX8_init_36 : decode cX8_init 36 = .ok (.aload_n 0, 1) := by decide +kernel
theorem dX8_init_37 : decode cX8_init 37 = .ok (.sipush 200, 3) := by decide +kernel
theorem dX8_init_40 : decode cX8_init 40 = .ok (.newarray .int, 2) := by decide +kernel
theorem dX8_init_42 : decode cX8_init 42 = .ok (.putfield 23, 3) := by decide +kernel
theorem dX8_init_45 : decode cX8_init 45 = .ok (.aload_n 0, 1) := by decide +kernel
theorem dX8_init_46 : decode cX8_init 46 = .ok (.bipush 20, 2) := by decide +kernel
theorem dX8_init_48 : decode cX8_init 48 = .ok (.putfield 26, 3) := by decide +kernel
theorem dX8_init_51 : decode cX8_init 51 = .ok (.aload_n 0, 1) := by decide +kernel
theorem dX8_init_52 : decode cX8_init 52 = .ok (.bipush 35, 2) := by decide +kernel
theorem dX8_init_54 : decode cX8_init 54 = .ok (.putfield 30, 3) := by decide +kernel
theorem dX8_init_57 : decode cX8_init 57 = .ok (.aload_n 0, 1) := by decide +kernel
theorem dX8_init_58 : decode cX8_init 58 = .ok (.bipush 20, 2) := by decide +kernel
theorem dX8_init_60 : decode cX8_init 60 = .ok (.newarray .int, 2) := by decide +kernel
theorem dX8_init_62 : decode cX8_init 62 = .ok (.putfield 33, 3) := by decide +kernel
theorem dX8_init_65 : decode cX8_init 65 = .ok (.aload_n 0, 1) := by decide +kernel
theorem dX8_init_66 : decode cX8_init 66 = .ok (.iconst 3, 1) := by decide +kernel
theorem dX8_init_67 : decode cX8_init 67 = .ok (.newarray .int, 2) := by decide +kernel
theorem dX8_init_69 : decode cX8_init 69 = .ok (.putfield 36, 3) := by decide +kernel
theorem dX8_init_72 : decode cX8_init 72 = .ok (.aload_n 0, 1) := by decide +kernel
theorem dX8_init_73 : decode cX8_init 73 = .ok (.iconst 3, 1) := by decide +kernel
theorem dX8_init_74 : decode cX8_init 74 = .ok (.newarray .int, 2) := by decide +kernel
theorem dX8_init_76 : decode cX8_init 76 = .ok (.putfield 39, 3) := by decide +kernel
theorem dX8_init_79 : decode cX8_init 79 = .ok (.aload_n 0, 1) := by decide +kernel
theorem dX8_init_80 : decode cX8_init 80 = .ok (.bipush 26, 2) := by decide +kernel
theorem dX8_init_82 : decode cX8_init 82 = .ok (.newarray .int, 2) := by decide +kernel
theorem dX8_init_84 : decode cX8_init 84 = .ok (.putfield 42, 3) := by decide +kernel
theorem dX8_init_87 : decode cX8_init 87 = .ok (.aload_n 0, 1) := by decide +kernel
theorem dX8_init_88 : decode cX8_init 88 = .ok (.bipush 26, 2) := by decide +kernel
theorem dX8_init_90 : decode cX8_init 90 = .ok (.newarray .int, 2) := by decide +kernel
theorem dX8_init_92 : decode cX8_init 92 = .ok (.putfield 45, 3) := by decide +kernel
theorem dX8_init_95 : decode cX8_init 95 = .ok (.aload_n 0, 1) := by decide +kernel
theorem dX8_init_96 : decode cX8_init 96 = .ok (.sipush 4096, 3) := by decide +kernel
theorem dX8_init_99 : decode cX8_init 99 = .ok (.newarray .long, 2) := by decide +kernel
theorem dX8_init_101 : decode cX8_init 101 = .ok (.putfield 48, 3) := by decide +kernel
theorem dX8_init_104 : decode cX8_init 104 = .ok (.aload_n 0, 1) := by decide +kernel
theorem dX8_init_105 : decode cX8_init 105 = .ok (.sipush 169, 3) := by decide +kernel
theorem dX8_init_108 : decode cX8_init 108 = .ok (.newarray .int, 2) := by decide +kernel
theorem dX8_init_110 : decode cX8_init 110 = .ok (.putfield 52, 3) := by decide +kernel
theorem dX8_init_113 : decode cX8_init 113 = .ok (.iconst 0, 1) := by decide +kernel
theorem dX8_init_114 : decode cX8_init 114 = .ok (.istore_n 1, 1) := by decide +kernel
theorem dX8_init_115 : decode cX8_init 115 = .ok (.iload_n 1, 1) := by decide +kernel
theorem dX8_init_116 : decode cX8_init 116 = .ok (.bipush 6, 2) := by decide +kernel
theorem dX8_init_118 : decode cX8_init 118 = .ok (.if_icmp .ge 20, 3) := by decide +kernel
theorem dX8_init_121 : decode cX8_init 121 = .ok (.aload_n 0, 1) := by decide +kernel
theorem dX8_init_122 : decode cX8_init 122 = .ok (.getfield 7, 3) := by decide +kernel
theorem dX8_init_125 : decode cX8_init 125 = .ok (.bipush 58, 2) := by decide +kernel
theorem dX8_init_127 : decode cX8_init 127 = .ok (.iload_n 1, 1) := by decide +kernel
theorem dX8_init_128 : decode cX8_init 128 = .ok (.iadd, 1) := by decide +kernel
theorem dX8_init_129 : decode cX8_init 129 = .ok (.bipush (-9), 2) := by decide +kernel
theorem dX8_init_131 : decode cX8_init 131 = .ok (.iastore, 1) := by decide +kernel
theorem dX8_init_132 : decode cX8_init 132 = .ok (.iinc 1 1, 3) := by decide +kernel
theorem dX8_init_135 : decode cX8_init 135 = .ok (.goto (-20), 3) := by decide +kernel
theorem dX8_init_138 : decode cX8_init 138 = .ok (.iconst 0, 1) := by decide +kernel
theorem dX8_init_139 : decode cX8_init 139 = .ok (.istore_n 1, 1) := by decide +kernel
theorem dX8_init_140 : decode cX8_init 140 = .ok (.iload_n 1, 1) := by decide +kernel
theorem dX8_init_141 : decode cX8_init 141 = .ok (.bipush 26, 2) := by decide +kernel
theorem dX8_init_143 : decode cX8_init 143 = .ok (.if_icmp .ge 20, 3) := by decide +kernel
theorem dX8_init_146 : decode cX8_init 146 = .ok (.aload_n 0, 1) := by decide +kernel
theorem dX8_init_147 : decode cX8_init 147 = .ok (.getfield 7, 3) := by decide +kernel
theorem dX8_init_150 : decode cX8_init 150 = .ok (.bipush 64, 2) := by decide +kernel
theorem dX8_init_152 : decode cX8_init 152 = .ok (.iload_n 1, 1) := by decide +kernel
theorem dX8_init_153 : decode cX8_init 153 = .ok (.iadd, 1) := by decide +kernel
theorem dX8_init_154 : decode cX8_init 154 = .ok (.bipush (-9), 2) := by decide +kernel
theorem dX8_init_156 : decode cX8_init 156 = .ok (.iastore, 1) := by decide +kernel
theorem dX8_init_157 : decode cX8_init 157 = .ok (.iinc 1 1, 3) := by decide +kernel
theorem dX8_init_160 : decode cX8_init 160 = .ok (.goto (-20), 3) := by decide +kernel
theorem dX8_init_163 : decode cX8_init 163 = .ok (.aload_n 0, 1) := by decide +kernel
theorem dX8_init_164 : decode cX8_init 164 = .ok (.invokevirtual 55, 3) := by decide +kernel
theorem dX8_init_167 : decode cX8_init 167 = .ok (.aload_n 0, 1) := by decide +kernel
theorem dX8_init_168 : decode cX8_init 168 = .ok (.invokevirtual 58, 3) := by decide +kernel
theorem dX8_init_171 : decode cX8_init 171 = .ok (.return_, 1) := by decide +kernel
theorem dX8_in_0 : decode cX8_in 0 = .ok (.iload_n 0, 1) := by decide +kernel
theorem dX8_in_1 : decode cX8_in 1 = .ok (.iload_n 1, 1) := by decide +kernel
theorem dX8_in_2 : decode cX8_in 2 = .ok (.if_icmp .lt 12, 3) := by decide +kernel
theorem dX8_in_5 : decode cX8_in 5 = .ok (.iload_n 0, 1) := by decide +kernel
theorem dX8_in_6 : decode cX8_in 6 = .ok (.iload_n 2, 1) := by decide +kernel
theorem dX8_in_7 : decode cX8_in 7 = .ok (.if_icmp .gt 7, 3) := by decide +kernel
theorem dX8_in_10 : decode cX8_in 10 = .ok (.iconst 1, 1) := by decide +kernel
theorem dX8_in_11 : decode cX8_in 11 = .ok (.goto 4, 3) := by decide +kernel
theorem dX8_in_14 : decode cX8_in 14 = .ok (.iconst 0, 1) := by decide +kernel
theorem dX8_in_15 : decode cX8_in 15 = .ok (.ireturn, 1) := by decide +kernel
theorem dX8_isList_0 : decode cX8_isList 0 = .ok (.iload_n 0, 1) := by decide +kernel
theorem dX8_isList_1 : decode cX8_isList 1 = .ok (.iconst 0, 1) := by decide +kernel
theorem dX8_isList_2 : decode cX8_isList 2 = .ok (.iconst 3, 1) := by decide +kernel
theorem dX8_isList_3 : decode cX8_isList 3 = .ok (.invokestatic 64, 3) := by decide +kernel
theorem dX8_isList_6 : decode cX8_isList 6 = .ok (.ireturn, 1) := by decide +kernel
theorem dX8_isName_0 : decode cX8_isName 0 = .ok (.iload_n 0, 1) := by decide +kernel
theorem dX8_isName_1 : decode cX8_isName 1 = .ok (.iconst 0, 1) := by decide +kernel
theorem dX8_isName_2 : decode cX8_isName 2 = .ok (.bipush 25, 2) := by decide +kernel
theorem dX8_isName_4 : decode cX8_isName 4 = .ok (.invokestatic 64, 3) := by decide +kernel
theorem dX8_isName_7 : decode cX8_isName 7 = .ok (.ireturn, 1) := by decide +kernel
theorem dX8_sizeOf_0 : decode cX8_sizeOf 0 = .ok (.aload_n 0, 1) := by decide +kernel
theorem dX8_sizeOf_1 : decode cX8_sizeOf 1 = .ok (.getfield 7, 3) := by decide +kernel
theorem dX8_sizeOf_4 : decode cX8_sizeOf 4 = .ok (.bipush 13, 2) := by decide +kernel
theorem dX8_sizeOf_6 : decode cX8_sizeOf 6 = .ok (.iload_n 1, 1) := by decide +kernel
theorem dX8_sizeOf_7 : decode cX8_sizeOf 7 = .ok (.imul, 1) := by decide +kernel
theorem dX8_sizeOf_8 : decode cX8_sizeOf 8 = .ok (.iaload, 1) := by decide +kernel
theorem dX8_sizeOf_9 : decode cX8_sizeOf 9 = .ok (.ireturn, 1) := by decide +kernel
theorem dX8_at_0 : decode cX8_at 0 = .ok (.aload_n 0, 1) := by decide +kernel
theorem dX8_at_1 : decode cX8_at 1 = .ok (.getfield 7, 3) := by decide +kernel
theorem dX8_at_4 : decode cX8_at 4 = .ok (.bipush 13, 2) := by decide +kernel
theorem dX8_at_6 : decode cX8_at 6 = .ok (.iload_n 1, 1) := by decide +kernel
theorem dX8_at_7 : decode cX8_at 7 = .ok (.imul, 1) := by decide +kernel
theorem dX8_at_8 : decode cX8_at 8 = .ok (.iconst 1, 1) := by decide +kernel
theorem dX8_at_9 : decode cX8_at 9 = .ok (.iadd, 1) := by decide +kernel
theorem dX8_at_10 : decode cX8_at 10 = .ok (.iload_n 2, 1) := by decide +kernel
theorem dX8_at_11 : decode cX8_at 11 = .ok (.iadd, 1) := by decide +kernel
theorem dX8_at_12 : decode cX8_at 12 = .ok (.iaload, 1) := by decide +kernel
theorem dX8_at_13 : decode cX8_at 13 = .ok (.ireturn, 1) := by decide +kernel
theorem dX8_placeOf_0 : decode cX8_placeOf 0 = .ok (.iconst 0, 1) := by decide +kernel
theorem dX8_placeOf_1 : decode cX8_placeOf 1 = .ok (.istore_n 3, 1) := by decide +kernel
theorem dX8_placeOf_2 : decode cX8_placeOf 2 = .ok (.iload_n 3, 1) := by decide +kernel
theorem dX8_placeOf_3 : decode cX8_placeOf 3 = .ok (.aload_n 0, 1) := by decide +kernel
theorem dX8_placeOf_4 : decode cX8_placeOf 4 = .ok (.iload_n 1, 1) := by decide +kernel
theorem dX8_placeOf_5 : decode cX8_placeOf 5 = .ok (.invokevirtual 68, 3) := by decide +kernel
theorem dX8_placeOf_8 : decode cX8_placeOf 8 = .ok (.if_icmp .ge 21, 3) := by decide +kernel
theorem dX8_placeOf_11 : decode cX8_placeOf 11 = .ok (.aload_n 0, 1) := by decide +kernel
theorem dX8_placeOf_12 : decode cX8_placeOf 12 = .ok (.iload_n 1, 1) := by decide +kernel
theorem dX8_placeOf_13 : decode cX8_placeOf 13 = .ok (.iload_n 3, 1) := by decide +kernel
theorem dX8_placeOf_14 : decode cX8_placeOf 14 = .ok (.invokevirtual 72, 3) := by decide +kernel
theorem dX8_placeOf_17 : decode cX8_placeOf 17 = .ok (.iload_n 2, 1) := by decide +kernel
theorem dX8_placeOf_18 : decode cX8_placeOf 18 = .ok (.if_icmp .ne 5, 3) := by decide +kernel
theorem dX8_placeOf_21 : decode cX8_placeOf 21 = .ok (.iload_n 3, 1) := by decide +kernel
theorem dX8_placeOf_22 : decode cX8_placeOf 22 = .ok (.ireturn, 1) := by decide +kernel
theorem dX8_placeOf_23 : decode cX8_placeOf 23 = .ok (.iinc 3 1, 3) := by decide +kernel
theorem dX8_placeOf_26 : decode cX8_placeOf 26 = .ok (.goto (-24), 3) := by decide +kernel
theorem dX8_placeOf_29 : decode cX8_placeOf 29 = .ok (.bipush (-9), 2) := by decide +kernel
theorem dX8_placeOf_31 : decode cX8_placeOf 31 = .ok (.ireturn, 1) := by decide +kernel
theorem dX8_type_0 : decode cX8_type 0 = .ok (.aload_n 0, 1) := by decide +kernel
theorem dX8_type_1 : decode cX8_type 1 = .ok (.iconst 0, 1) := by decide +kernel
theorem dX8_type_2 : decode cX8_type 2 = .ok (.putfield 61, 3) := by decide +kernel
theorem dX8_type_5 : decode cX8_type 5 = .ok (.iload_n 3, 1) := by decide +kernel
theorem dX8_type_6 : decode cX8_type 6 = .ok (.iconst 1, 1) := by decide +kernel
theorem dX8_type_7 : decode cX8_type 7 = .ok (.bipush 8, 2) := by decide +kernel
theorem dX8_type_9 : decode cX8_type 9 = .ok (.invokestatic 64, 3) := by decide +kernel
theorem dX8_type_12 : decode cX8_type 12 = .ok (.ifCond .ne 5, 3) := by decide +kernel
theorem dX8_type_15 : decode cX8_type 15 = .ok (.iconst (-1), 1) := by decide +kernel
theorem dX8_type_16 : decode cX8_type 16 = .ok (.ireturn, 1) := by decide +kernel
theorem dX8_type_17 : decode cX8_type 17 = .ok (.aload_n 0, 1) := by decide +kernel
theorem dX8_type_18 : decode cX8_type 18 = .ok (.getfield 76, 3) := by decide +kernel
theorem dX8_type_21 : decode cX8_type 21 = .ok (.iload_n 3, 1) := by decide +kernel
theorem dX8_type_22 : decode cX8_type 22 = .ok (.iadd, 1) := by decide +kernel
theorem dX8_type_23 : decode cX8_type 23 = .ok (.sipush 200, 3) := by decide +kernel
theorem dX8_type_26 : decode cX8_type 26 = .ok (.if_icmp .le 6, 3) := by decide +kernel
theorem dX8_type_29 : decode cX8_type 29 = .ok (.bipush (-3), 2) := by decide +kernel
theorem dX8_type_31 : decode cX8_type 31 = .ok (.ireturn, 1) := by decide +kernel
theorem dX8_type_32 : decode cX8_type 32 = .ok (.iload_n 3, 1) := by decide +kernel
theorem dX8_type_33 : decode cX8_type 33 = .ok (.iconst 1, 1) := by decide +kernel
theorem dX8_type_34 : decode cX8_type 34 = .ok (.isub, 1) := by decide +kernel
theorem dX8_type_35 : decode cX8_type 35 = .ok (.istore 4, 2) := by decide +kernel
theorem dX8_type_37 : decode cX8_type 37 = .ok (.iload 4, 2) := by decide +kernel
theorem dX8_type_39 : decode cX8_type 39 = .ok (.ifCond .lt 40, 3) := by decide +kernel
theorem dX8_type_42 : decode cX8_type 42 = .ok (.aload_n 0, 1) := by decide +kernel
theorem dX8_type_43 : decode cX8_type 43 = .ok (.getfield 23, 3) := by decide +kernel
theorem dX8_type_46 : decode cX8_type 46 = .ok (.aload_n 0, 1) := by decide +kernel
theorem dX8_type_47 : decode cX8_type 47 = .ok (.getfield 76, 3) := by decide +kernel
theorem dX8_type_50 : decode cX8_type 50 = .ok (.lload_n 1, 1) := by decide +kernel
theorem dX8_type_51 : decode cX8_type 51 = .ok (.bipush 8, 2) := by decide +kernel
theorem dX8_type_53 : decode cX8_type 53 = .ok (.iload 4, 2) := by decide +kernel
theorem dX8_type_55 : decode cX8_type 55 = .ok (.imul, 1) := by decide +kernel
theorem dX8_type_56 : decode cX8_type 56 = .ok (.lshr, 1) := by decide +kernel
theorem dX8_type_57 : decode cX8_type 57 = .ok (.ldc2_w 79, 3) := by decide +kernel
theorem dX8_type_60 : decode cX8_type 60 = .ok (.land, 1) := by decide +kernel
theorem dX8_type_61 : decode cX8_type 61 = .ok (.l2i, 1) := by decide +kernel
theorem dX8_type_62 : decode cX8_type 62 = .ok (.iastore, 1) := by decide +kernel
theorem dX8_type_63 : decode cX8_type 63 = .ok (.aload_n 0, 1) := by decide +kernel
theorem dX8_type_64 : decode cX8_type 64 = .ok (.dup, 1) := by decide +kernel
theorem dX8_type_65 : decode cX8_type 65 = .ok (.getfield 76, 3) := by decide +kernel
theorem dX8_type_68 : decode cX8_type 68 = .ok (.iconst 1, 1) := by decide +kernel
theorem dX8_type_69 : decode cX8_type 69 = .ok (.iadd, 1) := by decide +kernel
theorem dX8_type_70 : decode cX8_type 70 = .ok (.putfield 76, 3) := by decide +kernel
theorem dX8_type_73 : decode cX8_type 73 = .ok (.iinc 4 (-1), 3) := by decide +kernel
theorem dX8_type_76 : decode cX8_type 76 = .ok (.goto (-39), 3) := by decide +kernel
theorem dX8_type_79 : decode cX8_type 79 = .ok (.aload_n 0, 1) := by decide +kernel
theorem dX8_type_80 : decode cX8_type 80 = .ok (.getfield 76, 3) := by decide +kernel
theorem dX8_type_83 : decode cX8_type 83 = .ok (.ireturn, 1) := by decide +kernel
theorem dX8_clear_0 : decode cX8_clear 0 = .ok (.aload_n 0, 1) := by decide +kernel
theorem dX8_clear_1 : decode cX8_clear 1 = .ok (.iconst 0, 1) := by decide +kernel
theorem dX8_clear_2 : decode cX8_clear 2 = .ok (.putfield 61, 3) := by decide +kernel
theorem dX8_clear_5 : decode cX8_clear 5 = .ok (.aload_n 0, 1) := by decide +kernel
theorem dX8_clear_6 : decode cX8_clear 6 = .ok (.getfield 76, 3) := by decide +kernel
theorem dX8_clear_9 : decode cX8_clear 9 = .ok (.istore_n 1, 1) := by decide +kernel
theorem dX8_clear_10 : decode cX8_clear 10 = .ok (.aload_n 0, 1) := by decide +kernel
theorem dX8_clear_11 : decode cX8_clear 11 = .ok (.iconst 0, 1) := by decide +kernel
theorem dX8_clear_12 : decode cX8_clear 12 = .ok (.putfield 76, 3) := by decide +kernel
theorem dX8_clear_15 : decode cX8_clear 15 = .ok (.iload_n 1, 1) := by decide +kernel
theorem dX8_clear_16 : decode cX8_clear 16 = .ok (.ireturn, 1) := by decide +kernel
theorem dX8_byteAt_0 : decode cX8_byteAt 0 = .ok (.iload_n 1, 1) := by decide +kernel
theorem dX8_byteAt_1 : decode cX8_byteAt 1 = .ok (.aload_n 0, 1) := by decide +kernel
theorem dX8_byteAt_2 : decode cX8_byteAt 2 = .ok (.getfield 76, 3) := by decide +kernel
theorem dX8_byteAt_5 : decode cX8_byteAt 5 = .ok (.if_icmp .ge 12, 3) := by decide +kernel
theorem dX8_byteAt_8 : decode cX8_byteAt 8 = .ok (.aload_n 0, 1) := by decide +kernel
theorem dX8_byteAt_9 : decode cX8_byteAt 9 = .ok (.getfield 23, 3) := by decide +kernel
theorem dX8_byteAt_12 : decode cX8_byteAt 12 = .ok (.iload_n 1, 1) := by decide +kernel
theorem dX8_byteAt_13 : decode cX8_byteAt 13 = .ok (.iaload, 1) := by decide +kernel
theorem dX8_byteAt_14 : decode cX8_byteAt 14 = .ok (.goto 4, 3) := by decide +kernel
theorem dX8_byteAt_17 : decode cX8_byteAt 17 = .ok (.iconst (-1), 1) := by decide +kernel
theorem dX8_byteAt_18 : decode cX8_byteAt 18 = .ok (.ireturn, 1) := by decide +kernel
theorem dX8_begins_0 : decode cX8_begins 0 = .ok (.aload_n 0, 1) := by decide +kernel
theorem dX8_begins_1 : decode cX8_begins 1 = .ok (.getfield 20, 3) := by decide +kernel
theorem dX8_begins_4 : decode cX8_begins 4 = .ok (.iconst 5, 1) := by decide +kernel
theorem dX8_begins_5 : decode cX8_begins 5 = .ok (.bipush 12, 2) := by decide +kernel
theorem dX8_begins_7 : decode cX8_begins 7 = .ok (.iastore, 1) := by decide +kernel
theorem dX8_begins_8 : decode cX8_begins 8 = .ok (.aload_n 0, 1) := by decide +kernel
theorem dX8_begins_9 : decode cX8_begins 9 = .ok (.getfield 20, 3) := by decide +kernel
theorem dX8_begins_12 : decode cX8_begins 12 = .ok (.bipush 6, 2) := by decide +kernel
theorem dX8_begins_14 : decode cX8_begins 14 = .ok (.iconst 1, 1) := by decide +kernel
theorem dX8_begins_15 : decode cX8_begins 15 = .ok (.iastore, 1) := by decide +kernel
theorem dX8_begins_16 : decode cX8_begins 16 = .ok (.aload_n 0, 1) := by decide +kernel
theorem dX8_begins_17 : decode cX8_begins 17 = .ok (.getfield 20, 3) := by decide +kernel
theorem dX8_begins_20 : decode cX8_begins 20 = .ok (.bipush 7, 2) := by decide +kernel
theorem dX8_begins_22 : decode cX8_begins 22 = .ok (.iconst 0, 1) := by decide +kernel
theorem dX8_begins_23 : decode cX8_begins 23 = .ok (.iastore, 1) := by decide +kernel
theorem dX8_begins_24 : decode cX8_begins 24 = .ok (.aload_n 0, 1) := by decide +kernel
theorem dX8_begins_25 : decode cX8_begins 25 = .ok (.getfield 20, 3) := by decide +kernel
theorem dX8_begins_28 : decode cX8_begins 28 = .ok (.bipush 8, 2) := by decide +kernel
theorem dX8_begins_30 : decode cX8_begins 30 = .ok (.bipush 50, 2) := by decide +kernel
theorem dX8_begins_32 : decode cX8_begins 32 = .ok (.iastore, 1) := by decide +kernel
theorem dX8_begins_33 : decode cX8_begins 33 = .ok (.aload_n 0, 1) := by decide +kernel
theorem dX8_begins_34 : decode cX8_begins 34 = .ok (.getfield 20, 3) := by decide +kernel
theorem dX8_begins_37 : decode cX8_begins 37 = .ok (.bipush 9, 2) := by decide +kernel
theorem dX8_begins_39 : decode cX8_begins 39 = .ok (.bipush 80, 2) := by decide +kernel
theorem dX8_begins_41 : decode cX8_begins 41 = .ok (.iastore, 1) := by decide +kernel
theorem dX8_begins_42 : decode cX8_begins 42 = .ok (.return_, 1) := by decide +kernel
theorem dX8_lays_0 : decode cX8_lays 0 = .ok (.iconst 0, 1) := by decide +kernel
theorem dX8_lays_1 : decode cX8_lays 1 = .ok (.istore_n 1, 1) := by decide +kernel
theorem dX8_lays_2 : decode cX8_lays 2 = .ok (.iload_n 1, 1) := by decide +kernel
theorem dX8_lays_3 : decode cX8_lays 3 = .ok (.iconst 5, 1) := by decide +kernel
theorem dX8_lays_4 : decode cX8_lays 4 = .ok (.if_icmp .ge 23, 3) := by decide +kernel
theorem dX8_lays_7 : decode cX8_lays 7 = .ok (.aload_n 0, 1) := by decide +kernel
theorem dX8_lays_8 : decode cX8_lays 8 = .ok (.getfield 20, 3) := by decide +kernel
theorem dX8_lays_11 : decode cX8_lays 11 = .ok (.iload_n 1, 1) := by decide +kernel
theorem dX8_lays_12 : decode cX8_lays 12 = .ok (.aload_n 0, 1) := by decide +kernel
theorem dX8_lays_13 : decode cX8_lays 13 = .ok (.getfield 20, 3) := by decide +kernel
theorem dX8_lays_16 : decode cX8_lays 16 = .ok (.iconst 5, 1) := by decide +kernel
theorem dX8_lays_17 : decode cX8_lays 17 = .ok (.iload_n 1, 1) := by decide +kernel
theorem dX8_lays_18 : decode cX8_lays 18 = .ok (.iadd, 1) := by decide +kernel
theorem dX8_lays_19 : decode cX8_lays 19 = .ok (.iaload, 1) := by decide +kernel
theorem dX8_lays_20 : decode cX8_lays 20 = .ok (.iastore, 1) := by decide +kernel
theorem dX8_lays_21 : decode cX8_lays 21 = .ok (.iinc 1 1, 3) := by decide +kernel
theorem dX8_lays_24 : decode cX8_lays 24 = .ok (.goto (-22), 3) := by decide +kernel
theorem dX8_lays_27 : decode cX8_lays 27 = .ok (.return_, 1) := by decide +kernel
theorem dX8_add_0 : decode cX8_add 0 = .ok (.iload_n 2, 1) := by decide +kernel
theorem dX8_add_1 : decode cX8_add 1 = .ok (.ifCond .ne 7, 3) := by decide +kernel
theorem dX8_add_4 : decode cX8_add 4 = .ok (.lload_n 0, 1) := by decide +kernel
theorem dX8_add_5 : decode cX8_add 5 = .ok (.goto 11, 3) := by decide +kernel
theorem dX8_add_8 : decode cX8_add 8 = .ok (.ldc2_w 81, 3) := by decide +kernel
theorem dX8_add_11 : decode cX8_add 11 = .ok (.lload_n 0, 1) := by decide +kernel
theorem dX8_add_12 : decode cX8_add 12 = .ok (.lmul, 1) := by decide +kernel
theorem dX8_add_13 : decode cX8_add 13 = .ok (.iload_n 2, 1) := by decide +kernel
theorem dX8_add_14 : decode cX8_add 14 = .ok (.i2l, 1) := by decide +kernel
theorem dX8_add_15 : decode cX8_add 15 = .ok (.ladd, 1) := by decide +kernel
theorem dX8_add_16 : decode cX8_add 16 = .ok (.lreturn, 1) := by decide +kernel
theorem dX8_word_0 : decode cX8_word 0 = .ok (.lconst 0, 1) := by decide +kernel
theorem dX8_word_1 : decode cX8_word 1 = .ok (.iload_n 0, 1) := by decide +kernel
theorem dX8_word_2 : decode cX8_word 2 = .ok (.invokestatic 83, 3) := by decide +kernel
theorem dX8_word_5 : decode cX8_word 5 = .ok (.iload_n 1, 1) := by decide +kernel
theorem dX8_word_6 : decode cX8_word 6 = .ok (.invokestatic 83, 3) := by decide +kernel
theorem dX8_word_9 : decode cX8_word 9 = .ok (.iload_n 2, 1) := by decide +kernel
theorem dX8_word_10 : decode cX8_word 10 = .ok (.invokestatic 83, 3) := by decide +kernel
theorem dX8_word_13 : decode cX8_word 13 = .ok (.iload_n 3, 1) := by decide +kernel
theorem dX8_word_14 : decode cX8_word 14 = .ok (.invokestatic 83, 3) := by decide +kernel
theorem dX8_word_17 : decode cX8_word 17 = .ok (.iload 4, 2) := by decide +kernel
theorem dX8_word_19 : decode cX8_word 19 = .ok (.invokestatic 83, 3) := by decide +kernel
theorem dX8_word_22 : decode cX8_word 22 = .ok (.lreturn, 1) := by decide +kernel
theorem dX8_wordOf_0 : decode cX8_wordOf 0 = .ok (.lload_n 0, 1) := by decide +kernel
theorem dX8_wordOf_1 : decode cX8_wordOf 1 = .ok (.bipush 104, 2) := by decide +kernel
theorem dX8_wordOf_3 : decode cX8_wordOf 3 = .ok (.bipush 111, 2) := by decide +kernel
theorem dX8_wordOf_5 : decode cX8_wordOf 5 = .ok (.bipush 108, 2) := by decide +kernel
theorem dX8_wordOf_7 : decode cX8_wordOf 7 = .ok (.bipush 100, 2) := by decide +kernel
theorem dX8_wordOf_9 : decode cX8_wordOf 9 = .ok (.iconst 0, 1) := by decide +kernel
theorem dX8_wordOf_10 : decode cX8_wordOf 10 = .ok (.invokestatic 87, 3) := by decide +kernel
theorem dX8_wordOf_13 : decode cX8_wordOf 13 = .ok (.lcmp, 1) := by decide +kernel
theorem dX8_wordOf_14 : decode cX8_wordOf 14 = .ok (.ifCond .ne 7, 3) := by decide +kernel
theorem dX8_wordOf_17 : decode cX8_wordOf 17 = .ok (.iconst 0, 1) := by decide +kernel
theorem dX8_wordOf_18 : decode cX8_wordOf 18 = .ok (.goto 89, 3) := by decide +kernel
theorem dX8_wordOf_21 : decode cX8_wordOf 21 = .ok (.lload_n 0, 1) := by decide +kernel
theorem dX8_wordOf_22 : decode cX8_wordOf 22 = .ok (.bipush 102, 2) := by decide +kernel
theorem dX8_wordOf_24 : decode cX8_wordOf 24 = .ok (.bipush 97, 2) := by decide +kernel
theorem dX8_wordOf_26 : decode cX8_wordOf 26 = .ok (.bipush 114, 2) := by decide +kernel
theorem dX8_wordOf_28 : decode cX8_wordOf 28 = .ok (.iconst 0, 1) := by decide +kernel
theorem dX8_wordOf_29 : decode cX8_wordOf 29 = .ok (.iconst 0, 1) := by decide +kernel
theorem dX8_wordOf_30 : decode cX8_wordOf 30 = .ok (.invokestatic 87, 3) := by decide +kernel
theorem dX8_wordOf_33 : decode cX8_wordOf 33 = .ok (.lcmp, 1) := by decide +kernel
theorem dX8_wordOf_34 : decode cX8_wordOf 34 = .ok (.ifCond .ne 7, 3) := by decide +kernel
theorem dX8_wordOf_37 : decode cX8_wordOf 37 = .ok (.iconst 1, 1) := by decide +kernel
theorem dX8_wordOf_38 : decode cX8_wordOf 38 = .ok (.goto 69, 3) := by decide +kernel
theorem dX8_wordOf_41 : decode cX8_wordOf 41 = .ok (.lload_n 0, 1) := by decide +kernel
theorem dX8_wordOf_42 : decode cX8_wordOf 42 = .ok (.bipush 119, 2) := by decide +kernel
theorem dX8_wordOf_44 : decode cX8_wordOf 44 = .ok (.bipush 101, 2) := by decide +kernel
theorem dX8_wordOf_46 : decode cX8_wordOf 46 = .ok (.bipush 97, 2) := by decide +kernel
theorem dX8_wordOf_48 : decode cX8_wordOf 48 = .ok (.bipush 107, 2) := by decide +kernel
theorem dX8_wordOf_50 : decode cX8_wordOf 50 = .ok (.iconst 0, 1) := by decide +kernel
theorem dX8_wordOf_51 : decode cX8_wordOf 51 = .ok (.invokestatic 87, 3) := by decide +kernel
theorem dX8_wordOf_54 : decode cX8_wordOf 54 = .ok (.lcmp, 1) := by decide +kernel
theorem dX8_wordOf_55 : decode cX8_wordOf 55 = .ok (.ifCond .ne 7, 3) := by decide +kernel
theorem dX8_wordOf_58 : decode cX8_wordOf 58 = .ok (.iconst 2, 1) := by decide +kernel
theorem dX8_wordOf_59 : decode cX8_wordOf 59 = .ok (.goto 48, 3) := by decide +kernel
theorem dX8_wordOf_62 : decode cX8_wordOf 62 = .ok (.lload_n 0, 1) := by decide +kernel
theorem dX8_wordOf_63 : decode cX8_wordOf 63 = .ok (.bipush 116, 2) := by decide +kernel
theorem dX8_wordOf_65 : decode cX8_wordOf 65 = .ok (.bipush 97, 2) := by decide +kernel
theorem dX8_wordOf_67 : decode cX8_wordOf 67 = .ok (.bipush 107, 2) := by decide +kernel
theorem dX8_wordOf_69 : decode cX8_wordOf 69 = .ok (.bipush 101, 2) := by decide +kernel
theorem dX8_wordOf_71 : decode cX8_wordOf 71 = .ok (.iconst 0, 1) := by decide +kernel
theorem dX8_wordOf_72 : decode cX8_wordOf 72 = .ok (.invokestatic 87, 3) := by decide +kernel
theorem dX8_wordOf_75 : decode cX8_wordOf 75 = .ok (.lcmp, 1) := by decide +kernel
theorem dX8_wordOf_76 : decode cX8_wordOf 76 = .ok (.ifCond .ne 7, 3) := by decide +kernel
theorem dX8_wordOf_79 : decode cX8_wordOf 79 = .ok (.iconst 3, 1) := by decide +kernel
theorem dX8_wordOf_80 : decode cX8_wordOf 80 = .ok (.goto 27, 3) := by decide +kernel
theorem dX8_wordOf_83 : decode cX8_wordOf 83 = .ok (.lload_n 0, 1) := by decide +kernel
theorem dX8_wordOf_84 : decode cX8_wordOf 84 = .ok (.bipush 115, 2) := by decide +kernel
theorem dX8_wordOf_86 : decode cX8_wordOf 86 = .ok (.bipush 116, 2) := by decide +kernel
theorem dX8_wordOf_88 : decode cX8_wordOf 88 = .ok (.bipush 97, 2) := by decide +kernel
theorem dX8_wordOf_90 : decode cX8_wordOf 90 = .ok (.bipush 110, 2) := by decide +kernel
theorem dX8_wordOf_92 : decode cX8_wordOf 92 = .ok (.bipush 100, 2) := by decide +kernel
theorem dX8_wordOf_94 : decode cX8_wordOf 94 = .ok (.invokestatic 87, 3) := by decide +kernel
theorem dX8_wordOf_97 : decode cX8_wordOf 97 = .ok (.lcmp, 1) := by decide +kernel
theorem dX8_wordOf_98 : decode cX8_wordOf 98 = .ok (.ifCond .ne 7, 3) := by decide +kernel
theorem dX8_wordOf_101 : decode cX8_wordOf 101 = .ok (.iconst 4, 1) := by decide +kernel
theorem dX8_wordOf_102 : decode cX8_wordOf 102 = .ok (.goto 5, 3) := by decide +kernel
theorem dX8_wordOf_105 : decode cX8_wordOf 105 = .ok (.bipush (-9), 2) := by decide +kernel
theorem dX8_wordOf_107 : decode cX8_wordOf 107 = .ok (.ireturn, 1) := by decide +kernel
theorem dX8_advances_0 : decode cX8_advances 0 = .ok (.aload_n 0, 1) := by decide +kernel
theorem dX8_advances_1 : decode cX8_advances 1 = .ok (.aload_n 0, 1) := by decide +kernel
theorem dX8_advances_2 : decode cX8_advances 2 = .ok (.getfield 91, 3) := by decide +kernel
theorem dX8_advances_5 : decode cX8_advances 5 = .ok (.invokevirtual 94, 3) := by decide +kernel
theorem dX8_advances_8 : decode cX8_advances 8 = .ok (.bipush 32, 2) := by decide +kernel
theorem dX8_advances_10 : decode cX8_advances 10 = .ok (.if_icmp .ne 16, 3) := by decide +kernel
theorem dX8_advances_13 : decode cX8_advances 13 = .ok (.aload_n 0, 1) := by decide +kernel
theorem dX8_advances_14 : decode cX8_advances 14 = .ok (.dup, 1) := by decide +kernel
theorem dX8_advances_15 : decode cX8_advances 15 = .ok (.getfield 91, 3) := by decide +kernel
theorem dX8_advances_18 : decode cX8_advances 18 = .ok (.iconst 1, 1) := by decide +kernel
theorem dX8_advances_19 : decode cX8_advances 19 = .ok (.iadd, 1) := by decide +kernel
theorem dX8_advances_20 : decode cX8_advances 20 = .ok (.putfield 91, 3) := by decide +kernel
theorem dX8_advances_23 : decode cX8_advances 23 = .ok (.goto (-23), 3) := by decide +kernel
theorem dX8_advances_26 : decode cX8_advances 26 = .ok (.aload_n 0, 1) := by decide +kernel
theorem dX8_advances_27 : decode cX8_advances 27 = .ok (.aload_n 0, 1) := by decide +kernel
theorem dX8_advances_28 : decode cX8_advances 28 = .ok (.getfield 91, 3) := by decide +kernel
theorem dX8_advances_31 : decode cX8_advances 31 = .ok (.putfield 97, 3) := by decide +kernel
theorem dX8_advances_34 : decode cX8_advances 34 = .ok (.aload_n 0, 1) := by decide +kernel
theorem dX8_advances_35 : decode cX8_advances 35 = .ok (.aload_n 0, 1) := by decide +kernel
theorem dX8_advances_36 : decode cX8_advances 36 = .ok (.getfield 91, 3) := by decide +kernel
theorem dX8_advances_39 : decode cX8_advances 39 = .ok (.invokevirtual 94, 3) := by decide +kernel
theorem dX8_advances_42 : decode cX8_advances 42 = .ok (.istore_n 1, 1) := by decide +kernel
theorem dX8_advances_43 : decode cX8_advances 43 = .ok (.iload_n 1, 1) := by decide +kernel
theorem dX8_advances_44 : decode cX8_advances 44 = .ok (.ifCond .ge 11, 3) := by decide +kernel
theorem dX8_advances_47 : decode cX8_advances 47 = .ok (.aload_n 0, 1) := by decide +kernel
theorem dX8_advances_48 : decode cX8_advances 48 = .ok (.iconst 0, 1) := by decide +kernel
theorem dX8_advances_49 : decode cX8_advances 49 = .ok (.putfield 100, 3) := by decide +kernel
theorem dX8_advances_52 : decode cX8_advances 52 = .ok (.goto 258, 3) := by decide +kernel
theorem dX8_advances_55 : decode cX8_advances 55 = .ok (.iload_n 1, 1) := by decide +kernel
theorem dX8_advances_56 : decode cX8_advances 56 = .ok (.bipush 97, 2) := by decide +kernel
theorem dX8_advances_58 : decode cX8_advances 58 = .ok (.bipush 122, 2) := by decide +kernel
theorem dX8_advances_60 : decode cX8_advances 60 = .ok (.invokestatic 64, 3) := by decide +kernel
theorem dX8_advances_63 : decode cX8_advances 63 = .ok (.ifCond .eq 96, 3) := by decide +kernel
theorem dX8_advances_66 : decode cX8_advances 66 = .ok (.lconst 0, 1) := by decide +kernel
theorem dX8_advances_67 : decode cX8_advances 67 = .ok (.lstore_n 2, 1) := by decide +kernel
theorem dX8_advances_68 : decode cX8_advances 68 = .ok (.aload_n 0, 1) := by decide +kernel
theorem dX8_advances_69 : decode cX8_advances 69 = .ok (.aload_n 0, 1) := by decide +kernel
theorem dX8_advances_70 : decode cX8_advances 70 = .ok (.getfield 91, 3) := by decide +kernel
theorem dX8_advances_73 : decode cX8_advances 73 = .ok (.invokevirtual 94, 3) := by decide +kernel
theorem dX8_advances_76 : decode cX8_advances 76 = .ok (.bipush 97, 2) := by decide +kernel
theorem dX8_advances_78 : decode cX8_advances 78 = .ok (.bipush 122, 2) := by decide +kernel
theorem dX8_advances_80 : decode cX8_advances 80 = .ok (.invokestatic 64, 3) := by decide +kernel
theorem dX8_advances_83 : decode cX8_advances 83 = .ok (.ifCond .eq 47, 3) := by decide +kernel
theorem dX8_advances_86 : decode cX8_advances 86 = .ok (.aload_n 0, 1) := by decide +kernel
theorem dX8_advances_87 : decode cX8_advances 87 = .ok (.getfield 91, 3) := by decide +kernel
theorem dX8_advances_90 : decode cX8_advances 90 = .ok (.aload_n 0, 1) := by decide +kernel
theorem dX8_advances_91 : decode cX8_advances 91 = .ok (.getfield 97, 3) := by decide +kernel
theorem dX8_advances_94 : decode cX8_advances 94 = .ok (.isub, 1) := by decide +kernel
theorem dX8_advances_95 : decode cX8_advances 95 = .ok (.bipush 6, 2) := by decide +kernel
theorem dX8_advances_97 : decode cX8_advances 97 = .ok (.if_icmp .ge 18, 3) := by decide +kernel
theorem dX8_advances_100 : decode cX8_advances 100 = .ok (.lload_n 2, 1) := by decide +kernel
theorem dX8_advances_101 : decode cX8_advances 101 = .ok (.aload_n 0, 1) := by decide +kernel
theorem dX8_advances_102 : decode cX8_advances 102 = .ok (.aload_n 0, 1) := by decide +kernel
theorem dX8_advances_103 : decode cX8_advances 103 = .ok (.getfield 91, 3) := by decide +kernel
theorem dX8_advances_106 : decode cX8_advances 106 = .ok (.invokevirtual 94, 3) := by decide +kernel
theorem dX8_advances_109 : decode cX8_advances 109 = .ok (.invokestatic 83, 3) := by decide +kernel
theorem dX8_advances_112 : decode cX8_advances 112 = .ok (.goto 4, 3) := by decide +kernel
theorem dX8_advances_115 : decode cX8_advances 115 = .ok (.lload_n 2, 1) := by decide +kernel
theorem dX8_advances_116 : decode cX8_advances 116 = .ok (.lstore_n 2, 1) := by decide +kernel
theorem dX8_advances_117 : decode cX8_advances 117 = .ok (.aload_n 0, 1) := by decide +kernel
theorem dX8_advances_118 : decode cX8_advances 118 = .ok (.dup, 1) := by decide +kernel
theorem dX8_advances_119 : decode cX8_advances 119 = .ok (.getfield 91, 3) := by decide +kernel
theorem dX8_advances_122 : decode cX8_advances 122 = .ok (.iconst 1, 1) := by decide +kernel
theorem dX8_advances_123 : decode cX8_advances 123 = .ok (.iadd, 1) := by decide +kernel
theorem dX8_advances_124 : decode cX8_advances 124 = .ok (.putfield 91, 3) := by decide +kernel
theorem dX8_advances_127 : decode cX8_advances 127 = .ok (.goto (-59), 3) := by decide +kernel
theorem dX8_advances_130 : decode cX8_advances 130 = .ok (.aload_n 0, 1) := by decide +kernel
theorem dX8_advances_131 : decode cX8_advances 131 = .ok (.lload_n 2, 1) := by decide +kernel
theorem dX8_advances_132 : decode cX8_advances 132 = .ok (.invokestatic 103, 3) := by decide +kernel
theorem dX8_advances_135 : decode cX8_advances 135 = .ok (.putfield 107, 3) := by decide +kernel
theorem dX8_advances_138 : decode cX8_advances 138 = .ok (.aload_n 0, 1) := by decide +kernel
theorem dX8_advances_139 : decode cX8_advances 139 = .ok (.aload_n 0, 1) := by decide +kernel
theorem dX8_advances_140 : decode cX8_advances 140 = .ok (.getfield 107, 3) := by decide +kernel
theorem dX8_advances_143 : decode cX8_advances 143 = .ok (.bipush (-9), 2) := by decide +kernel
theorem dX8_advances_145 : decode cX8_advances 145 = .ok (.if_icmp .ne 7, 3) := by decide +kernel
theorem dX8_advances_148 : decode cX8_advances 148 = .ok (.iconst 4, 1) := by decide +kernel
theorem dX8_advances_149 : decode cX8_advances 149 = .ok (.goto 4, 3) := by decide +kernel
theorem dX8_advances_152 : decode cX8_advances 152 = .ok (.iconst 1, 1) := by decide +kernel
