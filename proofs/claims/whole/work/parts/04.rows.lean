set_option maxRecDepth 20000 in
theorem ggX6_init_X0_init : GoodIn wsX6_init wsX0_init := goodIn_r _ [32, 33, 2, 3, 34, 35, 36, 37, 38, 39, 6, 40, 41, 42, 43, 44, 45, 46, 47, 48, 49, 50, 83, 84, 85, 86, 87, 88, 89, 90] (by decide +kernel) (by decide +kernel)
set_option maxRecDepth 20000 in
theorem gX6_init_X0_init : GoodIn wsX6_init (wsX0_init) := ggX6_init_X0_init
set_option maxRecDepth 20000 in
theorem ggX6_init_X3_init : GoodIn wsX6_init wsX3_init := goodIn_r _ [53, 54, 2, 3, 55, 56, 5, 6, 57, 31, 32, 33, 34, 35, 36, 37, 38, 39, 40, 41, 42, 43, 44, 45, 46, 47, 48, 49, 50, 99, 100, 101, 83, 84, 85, 86, 87, 88, 89, 90] (by decide +kernel) (by decide +kernel)
set_option maxRecDepth 20000 in
theorem gX6_init_X3_init : GoodIn wsX6_init (wsX3_init) := ggX6_init_X3_init
set_option maxRecDepth 20000 in
theorem ggX6_init_X2_init : GoodIn wsX6_init wsX2_init := goodIn_r _ [60, 61, 2, 3, 62, 63, 64, 65, 5, 6, 66, 31, 32, 33, 34, 35, 36, 37, 38, 39, 40, 41, 42, 43, 44, 45, 46, 47, 48, 49, 50, 102, 103, 83, 84, 85, 86, 87, 88, 89, 90] (by decide +kernel) (by decide +kernel)
set_option maxRecDepth 20000 in
theorem gX6_init_X2_init : GoodIn wsX6_init (wsX2_init) := ggX6_init_X2_init
set_option maxRecDepth 20000 in
theorem ggX6_init_X1_init : GoodIn wsX6_init wsX1_init := goodIn_r _ [68, 69, 2, 3] (by decide +kernel) (by decide +kernel)
set_option maxRecDepth 20000 in
theorem gX6_init_X1_init_n35 : GoodIn wsX6_init (wsX1_init) := ggX6_init_X1_init
set_option maxRecDepth 20000 in
theorem ggX6_init_X5_init : GoodIn wsX6_init wsX5_init := goodIn_r _ [71, 72, 2, 3, 34, 73, 74, 75, 109, 110, 111, 112, 113, 114, 115, 116, 117] (by decide +kernel) (by decide +kernel)
set_option maxRecDepth 20000 in
theorem gX6_init_X5_init_n42 : GoodIn wsX6_init (wsX5_init) := ggX6_init_X5_init
set_option maxRecDepth 20000 in
theorem ggX6_init_X4_init : GoodIn wsX6_init wsX4_init := goodIn_r _ [78, 79, 2, 3, 80, 81, 34, 82, 118, 119] (by decide +kernel) (by decide +kernel)
set_option maxRecDepth 20000 in
theorem gX6_init_X4_init : GoodIn wsX6_init (wsX4_init) := ggX6_init_X4_init
theorem dX6_init_0 : decode cX6_init 0 = .ok (.aload_n 0, 1) := by decide +kernel
theorem dX6_init_1 : decode cX6_init 1 = .ok (.invokespecial 3, 3) := by decide +kernel
theorem dX6_init_4 : decode cX6_init 4 = .ok (.aload_n 0, 1) := by decide +kernel
theorem dX6_init_5 : decode cX6_init 5 = .ok (.new 9, 3) := by decide +kernel
theorem dX6_init_8 : decode cX6_init 8 = .ok (.dup, 1) := by decide +kernel
theorem dX6_init_9 : decode cX6_init 9 = .ok (.invokespecial 11, 3) := by decide +kernel
theorem dX6_init_12 : decode cX6_init 12 = .ok (.putfield 12, 3) := by decide +kernel
theorem dX6_init_15 : decode cX6_init 15 = .ok (.aload_n 0, 1) := by decide +kernel
theorem dX6_init_16 : decode cX6_init 16 = .ok (.new 9, 3) := by decide +kernel
theorem dX6_init_19 : decode cX6_init 19 = .ok (.dup, 1) := by decide +kernel
theorem dX6_init_20 : decode cX6_init 20 = .ok (.invokespecial 11, 3) := by decide +kernel
theorem dX6_init_23 : decode cX6_init 23 = .ok (.putfield 16, 3) := by decide +kernel
theorem dX6_init_26 : decode cX6_init 26 = .ok (.aload_n 0, 1) := by decide +kernel
theorem dX6_init_27 : decode cX6_init 27 = .ok (.new 19, 3) := by decide +kernel
theorem dX6_init_30 : decode cX6_init 30 = .ok (.dup, 1) := by decide +kernel
theorem dX6_init_31 : decode cX6_init 31 = .ok (.invokespecial 21, 3) := by decide +kernel
theorem dX6_init_34 : decode cX6_init 34 = .ok (.putfield 22, 3) := by decide +kernel
theorem dX6_init_37 : decode cX6_init 37 = .ok (.aload_n 0, 1) := by decide +kernel
theorem dX6_init_38 : decode cX6_init 38 = .ok (.new 26, 3) := by decide +kernel
theorem dX6_init_41 : decode cX6_init 41 = .ok (.dup, 1) := by decide +kernel
theorem dX6_init_42 : decode cX6_init 42 = .ok (.invokespecial 28, 3) := by decide +kernel
theorem dX6_init_45 : decode cX6_init 45 = .ok (.putfield 29, 3) := by decide +kernel
theorem dX6_init_48 : decode cX6_init 48 = .ok (.aload_n 0, 1) := by decide +kernel
theorem dX6_init_49 : decode cX6_init 49 = .ok (.new 33, 3) := by decide +kernel
theorem dX6_init_52 : decode cX6_init 52 = .ok (.dup, 1) := by decide +kernel
theorem dX6_init_53 : decode cX6_init 53 = .ok (.invokespecial 35, 3) := by decide +kernel
theorem dX6_init_56 : decode cX6_init 56 = .ok (.putfield 36, 3) := by decide +kernel
theorem dX6_init_59 : decode cX6_init 59 = .ok (.aload_n 0, 1) := by decide +kernel
theorem dX6_init_60 : decode cX6_init 60 = .ok (.new 40, 3) := by decide +kernel
theorem dX6_init_63 : decode cX6_init 63 = .ok (.dup, 1) := by decide +kernel
theorem dX6_init_64 : decode cX6_init 64 = .ok (.invokespecial 42, 3) := by decide +kernel
theorem dX6_init_67 : decode cX6_init 67 = .ok (.putfield 43, 3) := by decide +kernel
theorem dX6_init_70 : decode cX6_init 70 = .ok (.aload_n 0, 1) := by decide +kernel
theorem dX6_init_71 : decode cX6_init 71 = .ok (.new 47, 3) := by decide +kernel
theorem dX6_init_74 : decode cX6_init 74 = .ok (.dup, 1) := by decide +kernel
theorem dX6_init_75 : decode cX6_init 75 = .ok (.invokespecial 49, 3) := by decide +kernel
theorem dX6_init_78 : decode cX6_init 78 = .ok (.putfield 50, 3) := by decide +kernel
theorem dX6_init_81 : decode cX6_init 81 = .ok (.aload_n 0, 1) := by decide +kernel
theorem dX6_init_82 : decode cX6_init 82 = .ok (.lconst 0, 1) := by decide +kernel
theorem dX6_init_83 : decode cX6_init 83 = .ok (.putfield 54, 3) := by decide +kernel
theorem dX6_init_86 : decode cX6_init 86 = .ok (.return_, 1) := by decide +kernel
set_option maxRecDepth 20000 in
theorem ggX6_write_X5_append : GoodIn wsX6_write wsX5_append := goodIn_r _ [6, 7, 8, 17, 18, 19, 20, 21, 22, 23, 24, 25] (by decide +kernel) (by decide +kernel)
set_option maxRecDepth 20000 in
theorem gX6_write_X5_append : GoodIn wsX6_write (wsV RX6 58 RX5 yX5_append wsX5_append) := goodIn_app (goodIn_of _ (by decide +kernel)) ggX6_write_X5_append
theorem dX6_write_0 : decode cX6_write 0 = .ok (.iload_n 1, 1) := by decide +kernel
theorem dX6_write_1 : decode cX6_write 1 = .ok (.ifCond .lt 10, 3) := by decide +kernel
theorem dX6_write_4 : decode cX6_write 4 = .ok (.iload_n 1, 1) := by decide +kernel
theorem dX6_write_5 : decode cX6_write 5 = .ok (.sipush 255, 3) := by decide +kernel
theorem dX6_write_8 : decode cX6_write 8 = .ok (.if_icmp .le 6, 3) := by decide +kernel
theorem dX6_write_11 : decode cX6_write 11 = .ok (.bipush (-3), 2) := by decide +kernel
theorem dX6_write_13 : decode cX6_write 13 = .ok (.ireturn, 1) := by decide +kernel
theorem dX6_write_14 : decode cX6_write 14 = .ok (.aload_n 0, 1) := by decide +kernel
theorem dX6_write_15 : decode cX6_write 15 = .ok (.getfield 43, 3) := by decide +kernel
theorem dX6_write_18 : decode cX6_write 18 = .ok (.iload_n 1, 1) := by decide +kernel
theorem dX6_write_19 : decode cX6_write 19 = .ok (.invokevirtual 58, 3) := by decide +kernel
theorem dX6_write_22 : decode cX6_write 22 = .ok (.ifCond .eq 13, 3) := by decide +kernel
theorem dX6_write_25 : decode cX6_write 25 = .ok (.aload_n 0, 1) := by decide +kernel
theorem dX6_write_26 : decode cX6_write 26 = .ok (.getfield 43, 3) := by decide +kernel
theorem dX6_write_29 : decode cX6_write 29 = .ok (.getfield 62, 3) := by decide +kernel
theorem dX6_write_32 : decode cX6_write 32 = .ok (.goto 5, 3) := by decide +kernel
theorem dX6_write_35 : decode cX6_write 35 = .ok (.bipush (-5), 2) := by decide +kernel
theorem dX6_write_37 : decode cX6_write 37 = .ok (.ireturn, 1) := by decide +kernel
set_option maxRecDepth 20000 in
theorem ggX6_erase_X5_clear : GoodIn wsX6_erase wsX5_clear := goodIn_r _ [6, 7, 16, 17, 18, 19, 20, 21, 22, 23, 24] (by decide +kernel) (by decide +kernel)
set_option maxRecDepth 20000 in
theorem gX6_erase_X5_clear : GoodIn wsX6_erase (wsV RX6 66 RX5 yX5_clear wsX5_clear) := goodIn_app (goodIn_of _ (by decide +kernel)) ggX6_erase_X5_clear
theorem dX6_erase_0 : decode cX6_erase 0 = .ok (.aload_n 0, 1) := by decide +kernel
theorem dX6_erase_1 : decode cX6_erase 1 = .ok (.getfield 43, 3) := by decide +kernel
theorem dX6_erase_4 : decode cX6_erase 4 = .ok (.invokevirtual 66, 3) := by decide +kernel
theorem dX6_erase_7 : decode cX6_erase 7 = .ok (.ireturn, 1) := by decide +kernel
set_option maxRecDepth 20000 in
theorem ggX6_fault_X5_faultPlace : GoodIn wsX6_fault wsX5_faultPlace := goodIn_r _ [7, 8, 9, 10, 11, 12, 13, 14, 15, 6, 16, 17, 18, 19, 20, 21, 22, 23, 24, 25, 26, 27, 28, 29, 30, 31, 32, 33, 34, 35, 36, 37, 38, 39, 40, 41, 42, 43, 44, 45, 46, 47, 48, 49, 50, 51, 52, 53, 54, 55, 56, 57, 58, 59, 60, 61, 62, 63, 64, 65, 66, 67, 68, 69, 70, 71, 72, 73, 74, 75, 76, 77, 78, 79, 80, 81, 82, 83, 84, 85, 86, 87, 88, 89, 90, 91, 92, 93, 94, 95, 96, 97, 98, 99, 100, 117, 118, 119, 120, 121, 122, 123, 124, 125] (by decide +kernel) (by decide +kernel)
set_option maxRecDepth 20000 in
theorem gX6_fault_X5_faultPlace : GoodIn wsX6_fault (wsV RX6 73 RX5 yX5_faultPlace wsX5_faultPlace) := goodIn_app (goodIn_of _ (by decide +kernel)) ggX6_fault_X5_faultPlace
theorem dX6_fault_0 : decode cX6_fault 0 = .ok (.aload_n 0, 1) := by decide +kernel
theorem dX6_fault_1 : decode cX6_fault 1 = .ok (.getfield 43, 3) := by decide +kernel
theorem dX6_fault_4 : decode cX6_fault 4 = .ok (.aload_n 0, 1) := by decide +kernel
theorem dX6_fault_5 : decode cX6_fault 5 = .ok (.getfield 12, 3) := by decide +kernel
theorem dX6_fault_8 : decode cX6_fault 8 = .ok (.getfield 70, 3) := by decide +kernel
theorem dX6_fault_11 : decode cX6_fault 11 = .ok (.invokevirtual 73, 3) := by decide +kernel
theorem dX6_fault_14 : decode cX6_fault 14 = .ok (.ireturn, 1) := by decide +kernel
set_option maxRecDepth 20000 in
theorem ggX6_read_X5_faultPlace : GoodIn wsX6_read wsX5_faultPlace := goodIn_r _ [9, 10, 11, 12, 13, 14, 15, 16, 17, 8, 18, 19, 20, 21, 22, 23, 24, 25, 26, 27, 28, 29, 30, 31, 32, 33, 34, 35, 36, 37, 38, 39, 40, 41, 42, 43, 44, 45, 46, 47, 48, 49, 50, 51, 52, 53, 54, 55, 56, 57, 58, 59, 60, 61, 62, 63, 64, 65, 66, 67, 68, 69, 70, 71, 72, 73, 74, 75, 76, 77, 78, 79, 80, 81, 82, 83, 84, 85, 86, 87, 88, 89, 90, 91, 92, 93, 94, 95, 96, 97, 98, 99, 100, 101, 102, 216, 217, 218, 219, 220, 221, 222, 223, 224] (by decide +kernel) (by decide +kernel)
set_option maxRecDepth 20000 in
theorem gX6_read_X5_faultPlace : GoodIn wsX6_read (wsV RX6 73 RX5 yX5_faultPlace wsX5_faultPlace) := goodIn_app (goodIn_of _ (by decide +kernel)) ggX6_read_X5_faultPlace
set_option maxRecDepth 20000 in
theorem ggX6_read_X5_perform : GoodIn wsX6_read wsX5_perform := goodIn_r _ [106, 12, 19, 99, 100, 101, 8, 102, 98, 107, 108, 109, 110, 111, 112, 113, 114, 115, 116, 117, 118, 119, 120, 121, 122, 123, 124, 125, 126, 127, 128, 129, 130, 131, 132, 133, 134, 135, 136, 137, 138, 139, 140, 141, 142, 143, 144, 145, 146, 147, 148, 149, 150, 151, 152, 153, 154, 155, 156, 157, 158, 159, 160, 161, 162, 163, 164, 165, 166, 167, 168, 169, 170, 171, 172, 173, 174, 175, 176, 177, 178, 179, 180, 181, 182, 183, 216, 217, 218, 219, 220, 221, 222, 223, 224, 208, 209, 210, 211, 212, 213, 214, 215] (by decide +kernel) (by decide +kernel)
set_option maxRecDepth 20000 in
theorem gX6_read_X5_perform : GoodIn wsX6_read (wsV RX6 77 RX5 yX5_perform wsX5_perform) := goodIn_app (goodIn_of _ (by decide +kernel)) ggX6_read_X5_perform
set_option maxRecDepth 20000 in
theorem ggX6_read_X5_clear : GoodIn wsX6_read wsX5_clear := goodIn_r _ [187, 28, 216, 217, 218, 219, 220, 221, 222, 223, 224] (by decide +kernel) (by decide +kernel)
set_option maxRecDepth 20000 in
theorem gX6_read_X5_clear : GoodIn wsX6_read (wsV RX6 66 RX5 yX5_clear wsX5_clear) := goodIn_app (goodIn_of _ (by decide +kernel)) ggX6_read_X5_clear
set_option maxRecDepth 20000 in
theorem ggX6_read_X3_forget : GoodIn wsX6_read wsX3_forget := goodIn_r _ [192, 193, 225, 226, 227] (by decide +kernel) (by decide +kernel)
set_option maxRecDepth 20000 in
theorem gX6_read_X3_forget : GoodIn wsX6_read (wsV RX6 81 RX3 yX3_forget wsX3_forget) := goodIn_app (goodIn_of _ (by decide +kernel)) ggX6_read_X3_forget
set_option maxRecDepth 20000 in
theorem ggX6_read_X2_forget : GoodIn wsX6_read wsX2_forget := goodIn_r _ [198, 199, 228, 229] (by decide +kernel) (by decide +kernel)
set_option maxRecDepth 20000 in
theorem gX6_read_X2_forget : GoodIn wsX6_read (wsV RX6 84 RX2 yX2_forget wsX2_forget) := goodIn_app (goodIn_of _ (by decide +kernel)) ggX6_read_X2_forget
theorem dX6_read_0 : decode cX6_read 0 = .ok (.aload_n 0, 1) := by decide +kernel
theorem dX6_read_1 : decode cX6_read 1 = .ok (.getfield 43, 3) := by decide +kernel
theorem dX6_read_4 : decode cX6_read 4 = .ok (.aload_n 0, 1) := by decide +kernel
theorem dX6_read_5 : decode cX6_read 5 = .ok (.getfield 12, 3) := by decide +kernel
theorem dX6_read_8 : decode cX6_read 8 = .ok (.getfield 70, 3) := by decide +kernel
theorem dX6_read_11 : decode cX6_read 11 = .ok (.invokevirtual 73, 3) := by decide +kernel
theorem dX6_read_14 : decode cX6_read 14 = .ok (.iconst (-1), 1) := by decide +kernel
theorem dX6_read_15 : decode cX6_read 15 = .ok (.if_icmp .eq 6, 3) := by decide +kernel
theorem dX6_read_18 : decode cX6_read 18 = .ok (.bipush (-4), 2) := by decide +kernel
theorem dX6_read_20 : decode cX6_read 20 = .ok (.ireturn, 1) := by decide +kernel
theorem dX6_read_21 : decode cX6_read 21 = .ok (.aload_n 0, 1) := by decide +kernel
theorem dX6_read_22 : decode cX6_read 22 = .ok (.getfield 43, 3) := by decide +kernel
theorem dX6_read_25 : decode cX6_read 25 = .ok (.aload_n 0, 1) := by decide +kernel
theorem dX6_read_26 : decode cX6_read 26 = .ok (.getfield 12, 3) := by decide +kernel
theorem dX6_read_29 : decode cX6_read 29 = .ok (.invokevirtual 77, 3) := by decide +kernel
theorem dX6_read_32 : decode cX6_read 32 = .ok (.aload_n 0, 1) := by decide +kernel
theorem dX6_read_33 : decode cX6_read 33 = .ok (.getfield 43, 3) := by decide +kernel
theorem dX6_read_36 : decode cX6_read 36 = .ok (.invokevirtual 66, 3) := by decide +kernel
theorem dX6_read_39 : decode cX6_read 39 = .ok (.pop, 1) := by decide +kernel
theorem dX6_read_40 : decode cX6_read 40 = .ok (.aload_n 0, 1) := by decide +kernel
theorem dX6_read_41 : decode cX6_read 41 = .ok (.getfield 22, 3) := by decide +kernel
theorem dX6_read_44 : decode cX6_read 44 = .ok (.invokevirtual 81, 3) := by decide +kernel
theorem dX6_read_47 : decode cX6_read 47 = .ok (.aload_n 0, 1) := by decide +kernel
theorem dX6_read_48 : decode cX6_read 48 = .ok (.getfield 29, 3) := by decide +kernel
theorem dX6_read_51 : decode cX6_read 51 = .ok (.invokevirtual 84, 3) := by decide +kernel
theorem dX6_read_54 : decode cX6_read 54 = .ok (.aload_n 0, 1) := by decide +kernel
theorem dX6_read_55 : decode cX6_read 55 = .ok (.getfield 43, 3) := by decide +kernel
theorem dX6_read_58 : decode cX6_read 58 = .ok (.getfield 85, 3) := by decide +kernel
theorem dX6_read_61 : decode cX6_read 61 = .ok (.ireturn, 1) := by decide +kernel
set_option maxRecDepth 20000 in
theorem ggX6_add_X0_inBounds : GoodIn wsX6_add wsX0_inBounds := goodIn_r _ [7, 8, 9, 10, 6, 11, 12, 97, 98, 99, 100, 101, 102, 103, 104] (by decide +kernel) (by decide +kernel)
set_option maxRecDepth 20000 in
theorem gX6_add_X0_inBounds : GoodIn wsX6_add (wsV RX6 88 RX0 yX0_inBounds wsX0_inBounds) := goodIn_app (goodIn_of _ (by decide +kernel)) ggX6_add_X0_inBounds
set_option maxRecDepth 20000 in
theorem ggX6_add_X0_holds : GoodIn wsX6_add wsX0_holds := goodIn_r _ [16, 17, 18, 19, 6, 20, 21, 22, 23, 24, 25, 26, 27, 28, 29, 97, 98, 99, 100, 101, 102, 103, 104] (by decide +kernel) (by decide +kernel)
set_option maxRecDepth 20000 in
theorem gX6_add_X0_holds : GoodIn wsX6_add (wsV RX6 91 RX0 yX0_holds wsX0_holds) := goodIn_app (goodIn_of _ (by decide +kernel)) ggX6_add_X0_holds
set_option maxRecDepth 20000 in
theorem ggX6_add_X3_remember : GoodIn wsX6_add wsX3_remember := goodIn_r _ [34, 35, 36, 37, 38, 39, 40, 41, 42, 43, 33, 44, 45, 46, 47, 48, 6, 49, 21, 50, 12, 51, 22, 52, 53, 54, 55, 24, 56, 57, 58, 59, 60, 61, 105, 106, 107, 97, 98, 99, 100, 101, 102, 103, 104] (by decide +kernel) (by decide +kernel)
set_option maxRecDepth 20000 in
theorem gX6_add_X3_remember : GoodIn wsX6_add (wsV RX6 97 RX3 yX3_remember wsX3_remember) := goodIn_app (goodIn_of _ (by decide +kernel)) ggX6_add_X3_remember
set_option maxRecDepth 20000 in
theorem ggX6_add_X0_putIn : GoodIn wsX6_add wsX0_putIn := goodIn_r _ [65, 21, 22, 51, 66, 14, 15, 6, 16, 17, 18, 19, 20, 23, 24, 25, 26, 27, 28, 29, 67, 68, 69, 70, 71, 72, 50, 52, 73, 74, 75, 76, 77, 78, 79, 80, 81, 82, 83, 84, 85, 86, 87, 88, 53, 97, 98, 99, 100, 101, 102, 103, 104] (by decide +kernel) (by decide +kernel)
set_option maxRecDepth 20000 in
theorem gX6_add_X0_putIn : GoodIn wsX6_add (wsV RX6 100 RX0 yX0_putIn wsX0_putIn) := goodIn_app (goodIn_of _ (by decide +kernel)) ggX6_add_X0_putIn
theorem dX6_add_0 : decode cX6_add 0 = .ok (.aload_n 0, 1) := by decide +kernel
theorem dX6_add_1 : decode cX6_add 1 = .ok (.getfield 12, 3) := by decide +kernel
theorem dX6_add_4 : decode cX6_add 4 = .ok (.iload_n 1, 1) := by decide +kernel
theorem dX6_add_5 : decode cX6_add 5 = .ok (.invokevirtual 88, 3) := by decide +kernel
theorem dX6_add_8 : decode cX6_add 8 = .ok (.ifCond .ne 6, 3) := by decide +kernel
theorem dX6_add_11 : decode cX6_add 11 = .ok (.bipush (-3), 2) := by decide +kernel
theorem dX6_add_13 : decode cX6_add 13 = .ok (.ireturn, 1) := by decide +kernel
theorem dX6_add_14 : decode cX6_add 14 = .ok (.aload_n 0, 1) := by decide +kernel
theorem dX6_add_15 : decode cX6_add 15 = .ok (.getfield 12, 3) := by decide +kernel
theorem dX6_add_18 : decode cX6_add 18 = .ok (.iload_n 1, 1) := by decide +kernel
theorem dX6_add_19 : decode cX6_add 19 = .ok (.invokevirtual 91, 3) := by decide +kernel
theorem dX6_add_22 : decode cX6_add 22 = .ok (.ifCond .eq 6, 3) := by decide +kernel
theorem dX6_add_25 : decode cX6_add 25 = .ok (.bipush (-4), 2) := by decide +kernel
theorem dX6_add_27 : decode cX6_add 27 = .ok (.ireturn, 1) := by decide +kernel
theorem dX6_add_28 : decode cX6_add 28 = .ok (.aload_n 0, 1) := by decide +kernel
theorem dX6_add_29 : decode cX6_add 29 = .ok (.getfield 12, 3) := by decide +kernel
theorem dX6_add_32 : decode cX6_add 32 = .ok (.getfield 94, 3) := by decide +kernel
theorem dX6_add_35 : decode cX6_add 35 = .ok (.bipush 96, 2) := by decide +kernel
theorem dX6_add_37 : decode cX6_add 37 = .ok (.if_icmp .lt 6, 3) := by decide +kernel
theorem dX6_add_40 : decode cX6_add 40 = .ok (.bipush (-5), 2) := by decide +kernel
theorem dX6_add_42 : decode cX6_add 42 = .ok (.ireturn, 1) := by decide +kernel
theorem dX6_add_43 : decode cX6_add 43 = .ok (.aload_n 0, 1) := by decide +kernel
theorem dX6_add_44 : decode cX6_add 44 = .ok (.getfield 22, 3) := by decide +kernel
theorem dX6_add_47 : decode cX6_add 47 = .ok (.aload_n 0, 1) := by decide +kernel
theorem dX6_add_48 : decode cX6_add 48 = .ok (.getfield 12, 3) := by decide +kernel
theorem dX6_add_51 : decode cX6_add 51 = .ok (.invokevirtual 97, 3) := by decide +kernel
theorem dX6_add_54 : decode cX6_add 54 = .ok (.aload_n 0, 1) := by decide +kernel
theorem dX6_add_55 : decode cX6_add 55 = .ok (.getfield 12, 3) := by decide +kernel
theorem dX6_add_58 : decode cX6_add 58 = .ok (.iload_n 1, 1) := by decide +kernel
theorem dX6_add_59 : decode cX6_add 59 = .ok (.invokevirtual 100, 3) := by decide +kernel
theorem dX6_add_62 : decode cX6_add 62 = .ok (.aload_n 0, 1) := by decide +kernel
theorem dX6_add_63 : decode cX6_add 63 = .ok (.getfield 12, 3) := by decide +kernel
theorem dX6_add_66 : decode cX6_add 66 = .ok (.getfield 94, 3) := by decide +kernel
theorem dX6_add_69 : decode cX6_add 69 = .ok (.ireturn, 1) := by decide +kernel
set_option maxRecDepth 20000 in
theorem ggX6_remove_X0_inBounds : GoodIn wsX6_remove wsX0_inBounds := goodIn_r _ [7, 8, 9, 10, 6, 11, 12, 103, 104, 105, 106, 107, 108, 109, 110] (by decide +kernel) (by decide +kernel)
set_option maxRecDepth 20000 in
theorem gX6_remove_X0_inBounds : GoodIn wsX6_remove (wsV RX6 88 RX0 yX0_inBounds wsX0_inBounds) := goodIn_app (goodIn_of _ (by decide +kernel)) ggX6_remove_X0_inBounds
set_option maxRecDepth 20000 in
theorem ggX6_remove_X0_holds : GoodIn wsX6_remove wsX0_holds := goodIn_r _ [16, 17, 18, 19, 6, 20, 21, 22, 23, 24, 25, 26, 27, 28, 29, 103, 104, 105, 106, 107, 108, 109, 110] (by decide +kernel) (by decide +kernel)
set_option maxRecDepth 20000 in
theorem gX6_remove_X0_holds : GoodIn wsX6_remove (wsV RX6 91 RX0 yX0_holds wsX0_holds) := goodIn_app (goodIn_of _ (by decide +kernel)) ggX6_remove_X0_holds
set_option maxRecDepth 20000 in
theorem ggX6_remove_X3_remember : GoodIn wsX6_remove wsX3_remember := goodIn_r _ [34, 35, 36, 37, 38, 39, 40, 41, 42, 43, 33, 44, 45, 46, 47, 48, 6, 49, 21, 50, 12, 51, 22, 52, 53, 54, 55, 24, 56, 57, 58, 59, 60, 61, 111, 112, 113, 103, 104, 105, 106, 107, 108, 109, 110] (by decide +kernel) (by decide +kernel)
set_option maxRecDepth 20000 in
theorem gX6_remove_X3_remember : GoodIn wsX6_remove (wsV RX6 97 RX3 yX3_remember wsX3_remember) := goodIn_app (goodIn_of _ (by decide +kernel)) ggX6_remove_X3_remember
set_option maxRecDepth 20000 in
theorem ggX6_remove_X0_takeOut : GoodIn wsX6_remove wsX0_takeOut := goodIn_r _ [65, 21, 22, 52, 51, 66, 14, 15, 6, 16, 17, 18, 19, 20, 23, 24, 25, 26, 27, 28, 29, 67, 68, 69, 70, 71, 72, 50, 73, 74, 75, 76, 77, 78, 79, 80, 81, 82, 83, 84, 85, 86, 87, 88, 54, 89, 90, 91, 92, 53, 93, 94, 103, 104, 105, 106, 107, 108, 109, 110] (by decide +kernel) (by decide +kernel)
set_option maxRecDepth 20000 in
theorem gX6_remove_X0_takeOut : GoodIn wsX6_remove (wsV RX6 104 RX0 yX0_takeOut wsX0_takeOut) := goodIn_app (goodIn_of _ (by decide +kernel)) ggX6_remove_X0_takeOut
theorem dX6_remove_0 : decode cX6_remove 0 = .ok (.aload_n 0, 1) := by decide +kernel
theorem dX6_remove_1 : decode cX6_remove 1 = .ok (.getfield 12, 3) := by decide +kernel
theorem dX6_remove_4 : decode cX6_remove 4 = .ok (.iload_n 1, 1) := by decide +kernel
theorem dX6_remove_5 : decode cX6_remove 5 = .ok (.invokevirtual 88, 3) := by decide +kernel
theorem dX6_remove_8 : decode cX6_remove 8 = .ok (.ifCond .ne 6, 3) := by decide +kernel
theorem dX6_remove_11 : decode cX6_remove 11 = .ok (.bipush (-3), 2) := by decide +kernel
theorem dX6_remove_13 : decode cX6_remove 13 = .ok (.ireturn, 1) := by decide +kernel
theorem dX6_remove_14 : decode cX6_remove 14 = .ok (.aload_n 0, 1) := by decide +kernel
theorem dX6_remove_15 : decode cX6_remove 15 = .ok (.getfield 12, 3) := by decide +kernel
theorem dX6_remove_18 : decode cX6_remove 18 = .ok (.iload_n 1, 1) := by decide +kernel
theorem dX6_remove_19 : decode cX6_remove 19 = .ok (.invokevirtual 91, 3) := by decide +kernel
theorem dX6_remove_22 : decode cX6_remove 22 = .ok (.ifCond .ne 6, 3) := by decide +kernel
theorem dX6_remove_25 : decode cX6_remove 25 = .ok (.bipush (-4), 2) := by decide +kernel
theorem dX6_remove_27 : decode cX6_remove 27 = .ok (.ireturn, 1) := by decide +kernel
theorem dX6_remove_28 : decode cX6_remove 28 = .ok (.aload_n 0, 1) := by decide +kernel
theorem dX6_remove_29 : decode cX6_remove 29 = .ok (.getfield 22, 3) := by decide +kernel
theorem dX6_remove_32 : decode cX6_remove 32 = .ok (.aload_n 0, 1) := by decide +kernel
theorem dX6_remove_33 : decode cX6_remove 33 = .ok (.getfield 12, 3) := by decide +kernel
theorem dX6_remove_36 : decode cX6_remove 36 = .ok (.invokevirtual 97, 3) := by decide +kernel
theorem dX6_remove_39 : decode cX6_remove 39 = .ok (.aload_n 0, 1) := by decide +kernel
theorem dX6_remove_40 : decode cX6_remove 40 = .ok (.getfield 12, 3) := by decide +kernel
theorem dX6_remove_43 : decode cX6_remove 43 = .ok (.iload_n 1, 1) := by decide +kernel
theorem dX6_remove_44 : decode cX6_remove 44 = .ok (.invokevirtual 104, 3) := by decide +kernel
theorem dX6_remove_47 : decode cX6_remove 47 = .ok (.aload_n 0, 1) := by decide +kernel
theorem dX6_remove_48 : decode cX6_remove 48 = .ok (.getfield 12, 3) := by decide +kernel
theorem dX6_remove_51 : decode cX6_remove 51 = .ok (.getfield 94, 3) := by decide +kernel
theorem dX6_remove_54 : decode cX6_remove 54 = .ok (.ireturn, 1) := by decide +kernel
set_option maxRecDepth 20000 in
theorem ggX6_undo_X3_restore : GoodIn wsX6_undo wsX3_restore := goodIn_r _ [7, 8, 9, 10, 11, 12, 6, 13, 14, 15, 16, 17, 18, 19, 20, 21, 22, 23, 24, 25, 26, 27, 28, 29, 30, 31, 32, 33, 34, 35, 36, 37, 38, 47, 48, 49, 50, 51, 52, 53, 54, 55, 56, 57] (by decide +kernel) (by decide +kernel)
set_option maxRecDepth 20000 in
theorem gX6_undo_X3_restore : GoodIn wsX6_undo (wsV RX6 110 RX3 yX3_restore wsX3_restore) := goodIn_app (goodIn_of _ (by decide +kernel)) ggX6_undo_X3_restore
theorem dX6_undo_0 : decode cX6_undo 0 = .ok (.aload_n 0, 1) := by decide +kernel
theorem dX6_undo_1 : decode cX6_undo 1 = .ok (.getfield 22, 3) := by decide +kernel
theorem dX6_undo_4 : decode cX6_undo 4 = .ok (.getfield 107, 3) := by decide +kernel
theorem dX6_undo_7 : decode cX6_undo 7 = .ok (.ifCond .gt 6, 3) := by decide +kernel
theorem dX6_undo_10 : decode cX6_undo 10 = .ok (.bipush (-4), 2) := by decide +kernel
theorem dX6_undo_12 : decode cX6_undo 12 = .ok (.ireturn, 1) := by decide +kernel
theorem dX6_undo_13 : decode cX6_undo 13 = .ok (.aload_n 0, 1) := by decide +kernel
theorem dX6_undo_14 : decode cX6_undo 14 = .ok (.getfield 22, 3) := by decide +kernel
theorem dX6_undo_17 : decode cX6_undo 17 = .ok (.aload_n 0, 1) := by decide +kernel
theorem dX6_undo_18 : decode cX6_undo 18 = .ok (.getfield 12, 3) := by decide +kernel
theorem dX6_undo_21 : decode cX6_undo 21 = .ok (.invokevirtual 110, 3) := by decide +kernel
theorem dX6_undo_24 : decode cX6_undo 24 = .ok (.aload_n 0, 1) := by decide +kernel
theorem dX6_undo_25 : decode cX6_undo 25 = .ok (.getfield 22, 3) := by decide +kernel
theorem dX6_undo_28 : decode cX6_undo 28 = .ok (.getfield 107, 3) := by decide +kernel
theorem dX6_undo_31 : decode cX6_undo 31 = .ok (.ireturn, 1) := by decide +kernel
set_option maxRecDepth 20000 in
theorem ggX6_keep_X2_known : GoodIn wsX6_keep wsX2_known := goodIn_r _ [7, 8, 9, 55, 56] (by decide +kernel) (by decide +kernel)
set_option maxRecDepth 20000 in
theorem gX6_keep_X2_known : GoodIn wsX6_keep (wsV RX6 113 RX2 yX2_known wsX2_known) := goodIn_app (goodIn_of _ (by decide +kernel)) ggX6_keep_X2_known
set_option maxRecDepth 20000 in
theorem ggX6_keep_X2_remember : GoodIn wsX6_keep wsX2_remember := goodIn_r _ [13, 8, 9, 14, 4, 5, 6, 7, 15, 16, 17, 18, 19, 20, 21, 22, 23, 24, 25, 26, 27, 28, 29, 30, 31, 32, 33, 34, 35, 36, 37, 38, 55, 56, 47, 48, 49, 50, 51, 52, 53, 54] (by decide +kernel) (by decide +kernel)
set_option maxRecDepth 20000 in
theorem gX6_keep_X2_remember : GoodIn wsX6_keep (wsV RX6 116 RX2 yX2_remember wsX2_remember) := goodIn_app (goodIn_of _ (by decide +kernel)) ggX6_keep_X2_remember
theorem dX6_keep_0 : decode cX6_keep 0 = .ok (.aload_n 0, 1) := by decide +kernel
theorem dX6_keep_1 : decode cX6_keep 1 = .ok (.getfield 29, 3) := by decide +kernel
theorem dX6_keep_4 : decode cX6_keep 4 = .ok (.iload_n 1, 1) := by decide +kernel
theorem dX6_keep_5 : decode cX6_keep 5 = .ok (.invokevirtual 113, 3) := by decide +kernel
theorem dX6_keep_8 : decode cX6_keep 8 = .ok (.ifCond .ne 6, 3) := by decide +kernel
theorem dX6_keep_11 : decode cX6_keep 11 = .ok (.bipush (-2), 2) := by decide +kernel
theorem dX6_keep_13 : decode cX6_keep 13 = .ok (.ireturn, 1) := by decide +kernel
theorem dX6_keep_14 : decode cX6_keep 14 = .ok (.aload_n 0, 1) := by decide +kernel
theorem dX6_keep_15 : decode cX6_keep 15 = .ok (.getfield 29, 3) := by decide +kernel
theorem dX6_keep_18 : decode cX6_keep 18 = .ok (.iload_n 1, 1) := by decide +kernel
theorem dX6_keep_19 : decode cX6_keep 19 = .ok (.aload_n 0, 1) := by decide +kernel
theorem dX6_keep_20 : decode cX6_keep 20 = .ok (.getfield 12, 3) := by decide +kernel
theorem dX6_keep_23 : decode cX6_keep 23 = .ok (.invokevirtual 116, 3) := by decide +kernel
theorem dX6_keep_26 : decode cX6_keep 26 = .ok (.aload_n 0, 1) := by decide +kernel
theorem dX6_keep_27 : decode cX6_keep 27 = .ok (.getfield 12, 3) := by decide +kernel
theorem dX6_keep_30 : decode cX6_keep 30 = .ok (.getfield 94, 3) := by decide +kernel
theorem dX6_keep_33 : decode cX6_keep 33 = .ok (.ireturn, 1) := by decide +kernel
set_option maxRecDepth 20000 in
theorem ggX6_back_X2_known : GoodIn wsX6_back wsX2_known := goodIn_r _ [8, 9, 10, 67, 68] (by decide +kernel) (by decide +kernel)
set_option maxRecDepth 20000 in
theorem gX6_back_X2_known : GoodIn wsX6_back (wsV RX6 113 RX2 yX2_known wsX2_known) := goodIn_app (goodIn_of _ (by decide +kernel)) ggX6_back_X2_known
set_option maxRecDepth 20000 in
theorem ggX6_back_X2_holds : GoodIn wsX6_back wsX2_holds := goodIn_r _ [14, 10, 15, 5, 6, 7, 8, 9, 67, 68] (by decide +kernel) (by decide +kernel)
set_option maxRecDepth 20000 in
theorem gX6_back_X2_holds : GoodIn wsX6_back (wsV RX6 119 RX2 yX2_holds wsX2_holds) := goodIn_app (goodIn_of _ (by decide +kernel)) ggX6_back_X2_holds
set_option maxRecDepth 20000 in
theorem ggX6_back_X2_restore : GoodIn wsX6_back wsX2_restore := goodIn_r _ [19, 9, 20, 12, 13, 7, 14, 10, 15, 5, 6, 8, 21, 22, 23, 24, 25, 26, 27, 28, 29, 30, 31, 32, 33, 34, 35, 36, 37, 38, 39, 40, 41, 42, 43, 44, 67, 68, 59, 60, 61, 62, 63, 64, 65, 66] (by decide +kernel) (by decide +kernel)
set_option maxRecDepth 20000 in
theorem gX6_back_X2_restore : GoodIn wsX6_back (wsV RX6 120 RX2 yX2_restore wsX2_restore) := goodIn_app (goodIn_of _ (by decide +kernel)) ggX6_back_X2_restore
set_option maxRecDepth 20000 in
theorem ggX6_back_X3_forget : GoodIn wsX6_back wsX3_forget := goodIn_r _ [49, 50, 69, 70, 71] (by decide +kernel) (by decide +kernel)
set_option maxRecDepth 20000 in
theorem gX6_back_X3_forget : GoodIn wsX6_back (wsV RX6 81 RX3 yX3_forget wsX3_forget) := goodIn_app (goodIn_of _ (by decide +kernel)) ggX6_back_X3_forget
theorem dX6_back_0 : decode cX6_back 0 = .ok (.aload_n 0, 1) := by decide +kernel
theorem dX6_back_1 : decode cX6_back 1 = .ok (.getfield 29, 3) := by decide +kernel
theorem dX6_back_4 : decode cX6_back 4 = .ok (.iload_n 1, 1) := by decide +kernel
theorem dX6_back_5 : decode cX6_back 5 = .ok (.invokevirtual 113, 3) := by decide +kernel
theorem dX6_back_8 : decode cX6_back 8 = .ok (.ifCond .ne 6, 3) := by decide +kernel
theorem dX6_back_11 : decode cX6_back 11 = .ok (.bipush (-2), 2) := by decide +kernel
theorem dX6_back_13 : decode cX6_back 13 = .ok (.ireturn, 1) := by decide +kernel
theorem dX6_back_14 : decode cX6_back 14 = .ok (.aload_n 0, 1) := by decide +kernel
theorem dX6_back_15 : decode cX6_back 15 = .ok (.getfield 29, 3) := by decide +kernel
theorem dX6_back_18 : decode cX6_back 18 = .ok (.iload_n 1, 1) := by decide +kernel
theorem dX6_back_19 : decode cX6_back 19 = .ok (.invokevirtual 119, 3) := by decide +kernel
theorem dX6_back_22 : decode cX6_back 22 = .ok (.ifCond .ne 6, 3) := by decide +kernel
theorem dX6_back_25 : decode cX6_back 25 = .ok (.bipush (-4), 2) := by decide +kernel
theorem dX6_back_27 : decode cX6_back 27 = .ok (.ireturn, 1) := by decide +kernel
theorem dX6_back_28 : decode cX6_back 28 = .ok (.aload_n 0, 1) := by decide +kernel
theorem dX6_back_29 : decode cX6_back 29 = .ok (.getfield 29, 3) := by decide +kernel
theorem dX6_back_32 : decode cX6_back 32 = .ok (.iload_n 1, 1) := by decide +kernel
theorem dX6_back_33 : decode cX6_back 33 = .ok (.aload_n 0, 1) := by decide +kernel
theorem dX6_back_34 : decode cX6_back 34 = .ok (.getfield 12, 3) := by decide +kernel
theorem dX6_back_37 : decode cX6_back 37 = .ok (.invokevirtual 120, 3) := by decide +kernel
theorem dX6_back_40 : decode cX6_back 40 = .ok (.aload_n 0, 1) := by decide +kernel
theorem dX6_back_41 : decode cX6_back 41 = .ok (.getfield 22, 3) := by decide +kernel
theorem dX6_back_44 : decode cX6_back 44 = .ok (.invokevirtual 81, 3) := by decide +kernel
theorem dX6_back_47 : decode cX6_back 47 = .ok (.aload_n 0, 1) := by decide +kernel
theorem dX6_back_48 : decode cX6_back 48 = .ok (.getfield 12, 3) := by decide +kernel
theorem dX6_back_51 : decode cX6_back 51 = .ok (.getfield 94, 3) := by decide +kernel
theorem dX6_back_54 : decode cX6_back 54 = .ok (.ireturn, 1) := by decide +kernel
set_option maxRecDepth 20000 in
theorem ggX6_has_X0_inBounds : GoodIn wsX6_has wsX0_inBounds := goodIn_r _ [6, 7, 8, 9, 5, 10, 11, 37, 38, 39, 40, 41, 42, 43, 44] (by decide +kernel) (by decide +kernel)
set_option maxRecDepth 20000 in
theorem gX6_has_X0_inBounds : GoodIn wsX6_has (wsV RX6 88 RX0 yX0_inBounds wsX0_inBounds) := goodIn_app (goodIn_of _ (by decide +kernel)) ggX6_has_X0_inBounds
set_option maxRecDepth 20000 in
theorem ggX6_has_X0_holds : GoodIn wsX6_has wsX0_holds := goodIn_r _ [15, 16, 17, 18, 5, 19, 20, 21, 22, 23, 24, 25, 26, 27, 28, 37, 38, 39, 40, 41, 42, 43, 44] (by decide +kernel) (by decide +kernel)
set_option maxRecDepth 20000 in
theorem gX6_has_X0_holds : GoodIn wsX6_has (wsV RX6 91 RX0 yX0_holds wsX0_holds) := goodIn_app (goodIn_of _ (by decide +kernel)) ggX6_has_X0_holds
theorem dX6_has_0 : decode cX6_has 0 = .ok (.aload_n 0, 1) := by decide +kernel
theorem dX6_has_1 : decode cX6_has 1 = .ok (.getfield 12, 3) := by decide +kernel
theorem dX6_has_4 : decode cX6_has 4 = .ok (.iload_n 1, 1) := by decide +kernel
theorem dX6_has_5 : decode cX6_has 5 = .ok (.invokevirtual 88, 3) := by decide +kernel
theorem dX6_has_8 : decode cX6_has 8 = .ok (.ifCond .ne 6, 3) := by decide +kernel
theorem dX6_has_11 : decode cX6_has 11 = .ok (.bipush (-3), 2) := by decide +kernel
theorem dX6_has_13 : decode cX6_has 13 = .ok (.ireturn, 1) := by decide +kernel
theorem dX6_has_14 : decode cX6_has 14 = .ok (.aload_n 0, 1) := by decide +kernel
theorem dX6_has_15 : decode cX6_has 15 = .ok (.getfield 12, 3) := by decide +kernel
theorem dX6_has_18 : decode cX6_has 18 = .ok (.iload_n 1, 1) := by decide +kernel
theorem dX6_has_19 : decode cX6_has 19 = .ok (.invokevirtual 91, 3) := by decide +kernel
theorem dX6_has_22 : decode cX6_has 22 = .ok (.ifCond .eq 7, 3) := by decide +kernel
theorem dX6_has_25 : decode cX6_has 25 = .ok (.iconst 1, 1) := by decide +kernel
theorem dX6_has_26 : decode cX6_has 26 = .ok (.goto 4, 3) := by decide +kernel
theorem dX6_has_29 : decode cX6_has 29 = .ok (.iconst 0, 1) := by decide +kernel
theorem dX6_has_30 : decode cX6_has 30 = .ok (.ireturn, 1) := by decide +kernel
set_option maxRecDepth 20000 in
theorem ggX6_near_X0_inBounds : GoodIn wsX6_near wsX0_inBounds := goodIn_r _ [6, 7, 8, 9, 5, 10, 11, 33, 34, 35, 36, 37, 38, 39, 40] (by decide +kernel) (by decide +kernel)
set_option maxRecDepth 20000 in
theorem gX6_near_X0_inBounds : GoodIn wsX6_near (wsV RX6 88 RX0 yX0_inBounds wsX0_inBounds) := goodIn_app (goodIn_of _ (by decide +kernel)) ggX6_near_X0_inBounds
set_option maxRecDepth 20000 in
theorem ggX6_near_X0_rankOf : GoodIn wsX6_near wsX0_rankOf := goodIn_r _ [15, 16, 17, 18, 19, 20, 33, 34, 35, 36, 37, 38, 39, 40] (by decide +kernel) (by decide +kernel)
set_option maxRecDepth 20000 in
theorem gX6_near_X0_rankOf : GoodIn wsX6_near (wsV RX6 122 RX0 yX0_rankOf wsX0_rankOf) := goodIn_app (goodIn_of _ (by decide +kernel)) ggX6_near_X0_rankOf
set_option maxRecDepth 20000 in
theorem ggX6_near_X0_keyAt : GoodIn wsX6_near wsX0_keyAt := goodIn_r _ [24, 17, 16, 33, 34, 35, 36, 37, 38, 39, 40] (by decide +kernel) (by decide +kernel)
set_option maxRecDepth 20000 in
theorem gX6_near_X0_keyAt : GoodIn wsX6_near (wsV RX6 125 RX0 yX0_keyAt wsX0_keyAt) := goodIn_app (goodIn_of _ (by decide +kernel)) ggX6_near_X0_keyAt
theorem dX6_near_0 : decode cX6_near 0 = .ok (.aload_n 0, 1) := by decide +kernel
theorem dX6_near_1 : decode cX6_near 1 = .ok (.getfield 12, 3) := by decide +kernel
theorem dX6_near_4 : decode cX6_near 4 = .ok (.iload_n 1, 1) := by decide +kernel
theorem dX6_near_5 : decode cX6_near 5 = .ok (.invokevirtual 88, 3) := by decide +kernel
theorem dX6_near_8 : decode cX6_near 8 = .ok (.ifCond .eq 12, 3) := by decide +kernel
theorem dX6_near_11 : decode cX6_near 11 = .ok (.iload_n 2, 1) := by decide +kernel
theorem dX6_near_12 : decode cX6_near 12 = .ok (.ifCond .lt 8, 3) := by decide +kernel
theorem dX6_near_15 : decode cX6_near 15 = .ok (.iload_n 2, 1) := by decide +kernel
theorem dX6_near_16 : decode cX6_near 16 = .ok (.iconst 1, 1) := by decide +kernel
theorem dX6_near_17 : decode cX6_near 17 = .ok (.if_icmp .le 6, 3) := by decide +kernel
theorem dX6_near_20 : decode cX6_near 20 = .ok (.bipush (-3), 2) := by decide +kernel
theorem dX6_near_22 : decode cX6_near 22 = .ok (.ireturn, 1) := by decide +kernel
theorem dX6_near_23 : decode cX6_near 23 = .ok (.iload_n 2, 1) := by decide +kernel
theorem dX6_near_24 : decode cX6_near 24 = .ok (.ifCond .ne 25, 3) := by decide +kernel
theorem dX6_near_27 : decode cX6_near 27 = .ok (.aload_n 0, 1) := by decide +kernel
theorem dX6_near_28 : decode cX6_near 28 = .ok (.getfield 12, 3) := by decide +kernel
theorem dX6_near_31 : decode cX6_near 31 = .ok (.aload_n 0, 1) := by decide +kernel
theorem dX6_near_32 : decode cX6_near 32 = .ok (.getfield 12, 3) := by decide +kernel
theorem dX6_near_35 : decode cX6_near 35 = .ok (.iload_n 1, 1) := by decide +kernel
theorem dX6_near_36 : decode cX6_near 36 = .ok (.iconst 1, 1) := by decide +kernel
theorem dX6_near_37 : decode cX6_near 37 = .ok (.iadd, 1) := by decide +kernel
theorem dX6_near_38 : decode cX6_near 38 = .ok (.invokevirtual 122, 3) := by decide +kernel
theorem dX6_near_41 : decode cX6_near 41 = .ok (.iconst 1, 1) := by decide +kernel
theorem dX6_near_42 : decode cX6_near 42 = .ok (.isub, 1) := by decide +kernel
theorem dX6_near_43 : decode cX6_near 43 = .ok (.invokevirtual 125, 3) := by decide +kernel
theorem dX6_near_46 : decode cX6_near 46 = .ok (.goto 18, 3) := by decide +kernel
theorem dX6_near_49 : decode cX6_near 49 = .ok (.aload_n 0, 1) := by decide +kernel
theorem dX6_near_50 : decode cX6_near 50 = .ok (.getfield 12, 3) := by decide +kernel
theorem dX6_near_53 : decode cX6_near 53 = .ok (.aload_n 0, 1) := by decide +kernel
theorem dX6_near_54 : decode cX6_near 54 = .ok (.getfield 12, 3) := by decide +kernel
theorem dX6_near_57 : decode cX6_near 57 = .ok (.iload_n 1, 1) := by decide +kernel
theorem dX6_near_58 : decode cX6_near 58 = .ok (.invokevirtual 122, 3) := by decide +kernel
theorem dX6_near_61 : decode cX6_near 61 = .ok (.invokevirtual 125, 3) := by decide +kernel
theorem dX6_near_64 : decode cX6_near 64 = .ok (.ireturn, 1) := by decide +kernel
set_option maxRecDepth 20000 in
theorem ggX6_rank_X0_inBounds : GoodIn wsX6_rank wsX0_inBounds := goodIn_r _ [6, 7, 8, 9, 5, 10, 11, 29, 30, 31, 32, 33, 34, 35, 36] (by decide +kernel) (by decide +kernel)
set_option maxRecDepth 20000 in
theorem gX6_rank_X0_inBounds : GoodIn wsX6_rank (wsV RX6 88 RX0 yX0_inBounds wsX0_inBounds) := goodIn_app (goodIn_of _ (by decide +kernel)) ggX6_rank_X0_inBounds
set_option maxRecDepth 20000 in
theorem ggX6_rank_X0_rankOf : GoodIn wsX6_rank wsX0_rankOf := goodIn_r _ [15, 16, 17, 18, 19, 20, 29, 30, 31, 32, 33, 34, 35, 36] (by decide +kernel) (by decide +kernel)
set_option maxRecDepth 20000 in
theorem gX6_rank_X0_rankOf : GoodIn wsX6_rank (wsV RX6 122 RX0 yX0_rankOf wsX0_rankOf) := goodIn_app (goodIn_of _ (by decide +kernel)) ggX6_rank_X0_rankOf
theorem dX6_rank_0 : decode cX6_rank 0 = .ok (.aload_n 0, 1) := by decide +kernel
theorem dX6_rank_1 : decode cX6_rank 1 = .ok (.getfield 12, 3) := by decide +kernel
theorem dX6_rank_4 : decode cX6_rank 4 = .ok (.iload_n 1, 1) := by decide +kernel
theorem dX6_rank_5 : decode cX6_rank 5 = .ok (.invokevirtual 88, 3) := by decide +kernel
theorem dX6_rank_8 : decode cX6_rank 8 = .ok (.ifCond .ne 6, 3) := by decide +kernel
theorem dX6_rank_11 : decode cX6_rank 11 = .ok (.bipush (-3), 2) := by decide +kernel
theorem dX6_rank_13 : decode cX6_rank 13 = .ok (.ireturn, 1) := by decide +kernel
theorem dX6_rank_14 : decode cX6_rank 14 = .ok (.aload_n 0, 1) := by decide +kernel
theorem dX6_rank_15 : decode cX6_rank 15 = .ok (.getfield 12, 3) := by decide +kernel
theorem dX6_rank_18 : decode cX6_rank 18 = .ok (.iload_n 1, 1) := by decide +kernel
theorem dX6_rank_19 : decode cX6_rank 19 = .ok (.invokevirtual 122, 3) := by decide +kernel
theorem dX6_rank_22 : decode cX6_rank 22 = .ok (.ireturn, 1) := by decide +kernel
set_option maxRecDepth 20000 in
theorem ggX6_ranked_X0_keyAt : GoodIn wsX6_ranked wsX0_keyAt := goodIn_r _ [6, 7, 8, 17, 18, 19, 20, 21, 22, 23, 24] (by decide +kernel) (by decide +kernel)
set_option maxRecDepth 20000 in
theorem gX6_ranked_X0_keyAt : GoodIn wsX6_ranked (wsV RX6 125 RX0 yX0_keyAt wsX0_keyAt) := goodIn_app (goodIn_of _ (by decide +kernel)) ggX6_ranked_X0_keyAt
theorem dX6_ranked_0 : decode cX6_ranked 0 = .ok (.iload_n 1, 1) := by decide +kernel
theorem dX6_ranked_1 : decode cX6_ranked 1 = .ok (.ifCond .lt 14, 3) := by decide +kernel
theorem dX6_ranked_4 : decode cX6_ranked 4 = .ok (.iload_n 1, 1) := by decide +kernel
theorem dX6_ranked_5 : decode cX6_ranked 5 = .ok (.aload_n 0, 1) := by decide +kernel
theorem dX6_ranked_6 : decode cX6_ranked 6 = .ok (.getfield 12, 3) := by decide +kernel
theorem dX6_ranked_9 : decode cX6_ranked 9 = .ok (.getfield 94, 3) := by decide +kernel
theorem dX6_ranked_12 : decode cX6_ranked 12 = .ok (.if_icmp .lt 6, 3) := by decide +kernel
theorem dX6_ranked_15 : decode cX6_ranked 15 = .ok (.bipush (-2), 2) := by decide +kernel
theorem dX6_ranked_17 : decode cX6_ranked 17 = .ok (.ireturn, 1) := by decide +kernel
theorem dX6_ranked_18 : decode cX6_ranked 18 = .ok (.aload_n 0, 1) := by decide +kernel
theorem dX6_ranked_19 : decode cX6_ranked 19 = .ok (.getfield 12, 3) := by decide +kernel
theorem dX6_ranked_22 : decode cX6_ranked 22 = .ok (.iload_n 1, 1) := by decide +kernel
theorem dX6_ranked_23 : decode cX6_ranked 23 = .ok (.invokevirtual 125, 3) := by decide +kernel
theorem dX6_ranked_26 : decode cX6_ranked 26 = .ok (.ireturn, 1) := by decide +kernel
set_option maxRecDepth 20000 in
theorem ggX6_search_X0_inBounds : GoodIn wsX6_search wsX0_inBounds := goodIn_r _ [7, 8, 9, 10, 6, 11, 12, 88, 89, 90, 91, 92, 93, 94, 95] (by decide +kernel) (by decide +kernel)
set_option maxRecDepth 20000 in
theorem gX6_search_X0_inBounds : GoodIn wsX6_search (wsV RX6 88 RX0 yX0_inBounds wsX0_inBounds) := goodIn_app (goodIn_of _ (by decide +kernel)) ggX6_search_X0_inBounds
set_option maxRecDepth 20000 in
theorem ggX6_search_X1_seek : GoodIn wsX6_search wsX1_seek := goodIn_r _ [17, 18, 19, 20, 21, 22, 23, 16, 24, 25, 26, 27, 28, 6, 29, 12, 30, 31, 32, 33, 34, 35, 36, 37, 38, 39, 40, 41, 42, 43, 44, 45, 46, 47, 48, 49, 50, 51, 52, 53, 54, 55, 56, 57, 58, 59, 60, 61, 62, 63, 64, 65, 66, 67, 68, 69, 70, 71, 72, 73, 74, 83, 84, 85, 86, 87, 88, 89, 90, 91, 92, 93, 94, 95] (by decide +kernel) (by decide +kernel)
set_option maxRecDepth 20000 in
theorem gX6_search_X1_seek : GoodIn wsX6_search (wsV RX6 128 RX1 yX1_seek wsX1_seek) := goodIn_app (goodIn_of _ (by decide +kernel)) ggX6_search_X1_seek
theorem dX6_search_0 : decode cX6_search 0 = .ok (.aload_n 0, 1) := by decide +kernel
theorem dX6_search_1 : decode cX6_search 1 = .ok (.getfield 12, 3) := by decide +kernel
theorem dX6_search_4 : decode cX6_search 4 = .ok (.iload_n 1, 1) := by decide +kernel
theorem dX6_search_5 : decode cX6_search 5 = .ok (.invokevirtual 88, 3) := by decide +kernel
theorem dX6_search_8 : decode cX6_search 8 = .ok (.ifCond .eq 12, 3) := by decide +kernel
theorem dX6_search_11 : decode cX6_search 11 = .ok (.iload_n 2, 1) := by decide +kernel
theorem dX6_search_12 : decode cX6_search 12 = .ok (.ifCond .lt 8, 3) := by decide +kernel
theorem dX6_search_15 : decode cX6_search 15 = .ok (.iload_n 2, 1) := by decide +kernel
theorem dX6_search_16 : decode cX6_search 16 = .ok (.iconst 4, 1) := by decide +kernel
theorem dX6_search_17 : decode cX6_search 17 = .ok (.if_icmp .le 6, 3) := by decide +kernel
theorem dX6_search_20 : decode cX6_search 20 = .ok (.bipush (-3), 2) := by decide +kernel
theorem dX6_search_22 : decode cX6_search 22 = .ok (.ireturn, 1) := by decide +kernel
theorem dX6_search_23 : decode cX6_search 23 = .ok (.aload_n 0, 1) := by decide +kernel
theorem dX6_search_24 : decode cX6_search 24 = .ok (.getfield 36, 3) := by decide +kernel
theorem dX6_search_27 : decode cX6_search 27 = .ok (.aload_n 0, 1) := by decide +kernel
theorem dX6_search_28 : decode cX6_search 28 = .ok (.getfield 12, 3) := by decide +kernel
theorem dX6_search_31 : decode cX6_search 31 = .ok (.iload_n 1, 1) := by decide +kernel
theorem dX6_search_32 : decode cX6_search 32 = .ok (.invokevirtual 128, 3) := by decide +kernel
theorem dX6_search_35 : decode cX6_search 35 = .ok (.iload_n 2, 1) := by decide +kernel
theorem dX6_search_36 : decode cX6_search 36 = .ok (.tableswitch 64 0 3 #[32, 40, 48, 56], 32) := by decide +kernel
theorem dX6_search_68 : decode cX6_search 68 = .ok (.aload_n 0, 1) := by decide +kernel
theorem dX6_search_69 : decode cX6_search 69 = .ok (.getfield 36, 3) := by decide +kernel
theorem dX6_search_72 : decode cX6_search 72 = .ok (.getfield 132, 3) := by decide +kernel
theorem dX6_search_75 : decode cX6_search 75 = .ok (.ireturn, 1) := by decide +kernel
theorem dX6_search_76 : decode cX6_search 76 = .ok (.aload_n 0, 1) := by decide +kernel
theorem dX6_search_77 : decode cX6_search 77 = .ok (.getfield 36, 3) := by decide +kernel
theorem dX6_search_80 : decode cX6_search 80 = .ok (.getfield 135, 3) := by decide +kernel
theorem dX6_search_83 : decode cX6_search 83 = .ok (.ireturn, 1) := by decide +kernel
theorem dX6_search_84 : decode cX6_search 84 = .ok (.aload_n 0, 1) := by decide +kernel
theorem dX6_search_85 : decode cX6_search 85 = .ok (.getfield 36, 3) := by decide +kernel
theorem dX6_search_88 : decode cX6_search 88 = .ok (.getfield 138, 3) := by decide +kernel
theorem dX6_search_91 : decode cX6_search 91 = .ok (.ireturn, 1) := by decide +kernel
theorem dX6_search_92 : decode cX6_search 92 = .ok (.aload_n 0, 1) := by decide +kernel
theorem dX6_search_93 : decode cX6_search 93 = .ok (.getfield 36, 3) := by decide +kernel
theorem dX6_search_96 : decode cX6_search 96 = .ok (.getfield 141, 3) := by decide +kernel
theorem dX6_search_99 : decode cX6_search 99 = .ok (.ireturn, 1) := by decide +kernel
theorem dX6_search_100 : decode cX6_search 100 = .ok (.aload_n 0, 1) := by decide +kernel
theorem dX6_search_101 : decode cX6_search 101 = .ok (.getfield 36, 3) := by decide +kernel
theorem dX6_search_104 : decode cX6_search 104 = .ok (.getfield 142, 3) := by decide +kernel
theorem dX6_search_107 : decode cX6_search 107 = .ok (.ireturn, 1) := by decide +kernel
set_option maxRecDepth 20000 in
theorem ggX6_bucket_X0_keysIn : GoodIn wsX6_bucket wsX0_keysIn := goodIn_r _ [6, 7, 8, 9, 5, 10, 11, 12, 13, 14, 15, 16, 17, 18, 19, 20, 21, 40, 41, 42, 43, 44, 45, 46, 47] (by decide +kernel) (by decide +kernel)
set_option maxRecDepth 20000 in
theorem gX6_bucket_X0_keysIn : GoodIn wsX6_bucket (wsV RX6 148 RX0 yX0_keysIn wsX0_keysIn) := goodIn_app (goodIn_of _ (by decide +kernel)) ggX6_bucket_X0_keysIn
set_option maxRecDepth 20000 in
theorem ggX6_bucket_X0_markAt : GoodIn wsX6_bucket wsX0_markAt := goodIn_r _ [16, 17, 18, 40, 41, 42, 43, 44, 45, 46, 47] (by decide +kernel) (by decide +kernel)
set_option maxRecDepth 20000 in
theorem gX6_bucket_X0_markAt : GoodIn wsX6_bucket (wsV RX6 151 RX0 yX0_markAt wsX0_markAt) := goodIn_app (goodIn_of _ (by decide +kernel)) ggX6_bucket_X0_markAt
set_option maxRecDepth 20000 in
theorem ggX6_bucket_X0_startOf : GoodIn wsX6_bucket wsX0_startOf := goodIn_r _ [26, 7, 8, 9, 5, 10, 11, 12, 13, 14, 15, 16, 17, 18, 19, 20, 21, 40, 41, 42, 43, 44, 45, 46, 47] (by decide +kernel) (by decide +kernel)
set_option maxRecDepth 20000 in
theorem gX6_bucket_X0_startOf : GoodIn wsX6_bucket (wsV RX6 154 RX0 yX0_startOf wsX0_startOf) := goodIn_app (goodIn_of _ (by decide +kernel)) ggX6_bucket_X0_startOf
set_option maxRecDepth 20000 in
theorem ggX6_bucket_X0_keyAt : GoodIn wsX6_bucket wsX0_keyAt := goodIn_r _ [30, 12, 11, 40, 41, 42, 43, 44, 45, 46, 47] (by decide +kernel) (by decide +kernel)
set_option maxRecDepth 20000 in
theorem gX6_bucket_X0_keyAt : GoodIn wsX6_bucket (wsV RX6 125 RX0 yX0_keyAt wsX0_keyAt) := goodIn_app (goodIn_of _ (by decide +kernel)) ggX6_bucket_X0_keyAt
set_option maxRecDepth 20000 in
theorem ggX6_bucket_X0_endOf : GoodIn wsX6_bucket wsX0_endOf := goodIn_r _ [10, 11, 12, 13, 14, 15, 5, 16, 17, 18, 19, 20, 21, 40, 41, 42, 43, 44, 45, 46, 47] (by decide +kernel) (by decide +kernel)
set_option maxRecDepth 20000 in
theorem gX6_bucket_X0_endOf : GoodIn wsX6_bucket (wsV RX6 157 RX0 yX0_endOf wsX0_endOf) := goodIn_app (goodIn_of _ (by decide +kernel)) ggX6_bucket_X0_endOf
theorem dX6_bucket_0 : decode cX6_bucket 0 = .ok (.iload_n 1, 1) := by decide +kernel
theorem dX6_bucket_1 : decode cX6_bucket 1 = .ok (.ifCond .lt 14, 3) := by decide +kernel
theorem dX6_bucket_4 : decode cX6_bucket 4 = .ok (.iload_n 1, 1) := by decide +kernel
theorem dX6_bucket_5 : decode cX6_bucket 5 = .ok (.aload_n 0, 1) := by decide +kernel
theorem dX6_bucket_6 : decode cX6_bucket 6 = .ok (.getfield 12, 3) := by decide +kernel
theorem dX6_bucket_9 : decode cX6_bucket 9 = .ok (.getfield 145, 3) := by decide +kernel
theorem dX6_bucket_12 : decode cX6_bucket 12 = .ok (.if_icmp .lt 6, 3) := by decide +kernel
theorem dX6_bucket_15 : decode cX6_bucket 15 = .ok (.bipush (-2), 2) := by decide +kernel
theorem dX6_bucket_17 : decode cX6_bucket 17 = .ok (.ireturn, 1) := by decide +kernel
theorem dX6_bucket_18 : decode cX6_bucket 18 = .ok (.iload_n 2, 1) := by decide +kernel
theorem dX6_bucket_19 : decode cX6_bucket 19 = .ok (.ifCond .lt 8, 3) := by decide +kernel
theorem dX6_bucket_22 : decode cX6_bucket 22 = .ok (.iload_n 2, 1) := by decide +kernel
theorem dX6_bucket_23 : decode cX6_bucket 23 = .ok (.iconst 3, 1) := by decide +kernel
theorem dX6_bucket_24 : decode cX6_bucket 24 = .ok (.if_icmp .le 6, 3) := by decide +kernel
theorem dX6_bucket_27 : decode cX6_bucket 27 = .ok (.bipush (-3), 2) := by decide +kernel
theorem dX6_bucket_29 : decode cX6_bucket 29 = .ok (.ireturn, 1) := by decide +kernel
theorem dX6_bucket_30 : decode cX6_bucket 30 = .ok (.aload_n 0, 1) := by decide +kernel
theorem dX6_bucket_31 : decode cX6_bucket 31 = .ok (.getfield 12, 3) := by decide +kernel
theorem dX6_bucket_34 : decode cX6_bucket 34 = .ok (.iload_n 1, 1) := by decide +kernel
theorem dX6_bucket_35 : decode cX6_bucket 35 = .ok (.invokevirtual 148, 3) := by decide +kernel
theorem dX6_bucket_38 : decode cX6_bucket 38 = .ok (.istore_n 3, 1) := by decide +kernel
theorem dX6_bucket_39 : decode cX6_bucket 39 = .ok (.iload_n 2, 1) := by decide +kernel
theorem dX6_bucket_40 : decode cX6_bucket 40 = .ok (.ifCond .ne 5, 3) := by decide +kernel
theorem dX6_bucket_43 : decode cX6_bucket 43 = .ok (.iload_n 3, 1) := by decide +kernel
theorem dX6_bucket_44 : decode cX6_bucket 44 = .ok (.ireturn, 1) := by decide +kernel
theorem dX6_bucket_45 : decode cX6_bucket 45 = .ok (.iload_n 2, 1) := by decide +kernel
theorem dX6_bucket_46 : decode cX6_bucket 46 = .ok (.iconst 1, 1) := by decide +kernel
theorem dX6_bucket_47 : decode cX6_bucket 47 = .ok (.if_icmp .ne 12, 3) := by decide +kernel
theorem dX6_bucket_50 : decode cX6_bucket 50 = .ok (.aload_n 0, 1) := by decide +kernel
theorem dX6_bucket_51 : decode cX6_bucket 51 = .ok (.getfield 12, 3) := by decide +kernel
theorem dX6_bucket_54 : decode cX6_bucket 54 = .ok (.iload_n 1, 1) := by decide +kernel
theorem dX6_bucket_55 : decode cX6_bucket 55 = .ok (.invokevirtual 151, 3) := by decide +kernel
theorem dX6_bucket_58 : decode cX6_bucket 58 = .ok (.ireturn, 1) := by decide +kernel
theorem dX6_bucket_59 : decode cX6_bucket 59 = .ok (.iload_n 3, 1) := by decide +kernel
theorem dX6_bucket_60 : decode cX6_bucket 60 = .ok (.ifCond .ne 5, 3) := by decide +kernel
theorem dX6_bucket_63 : decode cX6_bucket 63 = .ok (.iconst (-1), 1) := by decide +kernel
theorem dX6_bucket_64 : decode cX6_bucket 64 = .ok (.ireturn, 1) := by decide +kernel
theorem dX6_bucket_65 : decode cX6_bucket 65 = .ok (.iload_n 2, 1) := by decide +kernel
theorem dX6_bucket_66 : decode cX6_bucket 66 = .ok (.iconst 2, 1) := by decide +kernel
theorem dX6_bucket_67 : decode cX6_bucket 67 = .ok (.if_icmp .ne 21, 3) := by decide +kernel
theorem dX6_bucket_70 : decode cX6_bucket 70 = .ok (.aload_n 0, 1) := by decide +kernel
theorem dX6_bucket_71 : decode cX6_bucket 71 = .ok (.getfield 12, 3) := by decide +kernel
theorem dX6_bucket_74 : decode cX6_bucket 74 = .ok (.aload_n 0, 1) := by decide +kernel
theorem dX6_bucket_75 : decode cX6_bucket 75 = .ok (.getfield 12, 3) := by decide +kernel
theorem dX6_bucket_78 : decode cX6_bucket 78 = .ok (.iload_n 1, 1) := by decide +kernel
theorem dX6_bucket_79 : decode cX6_bucket 79 = .ok (.invokevirtual 154, 3) := by decide +kernel
theorem dX6_bucket_82 : decode cX6_bucket 82 = .ok (.invokevirtual 125, 3) := by decide +kernel
theorem dX6_bucket_85 : decode cX6_bucket 85 = .ok (.goto 20, 3) := by decide +kernel
theorem dX6_bucket_88 : decode cX6_bucket 88 = .ok (.aload_n 0, 1) := by decide +kernel
theorem dX6_bucket_89 : decode cX6_bucket 89 = .ok (.getfield 12, 3) := by decide +kernel
theorem dX6_bucket_92 : decode cX6_bucket 92 = .ok (.aload_n 0, 1) := by decide +kernel
theorem dX6_bucket_93 : decode cX6_bucket 93 = .ok (.getfield 12, 3) := by decide +kernel
theorem dX6_bucket_96 : decode cX6_bucket 96 = .ok (.iload_n 1, 1) := by decide +kernel
theorem dX6_bucket_97 : decode cX6_bucket 97 = .ok (.invokevirtual 157, 3) := by decide +kernel
theorem dX6_bucket_100 : decode cX6_bucket 100 = .ok (.iconst 1, 1) := by decide +kernel
theorem dX6_bucket_101 : decode cX6_bucket 101 = .ok (.isub, 1) := by decide +kernel
theorem dX6_bucket_102 : decode cX6_bucket 102 = .ok (.invokevirtual 125, 3) := by decide +kernel
theorem dX6_bucket_105 : decode cX6_bucket 105 = .ok (.ireturn, 1) := by decide +kernel
set_option maxRecDepth 20000 in
theorem ggX6_level_X0_hasLevel : GoodIn wsX6_level wsX0_hasLevel := goodIn_r _ [6, 7, 30, 31, 32, 33, 34, 35, 36, 37] (by decide +kernel) (by decide +kernel)
set_option maxRecDepth 20000 in
theorem gX6_level_X0_hasLevel : GoodIn wsX6_level (wsV RX6 160 RX0 yX0_hasLevel wsX0_hasLevel) := goodIn_app (goodIn_of _ (by decide +kernel)) ggX6_level_X0_hasLevel
set_option maxRecDepth 20000 in
theorem ggX6_level_X0_beginnings : GoodIn wsX6_level wsX0_beginnings := goodIn_r _ [11, 12, 13, 14, 15, 5, 16, 17, 18, 19, 20, 21, 7, 30, 31, 32, 33, 34, 35, 36, 37] (by decide +kernel) (by decide +kernel)
set_option maxRecDepth 20000 in
theorem gX6_level_X0_beginnings : GoodIn wsX6_level (wsV RX6 163 RX0 yX0_beginnings wsX0_beginnings) := goodIn_app (goodIn_of _ (by decide +kernel)) ggX6_level_X0_beginnings
theorem dX6_level_0 : decode cX6_level 0 = .ok (.aload_n 0, 1) := by decide +kernel
theorem dX6_level_1 : decode cX6_level 1 = .ok (.getfield 12, 3) := by decide +kernel
theorem dX6_level_4 : decode cX6_level 4 = .ok (.iload_n 1, 1) := by decide +kernel
theorem dX6_level_5 : decode cX6_level 5 = .ok (.invokevirtual 160, 3) := by decide +kernel
theorem dX6_level_8 : decode cX6_level 8 = .ok (.ifCond .eq 14, 3) := by decide +kernel
theorem dX6_level_11 : decode cX6_level 11 = .ok (.aload_n 0, 1) := by decide +kernel
theorem dX6_level_12 : decode cX6_level 12 = .ok (.getfield 12, 3) := by decide +kernel
theorem dX6_level_15 : decode cX6_level 15 = .ok (.iload_n 1, 1) := by decide +kernel
theorem dX6_level_16 : decode cX6_level 16 = .ok (.invokevirtual 163, 3) := by decide +kernel
theorem dX6_level_19 : decode cX6_level 19 = .ok (.goto 5, 3) := by decide +kernel
theorem dX6_level_22 : decode cX6_level 22 = .ok (.bipush (-2), 2) := by decide +kernel
theorem dX6_level_24 : decode cX6_level 24 = .ok (.ireturn, 1) := by decide +kernel
set_option maxRecDepth 20000 in
theorem ggX6_marks_X0_hasLevel : GoodIn wsX6_marks wsX0_hasLevel := goodIn_r _ [6, 7, 29, 30, 31, 32, 33, 34, 35, 36] (by decide +kernel) (by decide +kernel)
set_option maxRecDepth 20000 in
theorem gX6_marks_X0_hasLevel : GoodIn wsX6_marks (wsV RX6 160 RX0 yX0_hasLevel wsX0_hasLevel) := goodIn_app (goodIn_of _ (by decide +kernel)) ggX6_marks_X0_hasLevel
set_option maxRecDepth 20000 in
theorem ggX6_marks_X0_marksBehind : GoodIn wsX6_marks wsX0_marksBehind := goodIn_r _ [11, 12, 13, 7, 14, 15, 16, 29, 30, 31, 32, 33, 34, 35, 36] (by decide +kernel) (by decide +kernel)
set_option maxRecDepth 20000 in
theorem gX6_marks_X0_marksBehind : GoodIn wsX6_marks (wsV RX6 166 RX0 yX0_marksBehind wsX0_marksBehind) := goodIn_app (goodIn_of _ (by decide +kernel)) ggX6_marks_X0_marksBehind
set_option maxRecDepth 20000 in
theorem ggX6_marks_X0_marksAhead : GoodIn wsX6_marks wsX0_marksAhead := goodIn_r _ [20, 12, 13, 7, 14, 15, 16, 29, 30, 31, 32, 33, 34, 35, 36] (by decide +kernel) (by decide +kernel)
set_option maxRecDepth 20000 in
theorem gX6_marks_X0_marksAhead : GoodIn wsX6_marks (wsV RX6 170 RX0 yX0_marksAhead wsX0_marksAhead) := goodIn_app (goodIn_of _ (by decide +kernel)) ggX6_marks_X0_marksAhead
theorem dX6_marks_0 : decode cX6_marks 0 = .ok (.aload_n 0, 1) := by decide +kernel
theorem dX6_marks_1 : decode cX6_marks 1 = .ok (.getfield 12, 3) := by decide +kernel
theorem dX6_marks_4 : decode cX6_marks 4 = .ok (.iload_n 1, 1) := by decide +kernel
theorem dX6_marks_5 : decode cX6_marks 5 = .ok (.invokevirtual 160, 3) := by decide +kernel
theorem dX6_marks_8 : decode cX6_marks 8 = .ok (.ifCond .ne 6, 3) := by decide +kernel
theorem dX6_marks_11 : decode cX6_marks 11 = .ok (.bipush (-2), 2) := by decide +kernel
theorem dX6_marks_13 : decode cX6_marks 13 = .ok (.ireturn, 1) := by decide +kernel
theorem dX6_marks_14 : decode cX6_marks 14 = .ok (.iload_n 2, 1) := by decide +kernel
theorem dX6_marks_15 : decode cX6_marks 15 = .ok (.ifCond .lt 10, 3) := by decide +kernel
theorem dX6_marks_18 : decode cX6_marks 18 = .ok (.iload_n 2, 1) := by decide +kernel
theorem dX6_marks_19 : decode cX6_marks 19 = .ok (.iconst 1, 1) := by decide +kernel
theorem dX6_marks_20 : decode cX6_marks 20 = .ok (.iload_n 1, 1) := by decide +kernel
theorem dX6_marks_21 : decode cX6_marks 21 = .ok (.ishl, 1) := by decide +kernel
theorem dX6_marks_22 : decode cX6_marks 22 = .ok (.if_icmp .lt 6, 3) := by decide +kernel
theorem dX6_marks_25 : decode cX6_marks 25 = .ok (.bipush (-3), 2) := by decide +kernel
theorem dX6_marks_27 : decode cX6_marks 27 = .ok (.ireturn, 1) := by decide +kernel
theorem dX6_marks_28 : decode cX6_marks 28 = .ok (.aload_n 0, 1) := by decide +kernel
theorem dX6_marks_29 : decode cX6_marks 29 = .ok (.getfield 12, 3) := by decide +kernel
theorem dX6_marks_32 : decode cX6_marks 32 = .ok (.iload_n 1, 1) := by decide +kernel
theorem dX6_marks_33 : decode cX6_marks 33 = .ok (.iload_n 2, 1) := by decide +kernel
theorem dX6_marks_34 : decode cX6_marks 34 = .ok (.invokevirtual 166, 3) := by decide +kernel
theorem dX6_marks_37 : decode cX6_marks 37 = .ok (.aload_n 0, 1) := by decide +kernel
theorem dX6_marks_38 : decode cX6_marks 38 = .ok (.getfield 12, 3) := by decide +kernel
theorem dX6_marks_41 : decode cX6_marks 41 = .ok (.iload_n 1, 1) := by decide +kernel
theorem dX6_marks_42 : decode cX6_marks 42 = .ok (.iload_n 2, 1) := by decide +kernel
theorem dX6_marks_43 : decode cX6_marks 43 = .ok (.invokevirtual 170, 3) := by decide +kernel
theorem dX6_marks_46 : decode cX6_marks 46 = .ok (.isub, 1) := by decide +kernel
theorem dX6_marks_47 : decode cX6_marks 47 = .ok (.ireturn, 1) := by decide +kernel
set_option maxRecDepth 20000 in
theorem ggX6_under_X0_hasLevel : GoodIn wsX6_under wsX0_hasLevel := goodIn_r _ [6, 7, 43, 44, 45, 46, 47, 48, 49, 50] (by decide +kernel) (by decide +kernel)
set_option maxRecDepth 20000 in
theorem gX6_under_X0_hasLevel : GoodIn wsX6_under (wsV RX6 160 RX0 yX0_hasLevel wsX0_hasLevel) := goodIn_app (goodIn_of _ (by decide +kernel)) ggX6_under_X0_hasLevel
set_option maxRecDepth 20000 in
theorem ggX6_under_X0_isBeginning : GoodIn wsX6_under wsX0_isBeginning := goodIn_r _ [11, 12, 13, 14, 5, 15, 16, 17, 7, 18, 19, 20, 21, 22, 23, 24, 25, 26, 27, 28, 43, 44, 45, 46, 47, 48, 49, 50] (by decide +kernel) (by decide +kernel)
set_option maxRecDepth 20000 in
theorem gX6_under_X0_isBeginning : GoodIn wsX6_under (wsV RX6 173 RX0 yX0_isBeginning wsX0_isBeginning) := goodIn_app (goodIn_of _ (by decide +kernel)) ggX6_under_X0_isBeginning
set_option maxRecDepth 20000 in
theorem ggX6_under_X0_marksAhead : GoodIn wsX6_under wsX0_marksAhead := goodIn_r _ [15, 16, 17, 7, 18, 19, 20, 43, 44, 45, 46, 47, 48, 49, 50] (by decide +kernel) (by decide +kernel)
set_option maxRecDepth 20000 in
theorem gX6_under_X0_marksAhead : GoodIn wsX6_under (wsV RX6 170 RX0 yX0_marksAhead wsX0_marksAhead) := goodIn_app (goodIn_of _ (by decide +kernel)) ggX6_under_X0_marksAhead
set_option maxRecDepth 20000 in
theorem ggX6_under_X0_markAt : GoodIn wsX6_under wsX0_markAt := goodIn_r _ [24, 17, 16, 43, 44, 45, 46, 47, 48, 49, 50] (by decide +kernel) (by decide +kernel)
set_option maxRecDepth 20000 in
theorem gX6_under_X0_markAt : GoodIn wsX6_under (wsV RX6 151 RX0 yX0_markAt wsX0_markAt) := goodIn_app (goodIn_of _ (by decide +kernel)) ggX6_under_X0_markAt
set_option maxRecDepth 20000 in
theorem ggX6_under_X0_marksBehind : GoodIn wsX6_under wsX0_marksBehind := goodIn_r _ [34, 16, 17, 7, 18, 19, 20, 43, 44, 45, 46, 47, 48, 49, 50] (by decide +kernel) (by decide +kernel)
set_option maxRecDepth 20000 in
theorem gX6_under_X0_marksBehind : GoodIn wsX6_under (wsV RX6 166 RX0 yX0_marksBehind wsX0_marksBehind) := goodIn_app (goodIn_of _ (by decide +kernel)) ggX6_under_X0_marksBehind
theorem dX6_under_0 : decode cX6_under 0 = .ok (.aload_n 0, 1) := by decide +kernel
theorem dX6_under_1 : decode cX6_under 1 = .ok (.getfield 12, 3) := by decide +kernel
theorem dX6_under_4 : decode cX6_under 4 = .ok (.iload_n 1, 1) := by decide +kernel
theorem dX6_under_5 : decode cX6_under 5 = .ok (.invokevirtual 160, 3) := by decide +kernel
theorem dX6_under_8 : decode cX6_under 8 = .ok (.ifCond .ne 6, 3) := by decide +kernel
theorem dX6_under_11 : decode cX6_under 11 = .ok (.bipush (-2), 2) := by decide +kernel
theorem dX6_under_13 : decode cX6_under 13 = .ok (.ireturn, 1) := by decide +kernel
theorem dX6_under_14 : decode cX6_under 14 = .ok (.iload_n 2, 1) := by decide +kernel
theorem dX6_under_15 : decode cX6_under 15 = .ok (.ifCond .lt 19, 3) := by decide +kernel
theorem dX6_under_18 : decode cX6_under 18 = .ok (.iload_n 2, 1) := by decide +kernel
theorem dX6_under_19 : decode cX6_under 19 = .ok (.iconst 1, 1) := by decide +kernel
theorem dX6_under_20 : decode cX6_under 20 = .ok (.iload_n 1, 1) := by decide +kernel
theorem dX6_under_21 : decode cX6_under 21 = .ok (.ishl, 1) := by decide +kernel
theorem dX6_under_22 : decode cX6_under 22 = .ok (.if_icmp .ge 12, 3) := by decide +kernel
theorem dX6_under_25 : decode cX6_under 25 = .ok (.iload_n 3, 1) := by decide +kernel
theorem dX6_under_26 : decode cX6_under 26 = .ok (.ifCond .lt 8, 3) := by decide +kernel
theorem dX6_under_29 : decode cX6_under 29 = .ok (.iload_n 3, 1) := by decide +kernel
theorem dX6_under_30 : decode cX6_under 30 = .ok (.iconst 1, 1) := by decide +kernel
theorem dX6_under_31 : decode cX6_under 31 = .ok (.if_icmp .le 6, 3) := by decide +kernel
theorem dX6_under_34 : decode cX6_under 34 = .ok (.bipush (-3), 2) := by decide +kernel
theorem dX6_under_36 : decode cX6_under 36 = .ok (.ireturn, 1) := by decide +kernel
theorem dX6_under_37 : decode cX6_under 37 = .ok (.aload_n 0, 1) := by decide +kernel
theorem dX6_under_38 : decode cX6_under 38 = .ok (.getfield 12, 3) := by decide +kernel
theorem dX6_under_41 : decode cX6_under 41 = .ok (.iload_n 1, 1) := by decide +kernel
theorem dX6_under_42 : decode cX6_under 42 = .ok (.iload_n 2, 1) := by decide +kernel
theorem dX6_under_43 : decode cX6_under 43 = .ok (.invokevirtual 173, 3) := by decide +kernel
theorem dX6_under_46 : decode cX6_under 46 = .ok (.ifCond .ne 5, 3) := by decide +kernel
theorem dX6_under_49 : decode cX6_under 49 = .ok (.iconst (-1), 1) := by decide +kernel
theorem dX6_under_50 : decode cX6_under 50 = .ok (.ireturn, 1) := by decide +kernel
theorem dX6_under_51 : decode cX6_under 51 = .ok (.iload_n 3, 1) := by decide +kernel
theorem dX6_under_52 : decode cX6_under 52 = .ok (.ifCond .ne 22, 3) := by decide +kernel
theorem dX6_under_55 : decode cX6_under 55 = .ok (.aload_n 0, 1) := by decide +kernel
theorem dX6_under_56 : decode cX6_under 56 = .ok (.getfield 12, 3) := by decide +kernel
theorem dX6_under_59 : decode cX6_under 59 = .ok (.aload_n 0, 1) := by decide +kernel
theorem dX6_under_60 : decode cX6_under 60 = .ok (.getfield 12, 3) := by decide +kernel
theorem dX6_under_63 : decode cX6_under 63 = .ok (.iload_n 1, 1) := by decide +kernel
theorem dX6_under_64 : decode cX6_under 64 = .ok (.iload_n 2, 1) := by decide +kernel
theorem dX6_under_65 : decode cX6_under 65 = .ok (.invokevirtual 170, 3) := by decide +kernel
theorem dX6_under_68 : decode cX6_under 68 = .ok (.invokevirtual 151, 3) := by decide +kernel
theorem dX6_under_71 : decode cX6_under 71 = .ok (.goto 21, 3) := by decide +kernel
theorem dX6_under_74 : decode cX6_under 74 = .ok (.aload_n 0, 1) := by decide +kernel
theorem dX6_under_75 : decode cX6_under 75 = .ok (.getfield 12, 3) := by decide +kernel
theorem dX6_under_78 : decode cX6_under 78 = .ok (.aload_n 0, 1) := by decide +kernel
theorem dX6_under_79 : decode cX6_under 79 = .ok (.getfield 12, 3) := by decide +kernel
theorem dX6_under_82 : decode cX6_under 82 = .ok (.iload_n 1, 1) := by decide +kernel
theorem dX6_under_83 : decode cX6_under 83 = .ok (.iload_n 2, 1) := by decide +kernel
theorem dX6_under_84 : decode cX6_under 84 = .ok (.invokevirtual 166, 3) := by decide +kernel
theorem dX6_under_87 : decode cX6_under 87 = .ok (.iconst 1, 1) := by decide +kernel
theorem dX6_under_88 : decode cX6_under 88 = .ok (.isub, 1) := by decide +kernel
theorem dX6_under_89 : decode cX6_under 89 = .ok (.invokevirtual 151, 3) := by decide +kernel
theorem dX6_under_92 : decode cX6_under 92 = .ok (.ireturn, 1) := by decide +kernel
set_option maxRecDepth 20000 in
theorem ggX6_sweep_X0_inBounds : GoodIn wsX6_sweep wsX0_inBounds := goodIn_r _ [7, 8, 9, 10, 6, 11, 12, 93, 94, 95, 96, 97, 98, 99, 100] (by decide +kernel) (by decide +kernel)
set_option maxRecDepth 20000 in
theorem gX6_sweep_X0_inBounds : GoodIn wsX6_sweep (wsV RX6 88 RX0 yX0_inBounds wsX0_inBounds) := goodIn_app (goodIn_of _ (by decide +kernel)) ggX6_sweep_X0_inBounds
set_option maxRecDepth 20000 in
theorem ggX6_sweep_X0_become : GoodIn wsX6_sweep wsX0_become := goodIn_r _ [16, 17, 18, 12, 19, 20, 21, 22, 23, 24, 25, 26, 27, 28, 29, 30, 31, 32, 33, 34, 93, 94, 95, 96, 97, 98, 99, 100] (by decide +kernel) (by decide +kernel)
set_option maxRecDepth 20000 in
theorem gX6_sweep_X0_become : GoodIn wsX6_sweep (wsV RX6 177 RX0 yX0_become wsX0_become) := goodIn_app (goodIn_of _ (by decide +kernel)) ggX6_sweep_X0_become
set_option maxRecDepth 20000 in
theorem ggX6_sweep_X0_takeOutAll : GoodIn wsX6_sweep wsX0_takeOutAll := goodIn_r _ [38, 39, 40, 41, 6, 42, 17, 20, 43, 25, 44, 45, 46, 47, 48, 49, 50, 51, 52, 21, 19, 53, 54, 55, 56, 57, 58, 59, 60, 61, 62, 18, 63, 64, 65, 66, 67, 68, 69, 70, 71, 72, 73, 74, 75, 76, 77, 78, 23, 79, 80, 81, 82, 22, 83, 84, 93, 94, 95, 96, 97, 98, 99, 100] (by decide +kernel) (by decide +kernel)
set_option maxRecDepth 20000 in
theorem gX6_sweep_X0_takeOutAll : GoodIn wsX6_sweep (wsV RX6 180 RX0 yX0_takeOutAll wsX0_takeOutAll) := goodIn_app (goodIn_of _ (by decide +kernel)) ggX6_sweep_X0_takeOutAll
theorem dX6_sweep_0 : decode cX6_sweep 0 = .ok (.aload_n 0, 1) := by decide +kernel
theorem dX6_sweep_1 : decode cX6_sweep 1 = .ok (.getfield 12, 3) := by decide +kernel
theorem dX6_sweep_4 : decode cX6_sweep 4 = .ok (.iload_n 1, 1) := by decide +kernel
theorem dX6_sweep_5 : decode cX6_sweep 5 = .ok (.invokevirtual 88, 3) := by decide +kernel
theorem dX6_sweep_8 : decode cX6_sweep 8 = .ok (.ifCond .eq 28, 3) := by decide +kernel
theorem dX6_sweep_11 : decode cX6_sweep 11 = .ok (.aload_n 0, 1) := by decide +kernel
theorem dX6_sweep_12 : decode cX6_sweep 12 = .ok (.getfield 12, 3) := by decide +kernel
theorem dX6_sweep_15 : decode cX6_sweep 15 = .ok (.iload_n 2, 1) := by decide +kernel
theorem dX6_sweep_16 : decode cX6_sweep 16 = .ok (.invokevirtual 88, 3) := by decide +kernel
theorem dX6_sweep_19 : decode cX6_sweep 19 = .ok (.ifCond .eq 17, 3) := by decide +kernel
theorem dX6_sweep_22 : decode cX6_sweep 22 = .ok (.iload_n 1, 1) := by decide +kernel
theorem dX6_sweep_23 : decode cX6_sweep 23 = .ok (.iload_n 2, 1) := by decide +kernel
theorem dX6_sweep_24 : decode cX6_sweep 24 = .ok (.if_icmp .gt 12, 3) := by decide +kernel
theorem dX6_sweep_27 : decode cX6_sweep 27 = .ok (.iload_n 3, 1) := by decide +kernel
theorem dX6_sweep_28 : decode cX6_sweep 28 = .ok (.ifCond .lt 8, 3) := by decide +kernel
theorem dX6_sweep_31 : decode cX6_sweep 31 = .ok (.iload_n 3, 1) := by decide +kernel
theorem dX6_sweep_32 : decode cX6_sweep 32 = .ok (.iconst 2, 1) := by decide +kernel
theorem dX6_sweep_33 : decode cX6_sweep 33 = .ok (.if_icmp .le 6, 3) := by decide +kernel
theorem dX6_sweep_36 : decode cX6_sweep 36 = .ok (.bipush (-3), 2) := by decide +kernel
theorem dX6_sweep_38 : decode cX6_sweep 38 = .ok (.ireturn, 1) := by decide +kernel
theorem dX6_sweep_39 : decode cX6_sweep 39 = .ok (.aload_n 0, 1) := by decide +kernel
theorem dX6_sweep_40 : decode cX6_sweep 40 = .ok (.getfield 16, 3) := by decide +kernel
theorem dX6_sweep_43 : decode cX6_sweep 43 = .ok (.aload_n 0, 1) := by decide +kernel
theorem dX6_sweep_44 : decode cX6_sweep 44 = .ok (.getfield 12, 3) := by decide +kernel
theorem dX6_sweep_47 : decode cX6_sweep 47 = .ok (.invokevirtual 177, 3) := by decide +kernel
theorem dX6_sweep_50 : decode cX6_sweep 50 = .ok (.aload_n 0, 1) := by decide +kernel
theorem dX6_sweep_51 : decode cX6_sweep 51 = .ok (.getfield 16, 3) := by decide +kernel
theorem dX6_sweep_54 : decode cX6_sweep 54 = .ok (.iload_n 1, 1) := by decide +kernel
theorem dX6_sweep_55 : decode cX6_sweep 55 = .ok (.iload_n 2, 1) := by decide +kernel
theorem dX6_sweep_56 : decode cX6_sweep 56 = .ok (.invokevirtual 180, 3) := by decide +kernel
theorem dX6_sweep_59 : decode cX6_sweep 59 = .ok (.iload_n 3, 1) := by decide +kernel
theorem dX6_sweep_60 : decode cX6_sweep 60 = .ok (.ifCond .ne 11, 3) := by decide +kernel
theorem dX6_sweep_63 : decode cX6_sweep 63 = .ok (.aload_n 0, 1) := by decide +kernel
theorem dX6_sweep_64 : decode cX6_sweep 64 = .ok (.getfield 16, 3) := by decide +kernel
theorem dX6_sweep_67 : decode cX6_sweep 67 = .ok (.getfield 145, 3) := by decide +kernel
theorem dX6_sweep_70 : decode cX6_sweep 70 = .ok (.ireturn, 1) := by decide +kernel
theorem dX6_sweep_71 : decode cX6_sweep 71 = .ok (.iload_n 3, 1) := by decide +kernel
theorem dX6_sweep_72 : decode cX6_sweep 72 = .ok (.iconst 1, 1) := by decide +kernel
theorem dX6_sweep_73 : decode cX6_sweep 73 = .ok (.if_icmp .ne 21, 3) := by decide +kernel
theorem dX6_sweep_76 : decode cX6_sweep 76 = .ok (.aload_n 0, 1) := by decide +kernel
theorem dX6_sweep_77 : decode cX6_sweep 77 = .ok (.getfield 16, 3) := by decide +kernel
theorem dX6_sweep_80 : decode cX6_sweep 80 = .ok (.getfield 184, 3) := by decide +kernel
theorem dX6_sweep_83 : decode cX6_sweep 83 = .ok (.aload_n 0, 1) := by decide +kernel
theorem dX6_sweep_84 : decode cX6_sweep 84 = .ok (.getfield 12, 3) := by decide +kernel
theorem dX6_sweep_87 : decode cX6_sweep 87 = .ok (.getfield 184, 3) := by decide +kernel
theorem dX6_sweep_90 : decode cX6_sweep 90 = .ok (.isub, 1) := by decide +kernel
theorem dX6_sweep_91 : decode cX6_sweep 91 = .ok (.goto 18, 3) := by decide +kernel
theorem dX6_sweep_94 : decode cX6_sweep 94 = .ok (.aload_n 0, 1) := by decide +kernel
theorem dX6_sweep_95 : decode cX6_sweep 95 = .ok (.getfield 16, 3) := by decide +kernel
theorem dX6_sweep_98 : decode cX6_sweep 98 = .ok (.getfield 187, 3) := by decide +kernel
theorem dX6_sweep_101 : decode cX6_sweep 101 = .ok (.aload_n 0, 1) := by decide +kernel
theorem dX6_sweep_102 : decode cX6_sweep 102 = .ok (.getfield 12, 3) := by decide +kernel
theorem dX6_sweep_105 : decode cX6_sweep 105 = .ok (.getfield 187, 3) := by decide +kernel
theorem dX6_sweep_108 : decode cX6_sweep 108 = .ok (.isub, 1) := by decide +kernel
theorem dX6_sweep_109 : decode cX6_sweep 109 = .ok (.ireturn, 1) := by decide +kernel
set_option maxRecDepth 20000 in
theorem ggX6_flood_X0_inBounds : GoodIn wsX6_flood wsX0_inBounds := goodIn_r _ [7, 8, 9, 10, 6, 11, 12, 88, 89, 90, 91, 92, 93, 94, 95] (by decide +kernel) (by decide +kernel)
set_option maxRecDepth 20000 in
theorem gX6_flood_X0_inBounds : GoodIn wsX6_flood (wsV RX6 88 RX0 yX0_inBounds wsX0_inBounds) := goodIn_app (goodIn_of _ (by decide +kernel)) ggX6_flood_X0_inBounds
set_option maxRecDepth 20000 in
theorem ggX6_flood_X0_become : GoodIn wsX6_flood wsX0_become := goodIn_r _ [16, 17, 18, 12, 19, 20, 21, 22, 23, 24, 25, 26, 27, 28, 29, 30, 31, 32, 33, 34, 88, 89, 90, 91, 92, 93, 94, 95] (by decide +kernel) (by decide +kernel)
set_option maxRecDepth 20000 in
theorem gX6_flood_X0_become : GoodIn wsX6_flood (wsV RX6 177 RX0 yX0_become wsX0_become) := goodIn_app (goodIn_of _ (by decide +kernel)) ggX6_flood_X0_become
set_option maxRecDepth 20000 in
theorem ggX6_flood_X0_putInAll : GoodIn wsX6_flood wsX0_putInAll := goodIn_r _ [38, 39, 4, 5, 6, 7, 8, 9, 10, 11, 12, 40, 41, 42, 43, 17, 20, 19, 44, 45, 46, 47, 48, 49, 50, 51, 52, 25, 53, 54, 55, 56, 57, 58, 59, 60, 61, 62, 63, 18, 21, 64, 65, 66, 67, 68, 69, 70, 71, 72, 73, 74, 75, 76, 77, 78, 79, 22, 88, 89, 90, 91, 92, 93, 94, 95] (by decide +kernel) (by decide +kernel)
set_option maxRecDepth 20000 in
theorem gX6_flood_X0_putInAll : GoodIn wsX6_flood (wsV RX6 190 RX0 yX0_putInAll wsX0_putInAll) := goodIn_app (goodIn_of _ (by decide +kernel)) ggX6_flood_X0_putInAll
theorem dX6_flood_0 : decode cX6_flood 0 = .ok (.aload_n 0, 1) := by decide +kernel
theorem dX6_flood_1 : decode cX6_flood 1 = .ok (.getfield 12, 3) := by decide +kernel
theorem dX6_flood_4 : decode cX6_flood 4 = .ok (.iload_n 1, 1) := by decide +kernel
theorem dX6_flood_5 : decode cX6_flood 5 = .ok (.invokevirtual 88, 3) := by decide +kernel
theorem dX6_flood_8 : decode cX6_flood 8 = .ok (.ifCond .eq 37, 3) := by decide +kernel
theorem dX6_flood_11 : decode cX6_flood 11 = .ok (.iload_n 2, 1) := by decide +kernel
theorem dX6_flood_12 : decode cX6_flood 12 = .ok (.iconst 1, 1) := by decide +kernel
theorem dX6_flood_13 : decode cX6_flood 13 = .ok (.if_icmp .lt 32, 3) := by decide +kernel
theorem dX6_flood_16 : decode cX6_flood 16 = .ok (.iload_n 2, 1) := by decide +kernel
theorem dX6_flood_17 : decode cX6_flood 17 = .ok (.sipush 999, 3) := by decide +kernel
theorem dX6_flood_20 : decode cX6_flood 20 = .ok (.if_icmp .gt 25, 3) := by decide +kernel
theorem dX6_flood_23 : decode cX6_flood 23 = .ok (.iload_n 3, 1) := by decide +kernel
theorem dX6_flood_24 : decode cX6_flood 24 = .ok (.iconst 1, 1) := by decide +kernel
theorem dX6_flood_25 : decode cX6_flood 25 = .ok (.if_icmp .lt 20, 3) := by decide +kernel
theorem dX6_flood_28 : decode cX6_flood 28 = .ok (.iload_n 3, 1) := by decide +kernel
theorem dX6_flood_29 : decode cX6_flood 29 = .ok (.bipush 96, 2) := by decide +kernel
theorem dX6_flood_31 : decode cX6_flood 31 = .ok (.if_icmp .gt 14, 3) := by decide +kernel
theorem dX6_flood_34 : decode cX6_flood 34 = .ok (.iload 4, 2) := by decide +kernel
theorem dX6_flood_36 : decode cX6_flood 36 = .ok (.ifCond .lt 9, 3) := by decide +kernel
theorem dX6_flood_39 : decode cX6_flood 39 = .ok (.iload 4, 2) := by decide +kernel
theorem dX6_flood_41 : decode cX6_flood 41 = .ok (.iconst 2, 1) := by decide +kernel
theorem dX6_flood_42 : decode cX6_flood 42 = .ok (.if_icmp .le 6, 3) := by decide +kernel
theorem dX6_flood_45 : decode cX6_flood 45 = .ok (.bipush (-3), 2) := by decide +kernel
theorem dX6_flood_47 : decode cX6_flood 47 = .ok (.ireturn, 1) := by decide +kernel
theorem dX6_flood_48 : decode cX6_flood 48 = .ok (.aload_n 0, 1) := by decide +kernel
theorem dX6_flood_49 : decode cX6_flood 49 = .ok (.getfield 16, 3) := by decide +kernel
theorem dX6_flood_52 : decode cX6_flood 52 = .ok (.aload_n 0, 1) := by decide +kernel
theorem dX6_flood_53 : decode cX6_flood 53 = .ok (.getfield 12, 3) := by decide +kernel
theorem dX6_flood_56 : decode cX6_flood 56 = .ok (.invokevirtual 177, 3) := by decide +kernel
theorem dX6_flood_59 : decode cX6_flood 59 = .ok (.aload_n 0, 1) := by decide +kernel
theorem dX6_flood_60 : decode cX6_flood 60 = .ok (.getfield 16, 3) := by decide +kernel
theorem dX6_flood_63 : decode cX6_flood 63 = .ok (.iload_n 1, 1) := by decide +kernel
theorem dX6_flood_64 : decode cX6_flood 64 = .ok (.iload_n 2, 1) := by decide +kernel
theorem dX6_flood_65 : decode cX6_flood 65 = .ok (.iload_n 3, 1) := by decide +kernel
theorem dX6_flood_66 : decode cX6_flood 66 = .ok (.invokevirtual 190, 3) := by decide +kernel
theorem dX6_flood_69 : decode cX6_flood 69 = .ok (.iload 4, 2) := by decide +kernel
theorem dX6_flood_71 : decode cX6_flood 71 = .ok (.ifCond .ne 11, 3) := by decide +kernel
theorem dX6_flood_74 : decode cX6_flood 74 = .ok (.aload_n 0, 1) := by decide +kernel
theorem dX6_flood_75 : decode cX6_flood 75 = .ok (.getfield 16, 3) := by decide +kernel
theorem dX6_flood_78 : decode cX6_flood 78 = .ok (.getfield 145, 3) := by decide +kernel
theorem dX6_flood_81 : decode cX6_flood 81 = .ok (.ireturn, 1) := by decide +kernel
theorem dX6_flood_82 : decode cX6_flood 82 = .ok (.iload 4, 2) := by decide +kernel
theorem dX6_flood_84 : decode cX6_flood 84 = .ok (.iconst 1, 1) := by decide +kernel
theorem dX6_flood_85 : decode cX6_flood 85 = .ok (.if_icmp .ne 21, 3) := by decide +kernel
theorem dX6_flood_88 : decode cX6_flood 88 = .ok (.aload_n 0, 1) := by decide +kernel
theorem dX6_flood_89 : decode cX6_flood 89 = .ok (.getfield 16, 3) := by decide +kernel
theorem dX6_flood_92 : decode cX6_flood 92 = .ok (.getfield 184, 3) := by decide +kernel
theorem dX6_flood_95 : decode cX6_flood 95 = .ok (.aload_n 0, 1) := by decide +kernel
theorem dX6_flood_96 : decode cX6_flood 96 = .ok (.getfield 12, 3) := by decide +kernel
theorem dX6_flood_99 : decode cX6_flood 99 = .ok (.getfield 184, 3) := by decide +kernel
theorem dX6_flood_102 : decode cX6_flood 102 = .ok (.isub, 1) := by decide +kernel
theorem dX6_flood_103 : decode cX6_flood 103 = .ok (.goto 10, 3) := by decide +kernel
theorem dX6_flood_106 : decode cX6_flood 106 = .ok (.aload_n 0, 1) := by decide +kernel
theorem dX6_flood_107 : decode cX6_flood 107 = .ok (.getfield 16, 3) := by decide +kernel
theorem dX6_flood_110 : decode cX6_flood 110 = .ok (.getfield 94, 3) := by decide +kernel
theorem dX6_flood_113 : decode cX6_flood 113 = .ok (.ireturn, 1) := by decide +kernel
set_option maxRecDepth 20000 in
theorem ggX6_dearest_X0_keyAt : GoodIn wsX6_dearest wsX0_keyAt := goodIn_r _ [6, 7, 8, 80, 81, 82, 83, 84, 85, 86, 87] (by decide +kernel) (by decide +kernel)
set_option maxRecDepth 20000 in
theorem gX6_dearest_X0_keyAt : GoodIn wsX6_dearest (wsV RX6 125 RX0 yX0_keyAt wsX0_keyAt) := goodIn_app (goodIn_of _ (by decide +kernel)) ggX6_dearest_X0_keyAt
set_option maxRecDepth 20000 in
theorem ggX6_dearest_X6_costOf : GoodIn wsX6_dearest wsX6_costOf := goodIn_r _ [13, 14, 1, 15, 16, 17, 18, 19, 20, 21, 22, 23, 24, 25, 26, 27, 28, 29, 30, 5, 31, 32, 33, 34, 35, 36, 37, 38, 39, 40, 41, 42, 43, 12, 44, 45, 46, 47, 48, 49, 50, 51, 52, 53, 54, 55, 56, 57, 58, 59, 60, 61, 62, 63, 64, 65, 66, 8, 7, 67, 68, 69, 70, 71, 3, 4, 6, 72, 73, 74, 75, 76, 77, 78, 79, 88, 89, 90, 91, 92, 80, 81, 82, 83, 84, 85, 86, 87] (by decide +kernel) (by decide +kernel)
set_option maxRecDepth 20000 in
theorem gX6_dearest_X6_costOf : GoodIn wsX6_dearest (wsV RX6 194 RX6 yX6_costOf wsX6_costOf) := goodIn_app (goodIn_of _ (by decide +kernel)) ggX6_dearest_X6_costOf
theorem dX6_dearest_0 : decode cX6_dearest 0 = .ok (.iload_n 1, 1) := by decide +kernel
theorem dX6_dearest_1 : decode cX6_dearest 1 = .ok (.ifCond .lt 8, 3) := by decide +kernel
theorem dX6_dearest_4 : decode cX6_dearest 4 = .ok (.iload_n 1, 1) := by decide +kernel
theorem dX6_dearest_5 : decode cX6_dearest 5 = .ok (.iconst 1, 1) := by decide +kernel
theorem dX6_dearest_6 : decode cX6_dearest 6 = .ok (.if_icmp .le 6, 3) := by decide +kernel
theorem dX6_dearest_9 : decode cX6_dearest 9 = .ok (.bipush (-3), 2) := by decide +kernel
theorem dX6_dearest_11 : decode cX6_dearest 11 = .ok (.ireturn, 1) := by decide +kernel
theorem dX6_dearest_12 : decode cX6_dearest 12 = .ok (.iconst (-1), 1) := by decide +kernel
theorem dX6_dearest_13 : decode cX6_dearest 13 = .ok (.istore_n 2, 1) := by decide +kernel
theorem dX6_dearest_14 : decode cX6_dearest 14 = .ok (.iconst (-1), 1) := by decide +kernel
theorem dX6_dearest_15 : decode cX6_dearest 15 = .ok (.istore_n 3, 1) := by decide +kernel
theorem dX6_dearest_16 : decode cX6_dearest 16 = .ok (.iconst 0, 1) := by decide +kernel
theorem dX6_dearest_17 : decode cX6_dearest 17 = .ok (.istore 4, 2) := by decide +kernel
theorem dX6_dearest_19 : decode cX6_dearest 19 = .ok (.iload 4, 2) := by decide +kernel
theorem dX6_dearest_21 : decode cX6_dearest 21 = .ok (.aload_n 0, 1) := by decide +kernel
theorem dX6_dearest_22 : decode cX6_dearest 22 = .ok (.getfield 12, 3) := by decide +kernel
theorem dX6_dearest_25 : decode cX6_dearest 25 = .ok (.getfield 94, 3) := by decide +kernel
theorem dX6_dearest_28 : decode cX6_dearest 28 = .ok (.if_icmp .ge 43, 3) := by decide +kernel
theorem dX6_dearest_31 : decode cX6_dearest 31 = .ok (.aload_n 0, 1) := by decide +kernel
theorem dX6_dearest_32 : decode cX6_dearest 32 = .ok (.aload_n 0, 1) := by decide +kernel
theorem dX6_dearest_33 : decode cX6_dearest 33 = .ok (.getfield 12, 3) := by decide +kernel
theorem dX6_dearest_36 : decode cX6_dearest 36 = .ok (.iload 4, 2) := by decide +kernel
theorem dX6_dearest_38 : decode cX6_dearest 38 = .ok (.invokevirtual 125, 3) := by decide +kernel
theorem dX6_dearest_41 : decode cX6_dearest 41 = .ok (.invokevirtual 194, 3) := by decide +kernel
theorem dX6_dearest_44 : decode cX6_dearest 44 = .ok (.istore 5, 2) := by decide +kernel
theorem dX6_dearest_46 : decode cX6_dearest 46 = .ok (.iload 5, 2) := by decide +kernel
theorem dX6_dearest_48 : decode cX6_dearest 48 = .ok (.iload_n 3, 1) := by decide +kernel
theorem dX6_dearest_49 : decode cX6_dearest 49 = .ok (.if_icmp .le 16, 3) := by decide +kernel
theorem dX6_dearest_52 : decode cX6_dearest 52 = .ok (.iload 5, 2) := by decide +kernel
theorem dX6_dearest_54 : decode cX6_dearest 54 = .ok (.istore_n 3, 1) := by decide +kernel
theorem dX6_dearest_55 : decode cX6_dearest 55 = .ok (.aload_n 0, 1) := by decide +kernel
theorem dX6_dearest_56 : decode cX6_dearest 56 = .ok (.getfield 12, 3) := by decide +kernel
theorem dX6_dearest_59 : decode cX6_dearest 59 = .ok (.iload 4, 2) := by decide +kernel
theorem dX6_dearest_61 : decode cX6_dearest 61 = .ok (.invokevirtual 125, 3) := by decide +kernel
theorem dX6_dearest_64 : decode cX6_dearest 64 = .ok (.istore_n 2, 1) := by decide +kernel
theorem dX6_dearest_65 : decode cX6_dearest 65 = .ok (.iinc 4 1, 3) := by decide +kernel
theorem dX6_dearest_68 : decode cX6_dearest 68 = .ok (.goto (-49), 3) := by decide +kernel
theorem dX6_dearest_71 : decode cX6_dearest 71 = .ok (.iload_n 1, 1) := by decide +kernel
theorem dX6_dearest_72 : decode cX6_dearest 72 = .ok (.ifCond .ne 7, 3) := by decide +kernel
theorem dX6_dearest_75 : decode cX6_dearest 75 = .ok (.iload_n 2, 1) := by decide +kernel
theorem dX6_dearest_76 : decode cX6_dearest 76 = .ok (.goto 4, 3) := by decide +kernel
theorem dX6_dearest_79 : decode cX6_dearest 79 = .ok (.iload_n 3, 1) := by decide +kernel
theorem dX6_dearest_80 : decode cX6_dearest 80 = .ok (.ireturn, 1) := by decide +kernel
set_option maxRecDepth 20000 in
theorem ggX6_mean_X0_keyAt : GoodIn wsX6_mean wsX0_keyAt := goodIn_r _ [6, 7, 8, 83, 84, 85, 86, 87, 88, 89, 90] (by decide +kernel) (by decide +kernel)
set_option maxRecDepth 20000 in
theorem gX6_mean_X0_keyAt : GoodIn wsX6_mean (wsV RX6 125 RX0 yX0_keyAt wsX0_keyAt) := goodIn_app (goodIn_of _ (by decide +kernel)) ggX6_mean_X0_keyAt
set_option maxRecDepth 20000 in
theorem ggX6_mean_X6_costOf : GoodIn wsX6_mean wsX6_costOf := goodIn_r _ [13, 14, 1, 15, 16, 17, 18, 19, 20, 21, 22, 23, 24, 25, 26, 27, 28, 29, 30, 5, 31, 32, 33, 34, 35, 36, 37, 38, 39, 40, 41, 42, 43, 12, 44, 45, 46, 47, 48, 49, 50, 51, 52, 53, 54, 55, 56, 57, 58, 59, 60, 61, 62, 63, 64, 65, 66, 8, 7, 67, 68, 69, 70, 71, 3, 4, 6, 75, 76, 77, 78, 79, 80, 81, 82, 91, 92, 93, 94, 95, 83, 84, 85, 86, 87, 88, 89, 90] (by decide +kernel) (by decide +kernel)
set_option maxRecDepth 20000 in
theorem gX6_mean_X6_costOf : GoodIn wsX6_mean (wsV RX6 194 RX6 yX6_costOf wsX6_costOf) := goodIn_app (goodIn_of _ (by decide +kernel)) ggX6_mean_X6_costOf
set_option maxRecDepth 20000 in
theorem ggX6_mean_X6_commonDivisor : GoodIn wsX6_mean wsX6_commonDivisor := goodIn_r _ [74] (by decide +kernel) (by decide +kernel)
set_option maxRecDepth 20000 in
theorem gX6_mean_X6_commonDivisor : GoodIn wsX6_mean (va_wsS RX6 197 yX6_commonDivisor wsX6_commonDivisor) := goodIn_app (goodIn_of _ (by decide +kernel)) ggX6_mean_X6_commonDivisor
theorem dX6_mean_0 : decode cX6_mean 0 = .ok (.iload_n 1, 1) := by decide +kernel
theorem dX6_mean_1 : decode cX6_mean 1 = .ok (.ifCond .lt 8, 3) := by decide +kernel
theorem dX6_mean_4 : decode cX6_mean 4 = .ok (.iload_n 1, 1) := by decide +kernel
theorem dX6_mean_5 : decode cX6_mean 5 = .ok (.iconst 1, 1) := by decide +kernel
theorem dX6_mean_6 : decode cX6_mean 6 = .ok (.if_icmp .le 6, 3) := by decide +kernel
theorem dX6_mean_9 : decode cX6_mean 9 = .ok (.bipush (-3), 2) := by decide +kernel
theorem dX6_mean_11 : decode cX6_mean 11 = .ok (.ireturn, 1) := by decide +kernel
theorem dX6_mean_12 : decode cX6_mean 12 = .ok (.aload_n 0, 1) := by decide +kernel
theorem dX6_mean_13 : decode cX6_mean 13 = .ok (.getfield 12, 3) := by decide +kernel
theorem dX6_mean_16 : decode cX6_mean 16 = .ok (.getfield 94, 3) := by decide +kernel
theorem dX6_mean_19 : decode cX6_mean 19 = .ok (.ifCond .gt 6, 3) := by decide +kernel
theorem dX6_mean_22 : decode cX6_mean 22 = .ok (.bipush (-4), 2) := by decide +kernel
theorem dX6_mean_24 : decode cX6_mean 24 = .ok (.ireturn, 1) := by decide +kernel
theorem dX6_mean_25 : decode cX6_mean 25 = .ok (.iconst 0, 1) := by decide +kernel
theorem dX6_mean_26 : decode cX6_mean 26 = .ok (.istore_n 2, 1) := by decide +kernel
theorem dX6_mean_27 : decode cX6_mean 27 = .ok (.iconst 0, 1) := by decide +kernel
theorem dX6_mean_28 : decode cX6_mean 28 = .ok (.istore_n 3, 1) := by decide +kernel
theorem dX6_mean_29 : decode cX6_mean 29 = .ok (.iload_n 3, 1) := by decide +kernel
theorem dX6_mean_30 : decode cX6_mean 30 = .ok (.aload_n 0, 1) := by decide +kernel
theorem dX6_mean_31 : decode cX6_mean 31 = .ok (.getfield 12, 3) := by decide +kernel
theorem dX6_mean_34 : decode cX6_mean 34 = .ok (.getfield 94, 3) := by decide +kernel
theorem dX6_mean_37 : decode cX6_mean 37 = .ok (.if_icmp .ge 24, 3) := by decide +kernel
theorem dX6_mean_40 : decode cX6_mean 40 = .ok (.iload_n 2, 1) := by decide +kernel
theorem dX6_mean_41 : decode cX6_mean 41 = .ok (.aload_n 0, 1) := by decide +kernel
theorem dX6_mean_42 : decode cX6_mean 42 = .ok (.aload_n 0, 1) := by decide +kernel
theorem dX6_mean_43 : decode cX6_mean 43 = .ok (.getfield 12, 3) := by decide +kernel
theorem dX6_mean_46 : decode cX6_mean 46 = .ok (.iload_n 3, 1) := by decide +kernel
theorem dX6_mean_47 : decode cX6_mean 47 = .ok (.invokevirtual 125, 3) := by decide +kernel
theorem dX6_mean_50 : decode cX6_mean 50 = .ok (.invokevirtual 194, 3) := by decide +kernel
theorem dX6_mean_53 : decode cX6_mean 53 = .ok (.iadd, 1) := by decide +kernel
theorem dX6_mean_54 : decode cX6_mean 54 = .ok (.istore_n 2, 1) := by decide +kernel
theorem dX6_mean_55 : decode cX6_mean 55 = .ok (.iinc 3 1, 3) := by decide +kernel
theorem dX6_mean_58 : decode cX6_mean 58 = .ok (.goto (-29), 3) := by decide +kernel
theorem dX6_mean_61 : decode cX6_mean 61 = .ok (.iload_n 2, 1) := by decide +kernel
theorem dX6_mean_62 : decode cX6_mean 62 = .ok (.aload_n 0, 1) := by decide +kernel
theorem dX6_mean_63 : decode cX6_mean 63 = .ok (.getfield 12, 3) := by decide +kernel
theorem dX6_mean_66 : decode cX6_mean 66 = .ok (.getfield 94, 3) := by decide +kernel
theorem dX6_mean_69 : decode cX6_mean 69 = .ok (.invokestatic 197, 3) := by decide +kernel
theorem dX6_mean_72 : decode cX6_mean 72 = .ok (.istore_n 3, 1) := by decide +kernel
theorem dX6_mean_73 : decode cX6_mean 73 = .ok (.iload_n 3, 1) := by decide +kernel
theorem dX6_mean_74 : decode cX6_mean 74 = .ok (.ifCond .gt 6, 3) := by decide +kernel
theorem dX6_mean_77 : decode cX6_mean 77 = .ok (.bipush (-4), 2) := by decide +kernel
theorem dX6_mean_79 : decode cX6_mean 79 = .ok (.ireturn, 1) := by decide +kernel
theorem dX6_mean_80 : decode cX6_mean 80 = .ok (.iload_n 1, 1) := by decide +kernel
theorem dX6_mean_81 : decode cX6_mean 81 = .ok (.ifCond .ne 7, 3) := by decide +kernel
theorem dX6_mean_84 : decode cX6_mean 84 = .ok (.iload_n 2, 1) := by decide +kernel
theorem dX6_mean_85 : decode cX6_mean 85 = .ok (.goto 10, 3) := by decide +kernel
theorem dX6_mean_88 : decode cX6_mean 88 = .ok (.aload_n 0, 1) := by decide +kernel
theorem dX6_mean_89 : decode cX6_mean 89 = .ok (.getfield 12, 3) := by decide +kernel
theorem dX6_mean_92 : decode cX6_mean 92 = .ok (.getfield 94, 3) := by decide +kernel
theorem dX6_mean_95 : decode cX6_mean 95 = .ok (.iload_n 3, 1) := by decide +kernel
theorem dX6_mean_96 : decode cX6_mean 96 = .ok (.idiv, 1) := by decide +kernel
theorem dX6_mean_97 : decode cX6_mean 97 = .ok (.ireturn, 1) := by decide +kernel
set_option maxRecDepth 20000 in
theorem ggX6_spread_X0_hasLevel : GoodIn wsX6_spread wsX0_hasLevel := goodIn_r _ [6, 7, 49, 50, 51, 52, 53, 54, 55, 56] (by decide +kernel) (by decide +kernel)
set_option maxRecDepth 20000 in
theorem gX6_spread_X0_hasLevel : GoodIn wsX6_spread (wsV RX6 160 RX0 yX0_hasLevel wsX0_hasLevel) := goodIn_app (goodIn_of _ (by decide +kernel)) ggX6_spread_X0_hasLevel
set_option maxRecDepth 20000 in
theorem ggX6_spread_X0_numbersOfLength : GoodIn wsX6_spread wsX0_numbersOfLength := goodIn_r _ [11, 7, 12, 13, 14, 5, 15, 16, 17, 18, 19, 20, 21, 22, 23, 24, 25, 49, 50, 51, 52, 53, 54, 55, 56] (by decide +kernel) (by decide +kernel)
set_option maxRecDepth 20000 in
theorem gX6_spread_X0_numbersOfLength : GoodIn wsX6_spread (wsV RX6 200 RX0 yX0_numbersOfLength wsX0_numbersOfLength) := goodIn_app (goodIn_of _ (by decide +kernel)) ggX6_spread_X0_numbersOfLength
set_option maxRecDepth 20000 in
theorem ggX6_spread_X0_greatestOfLength : GoodIn wsX6_spread wsX0_greatestOfLength := goodIn_r _ [29, 7, 16, 17, 18, 19, 5, 20, 21, 22, 23, 24, 25, 30, 31, 32, 33, 34, 35, 36, 37, 38, 39, 40, 49, 50, 51, 52, 53, 54, 55, 56] (by decide +kernel) (by decide +kernel)
set_option maxRecDepth 20000 in
theorem gX6_spread_X0_greatestOfLength : GoodIn wsX6_spread (wsV RX6 203 RX0 yX0_greatestOfLength wsX0_greatestOfLength) := goodIn_app (goodIn_of _ (by decide +kernel)) ggX6_spread_X0_greatestOfLength
theorem dX6_spread_0 : decode cX6_spread 0 = .ok (.aload_n 0, 1) := by decide +kernel
theorem dX6_spread_1 : decode cX6_spread 1 = .ok (.getfield 12, 3) := by decide +kernel
theorem dX6_spread_4 : decode cX6_spread 4 = .ok (.iload_n 1, 1) := by decide +kernel
theorem dX6_spread_5 : decode cX6_spread 5 = .ok (.invokevirtual 160, 3) := by decide +kernel
theorem dX6_spread_8 : decode cX6_spread 8 = .ok (.ifCond .ne 6, 3) := by decide +kernel
theorem dX6_spread_11 : decode cX6_spread 11 = .ok (.bipush (-2), 2) := by decide +kernel
theorem dX6_spread_13 : decode cX6_spread 13 = .ok (.ireturn, 1) := by decide +kernel
theorem dX6_spread_14 : decode cX6_spread 14 = .ok (.iload_n 2, 1) := by decide +kernel
theorem dX6_spread_15 : decode cX6_spread 15 = .ok (.ifCond .lt 8, 3) := by decide +kernel
theorem dX6_spread_18 : decode cX6_spread 18 = .ok (.iload_n 2, 1) := by decide +kernel
theorem dX6_spread_19 : decode cX6_spread 19 = .ok (.iconst 1, 1) := by decide +kernel
theorem dX6_spread_20 : decode cX6_spread 20 = .ok (.if_icmp .le 6, 3) := by decide +kernel
theorem dX6_spread_23 : decode cX6_spread 23 = .ok (.bipush (-3), 2) := by decide +kernel
theorem dX6_spread_25 : decode cX6_spread 25 = .ok (.ireturn, 1) := by decide +kernel
theorem dX6_spread_26 : decode cX6_spread 26 = .ok (.aload_n 0, 1) := by decide +kernel
theorem dX6_spread_27 : decode cX6_spread 27 = .ok (.getfield 12, 3) := by decide +kernel
theorem dX6_spread_30 : decode cX6_spread 30 = .ok (.iload_n 1, 1) := by decide +kernel
theorem dX6_spread_31 : decode cX6_spread 31 = .ok (.invokevirtual 200, 3) := by decide +kernel
theorem dX6_spread_34 : decode cX6_spread 34 = .ok (.istore_n 3, 1) := by decide +kernel
theorem dX6_spread_35 : decode cX6_spread 35 = .ok (.iload_n 3, 1) := by decide +kernel
theorem dX6_spread_36 : decode cX6_spread 36 = .ok (.ifCond .ne 5, 3) := by decide +kernel
theorem dX6_spread_39 : decode cX6_spread 39 = .ok (.iconst (-1), 1) := by decide +kernel
theorem dX6_spread_40 : decode cX6_spread 40 = .ok (.ireturn, 1) := by decide +kernel
theorem dX6_spread_41 : decode cX6_spread 41 = .ok (.iload_n 2, 1) := by decide +kernel
theorem dX6_spread_42 : decode cX6_spread 42 = .ok (.ifCond .ne 14, 3) := by decide +kernel
theorem dX6_spread_45 : decode cX6_spread 45 = .ok (.aload_n 0, 1) := by decide +kernel
theorem dX6_spread_46 : decode cX6_spread 46 = .ok (.getfield 12, 3) := by decide +kernel
theorem dX6_spread_49 : decode cX6_spread 49 = .ok (.iload_n 1, 1) := by decide +kernel
theorem dX6_spread_50 : decode cX6_spread 50 = .ok (.invokevirtual 203, 3) := by decide +kernel
theorem dX6_spread_53 : decode cX6_spread 53 = .ok (.goto 4, 3) := by decide +kernel
theorem dX6_spread_56 : decode cX6_spread 56 = .ok (.iload_n 3, 1) := by decide +kernel
theorem dX6_spread_57 : decode cX6_spread 57 = .ok (.ireturn, 1) := by decide +kernel
set_option maxRecDepth 20000 in
theorem ggX6_row_X4_known : GoodIn wsX6_row wsX4_known := goodIn_r _ [6, 7, 42, 43] (by decide +kernel) (by decide +kernel)
set_option maxRecDepth 20000 in
theorem gX6_row_X4_known : GoodIn wsX6_row (wsV RX6 206 RX4 yX4_known wsX4_known) := goodIn_app (goodIn_of _ (by decide +kernel)) ggX6_row_X4_known
set_option maxRecDepth 20000 in
theorem ggX6_row_X4_renew : GoodIn wsX6_row wsX4_renew := goodIn_r _ [11, 7, 12, 3, 4, 5, 6, 13, 14, 15, 16, 17, 18, 19, 20, 21, 22, 23, 24, 25, 26, 27, 28, 29, 30, 31, 32, 33, 42, 43] (by decide +kernel) (by decide +kernel)
set_option maxRecDepth 20000 in
theorem gX6_row_X4_renew : GoodIn wsX6_row (wsV RX6 207 RX4 yX4_renew wsX4_renew) := goodIn_app (goodIn_of _ (by decide +kernel)) ggX6_row_X4_renew
theorem dX6_row_0 : decode cX6_row 0 = .ok (.aload_n 0, 1) := by decide +kernel
theorem dX6_row_1 : decode cX6_row 1 = .ok (.getfield 50, 3) := by decide +kernel
theorem dX6_row_4 : decode cX6_row 4 = .ok (.iload_n 1, 1) := by decide +kernel
theorem dX6_row_5 : decode cX6_row 5 = .ok (.invokevirtual 206, 3) := by decide +kernel
theorem dX6_row_8 : decode cX6_row 8 = .ok (.ifCond .ne 6, 3) := by decide +kernel
theorem dX6_row_11 : decode cX6_row 11 = .ok (.bipush (-2), 2) := by decide +kernel
theorem dX6_row_13 : decode cX6_row 13 = .ok (.ireturn, 1) := by decide +kernel
theorem dX6_row_14 : decode cX6_row 14 = .ok (.iload_n 2, 1) := by decide +kernel
theorem dX6_row_15 : decode cX6_row 15 = .ok (.bipush 12, 2) := by decide +kernel
theorem dX6_row_17 : decode cX6_row 17 = .ok (.if_icmp .le 6, 3) := by decide +kernel
theorem dX6_row_20 : decode cX6_row 20 = .ok (.bipush (-3), 2) := by decide +kernel
theorem dX6_row_22 : decode cX6_row 22 = .ok (.ireturn, 1) := by decide +kernel
theorem dX6_row_23 : decode cX6_row 23 = .ok (.iload_n 2, 1) := by decide +kernel
theorem dX6_row_24 : decode cX6_row 24 = .ok (.ifCond .ge 6, 3) := by decide +kernel
theorem dX6_row_27 : decode cX6_row 27 = .ok (.bipush (-13), 2) := by decide +kernel
theorem dX6_row_29 : decode cX6_row 29 = .ok (.ireturn, 1) := by decide +kernel
theorem dX6_row_30 : decode cX6_row 30 = .ok (.aload_n 0, 1) := by decide +kernel
theorem dX6_row_31 : decode cX6_row 31 = .ok (.getfield 50, 3) := by decide +kernel
theorem dX6_row_34 : decode cX6_row 34 = .ok (.iload_n 1, 1) := by decide +kernel
theorem dX6_row_35 : decode cX6_row 35 = .ok (.iload_n 2, 1) := by decide +kernel
theorem dX6_row_36 : decode cX6_row 36 = .ok (.invokevirtual 207, 3) := by decide +kernel
theorem dX6_row_39 : decode cX6_row 39 = .ok (.iload_n 2, 1) := by decide +kernel
theorem dX6_row_40 : decode cX6_row 40 = .ok (.ireturn, 1) := by decide +kernel
set_option maxRecDepth 20000 in
theorem ggX6_set_X4_refusalAt : GoodIn wsX6_set wsX4_refusalAt := goodIn_r _ [6, 7, 8, 9, 5, 10, 11, 12, 13, 14, 15, 16, 17, 18, 19, 38, 39] (by decide +kernel) (by decide +kernel)
set_option maxRecDepth 20000 in
theorem gX6_set_X4_refusalAt : GoodIn wsX6_set (wsV RX6 210 RX4 yX4_refusalAt wsX4_refusalAt) := goodIn_app (goodIn_of _ (by decide +kernel)) ggX6_set_X4_refusalAt
set_option maxRecDepth 20000 in
theorem ggX6_set_X4_put : GoodIn wsX6_set wsX4_put := goodIn_r _ [23, 24, 25, 26, 27, 5, 28, 29, 3, 4, 6, 7, 8, 9, 10, 11, 12, 13, 14, 15, 16, 17, 18, 19, 38, 39] (by decide +kernel) (by decide +kernel)
set_option maxRecDepth 20000 in
theorem gX6_set_X4_put : GoodIn wsX6_set (wsV RX6 213 RX4 yX4_put wsX4_put) := goodIn_app (goodIn_of _ (by decide +kernel)) ggX6_set_X4_put
theorem dX6_set_0 : decode cX6_set 0 = .ok (.aload_n 0, 1) := by decide +kernel
theorem dX6_set_1 : decode cX6_set 1 = .ok (.getfield 50, 3) := by decide +kernel
theorem dX6_set_4 : decode cX6_set 4 = .ok (.iload_n 1, 1) := by decide +kernel
theorem dX6_set_5 : decode cX6_set 5 = .ok (.iload_n 2, 1) := by decide +kernel
theorem dX6_set_6 : decode cX6_set 6 = .ok (.invokevirtual 210, 3) := by decide +kernel
theorem dX6_set_9 : decode cX6_set 9 = .ok (.istore 4, 2) := by decide +kernel
theorem dX6_set_11 : decode cX6_set 11 = .ok (.iload 4, 2) := by decide +kernel
theorem dX6_set_13 : decode cX6_set 13 = .ok (.ifCond .eq 6, 3) := by decide +kernel
theorem dX6_set_16 : decode cX6_set 16 = .ok (.iload 4, 2) := by decide +kernel
theorem dX6_set_18 : decode cX6_set 18 = .ok (.ireturn, 1) := by decide +kernel
theorem dX6_set_19 : decode cX6_set 19 = .ok (.aload_n 0, 1) := by decide +kernel
theorem dX6_set_20 : decode cX6_set 20 = .ok (.getfield 50, 3) := by decide +kernel
theorem dX6_set_23 : decode cX6_set 23 = .ok (.iload_n 1, 1) := by decide +kernel
theorem dX6_set_24 : decode cX6_set 24 = .ok (.iload_n 2, 1) := by decide +kernel
theorem dX6_set_25 : decode cX6_set 25 = .ok (.iload_n 3, 1) := by decide +kernel
theorem dX6_set_26 : decode cX6_set 26 = .ok (.i2l, 1) := by decide +kernel
theorem dX6_set_27 : decode cX6_set 27 = .ok (.invokevirtual 213, 3) := by decide +kernel
theorem dX6_set_30 : decode cX6_set 30 = .ok (.iconst 1, 1) := by decide +kernel
theorem dX6_set_31 : decode cX6_set 31 = .ok (.ireturn, 1) := by decide +kernel
set_option maxRecDepth 20000 in
theorem ggX6_work_X4_known : GoodIn wsX6_work wsX4_known := goodIn_r _ [7, 8, 53, 54] (by decide +kernel) (by decide +kernel)
set_option maxRecDepth 20000 in
theorem gX6_work_X4_known : GoodIn wsX6_work (wsV RX6 206 RX4 yX4_known wsX4_known) := goodIn_app (goodIn_of _ (by decide +kernel)) ggX6_work_X4_known
set_option maxRecDepth 20000 in
theorem ggX6_work_X4_refusalAt : GoodIn wsX6_work wsX4_refusalAt := goodIn_r _ [12, 13, 14, 15, 6, 16, 17, 4, 5, 7, 8, 18, 19, 20, 21, 53, 54] (by decide +kernel) (by decide +kernel)
set_option maxRecDepth 20000 in
theorem gX6_work_X4_refusalAt : GoodIn wsX6_work (wsV RX6 210 RX4 yX4_refusalAt wsX4_refusalAt) := goodIn_app (goodIn_of _ (by decide +kernel)) ggX6_work_X4_refusalAt
set_option maxRecDepth 20000 in
theorem ggX6_work_X4_at : GoodIn wsX6_work wsX4_at := goodIn_r _ [25, 26, 27, 28, 29, 6, 30, 31, 10, 11, 12, 13, 14, 15, 16, 17, 4, 5, 7, 8, 18, 19, 20, 21, 53, 54] (by decide +kernel) (by decide +kernel)
set_option maxRecDepth 20000 in
theorem gX6_work_X4_at : GoodIn wsX6_work (wsV RX6 217 RX4 yX4_at wsX4_at) := goodIn_app (goodIn_of _ (by decide +kernel)) ggX6_work_X4_at
set_option maxRecDepth 20000 in
theorem ggX6_work_X6_isOver : GoodIn wsX6_work wsX6_isOver := goodIn_r _ [35, 36, 37, 38, 39, 34, 40] (by decide +kernel) (by decide +kernel)
set_option maxRecDepth 20000 in
theorem gX6_work_X6_isOver : GoodIn wsX6_work (va_wsS RX6 221 yX6_isOver wsX6_isOver) := goodIn_app (goodIn_of _ (by decide +kernel)) ggX6_work_X6_isOver
set_option maxRecDepth 20000 in
theorem ggX6_work_X6_worked : GoodIn wsX6_work wsX6_worked := goodIn_r _ [40] (by decide +kernel) (by decide +kernel)
set_option maxRecDepth 20000 in
theorem gX6_work_X6_worked : GoodIn wsX6_work (va_wsS RX6 225 yX6_worked wsX6_worked) := goodIn_app (goodIn_of _ (by decide +kernel)) ggX6_work_X6_worked
set_option maxRecDepth 20000 in
theorem ggX6_work_X4_put : GoodIn wsX6_work wsX4_put := goodIn_r _ [44, 26, 27, 28, 29, 6, 30, 31, 10, 11, 12, 13, 14, 15, 16, 17, 4, 5, 7, 8, 18, 19, 20, 21, 53, 54] (by decide +kernel) (by decide +kernel)
set_option maxRecDepth 20000 in
theorem gX6_work_X4_put : GoodIn wsX6_work (wsV RX6 213 RX4 yX4_put wsX4_put) := goodIn_app (goodIn_of _ (by decide +kernel)) ggX6_work_X4_put
theorem dX6_work_0 : decode cX6_work 0 = .ok (.aload_n 0, 1) := by decide +kernel
theorem dX6_work_1 : decode cX6_work 1 = .ok (.getfield 50, 3) := by decide +kernel
theorem dX6_work_4 : decode cX6_work 4 = .ok (.iload_n 1, 1) := by decide +kernel
theorem dX6_work_5 : decode cX6_work 5 = .ok (.invokevirtual 206, 3) := by decide +kernel
theorem dX6_work_8 : decode cX6_work 8 = .ok (.ifCond .ne 6, 3) := by decide +kernel
theorem dX6_work_11 : decode cX6_work 11 = .ok (.bipush (-2), 2) := by decide +kernel
theorem dX6_work_13 : decode cX6_work 13 = .ok (.ireturn, 1) := by decide +kernel
theorem dX6_work_14 : decode cX6_work 14 = .ok (.iload_n 3, 1) := by decide +kernel
theorem dX6_work_15 : decode cX6_work 15 = .ok (.ifCond .lt 8, 3) := by decide +kernel
theorem dX6_work_18 : decode cX6_work 18 = .ok (.iload_n 3, 1) := by decide +kernel
theorem dX6_work_19 : decode cX6_work 19 = .ok (.iconst 2, 1) := by decide +kernel
theorem dX6_work_20 : decode cX6_work 20 = .ok (.if_icmp .le 6, 3) := by decide +kernel
theorem dX6_work_23 : decode cX6_work 23 = .ok (.bipush (-3), 2) := by decide +kernel
theorem dX6_work_25 : decode cX6_work 25 = .ok (.ireturn, 1) := by decide +kernel
theorem dX6_work_26 : decode cX6_work 26 = .ok (.aload_n 0, 1) := by decide +kernel
theorem dX6_work_27 : decode cX6_work 27 = .ok (.getfield 50, 3) := by decide +kernel
theorem dX6_work_30 : decode cX6_work 30 = .ok (.iload_n 1, 1) := by decide +kernel
theorem dX6_work_31 : decode cX6_work 31 = .ok (.iload_n 2, 1) := by decide +kernel
theorem dX6_work_32 : decode cX6_work 32 = .ok (.invokevirtual 210, 3) := by decide +kernel
theorem dX6_work_35 : decode cX6_work 35 = .ok (.istore 5, 2) := by decide +kernel
theorem dX6_work_37 : decode cX6_work 37 = .ok (.iload 5, 2) := by decide +kernel
theorem dX6_work_39 : decode cX6_work 39 = .ok (.ifCond .eq 6, 3) := by decide +kernel
theorem dX6_work_42 : decode cX6_work 42 = .ok (.iload 5, 2) := by decide +kernel
theorem dX6_work_44 : decode cX6_work 44 = .ok (.ireturn, 1) := by decide +kernel
theorem dX6_work_45 : decode cX6_work 45 = .ok (.aload_n 0, 1) := by decide +kernel
theorem dX6_work_46 : decode cX6_work 46 = .ok (.getfield 50, 3) := by decide +kernel
theorem dX6_work_49 : decode cX6_work 49 = .ok (.iload_n 1, 1) := by decide +kernel
theorem dX6_work_50 : decode cX6_work 50 = .ok (.iload_n 2, 1) := by decide +kernel
theorem dX6_work_51 : decode cX6_work 51 = .ok (.invokevirtual 217, 3) := by decide +kernel
theorem dX6_work_54 : decode cX6_work 54 = .ok (.lstore 6, 2) := by decide +kernel
theorem dX6_work_56 : decode cX6_work 56 = .ok (.lload 6, 2) := by decide +kernel
theorem dX6_work_58 : decode cX6_work 58 = .ok (.iload_n 3, 1) := by decide +kernel
theorem dX6_work_59 : decode cX6_work 59 = .ok (.iload 4, 2) := by decide +kernel
theorem dX6_work_61 : decode cX6_work 61 = .ok (.i2l, 1) := by decide +kernel
theorem dX6_work_62 : decode cX6_work 62 = .ok (.invokestatic 221, 3) := by decide +kernel
theorem dX6_work_65 : decode cX6_work 65 = .ok (.ifCond .eq 6, 3) := by decide +kernel
theorem dX6_work_68 : decode cX6_work 68 = .ok (.bipush (-14), 2) := by decide +kernel
theorem dX6_work_70 : decode cX6_work 70 = .ok (.ireturn, 1) := by decide +kernel
theorem dX6_work_71 : decode cX6_work 71 = .ok (.aload_n 0, 1) := by decide +kernel
theorem dX6_work_72 : decode cX6_work 72 = .ok (.lload 6, 2) := by decide +kernel
theorem dX6_work_74 : decode cX6_work 74 = .ok (.iload_n 3, 1) := by decide +kernel
theorem dX6_work_75 : decode cX6_work 75 = .ok (.iload 4, 2) := by decide +kernel
theorem dX6_work_77 : decode cX6_work 77 = .ok (.i2l, 1) := by decide +kernel
theorem dX6_work_78 : decode cX6_work 78 = .ok (.invokestatic 225, 3) := by decide +kernel
theorem dX6_work_81 : decode cX6_work 81 = .ok (.putfield 54, 3) := by decide +kernel
theorem dX6_work_84 : decode cX6_work 84 = .ok (.aload_n 0, 1) := by decide +kernel
theorem dX6_work_85 : decode cX6_work 85 = .ok (.getfield 50, 3) := by decide +kernel
theorem dX6_work_88 : decode cX6_work 88 = .ok (.iload_n 1, 1) := by decide +kernel
theorem dX6_work_89 : decode cX6_work 89 = .ok (.iload_n 2, 1) := by decide +kernel
theorem dX6_work_90 : decode cX6_work 90 = .ok (.aload_n 0, 1) := by decide +kernel
theorem dX6_work_91 : decode cX6_work 91 = .ok (.getfield 54, 3) := by decide +kernel
theorem dX6_work_94 : decode cX6_work 94 = .ok (.invokevirtual 213, 3) := by decide +kernel
theorem dX6_work_97 : decode cX6_work 97 = .ok (.iconst 1, 1) := by decide +kernel
theorem dX6_work_98 : decode cX6_work 98 = .ok (.ireturn, 1) := by decide +kernel
set_option maxRecDepth 20000 in
theorem ggX6_bits_X4_refusalAt : GoodIn wsX6_bits wsX4_refusalAt := goodIn_r _ [7, 8, 9, 10, 6, 11, 12, 13, 14, 15, 16, 17, 18, 19, 20, 46, 47] (by decide +kernel) (by decide +kernel)
set_option maxRecDepth 20000 in
theorem gX6_bits_X4_refusalAt : GoodIn wsX6_bits (wsV RX6 210 RX4 yX4_refusalAt wsX4_refusalAt) := goodIn_app (goodIn_of _ (by decide +kernel)) ggX6_bits_X4_refusalAt
set_option maxRecDepth 20000 in
theorem ggX6_bits_X4_at : GoodIn wsX6_bits wsX4_at := goodIn_r _ [24, 25, 26, 27, 28, 6, 29, 30, 4, 5, 7, 8, 9, 10, 11, 12, 13, 14, 15, 16, 17, 18, 19, 20, 46, 47] (by decide +kernel) (by decide +kernel)
set_option maxRecDepth 20000 in
theorem gX6_bits_X4_at : GoodIn wsX6_bits (wsV RX6 217 RX4 yX4_at wsX4_at) := goodIn_app (goodIn_of _ (by decide +kernel)) ggX6_bits_X4_at
set_option maxRecDepth 20000 in
theorem ggX6_bits_J13_bitCount_95d88 : GoodIn wsX6_bits wsJ13_bitCount_95d88 := goodIn_r _ [34, 35, 36, 37] (by decide +kernel) (by decide +kernel)
set_option maxRecDepth 20000 in
theorem gX6_bits_J13_bitCount_95d88 : GoodIn wsX6_bits (va_wsS RX6 229 yJ13_bitCount_95d88 wsJ13_bitCount_95d88) := goodIn_app (goodIn_of _ (by decide +kernel)) ggX6_bits_J13_bitCount_95d88
theorem dX6_bits_0 : decode cX6_bits 0 = .ok (.aload_n 0, 1) := by decide +kernel
theorem dX6_bits_1 : decode cX6_bits 1 = .ok (.getfield 50, 3) := by decide +kernel
theorem dX6_bits_4 : decode cX6_bits 4 = .ok (.iload_n 1, 1) := by decide +kernel
theorem dX6_bits_5 : decode cX6_bits 5 = .ok (.iload_n 2, 1) := by decide +kernel
theorem dX6_bits_6 : decode cX6_bits 6 = .ok (.invokevirtual 210, 3) := by decide +kernel
theorem dX6_bits_9 : decode cX6_bits 9 = .ok (.istore_n 3, 1) := by decide +kernel
theorem dX6_bits_10 : decode cX6_bits 10 = .ok (.iload_n 3, 1) := by decide +kernel
theorem dX6_bits_11 : decode cX6_bits 11 = .ok (.ifCond .eq 5, 3) := by decide +kernel
theorem dX6_bits_14 : decode cX6_bits 14 = .ok (.iload_n 3, 1) := by decide +kernel
theorem dX6_bits_15 : decode cX6_bits 15 = .ok (.ireturn, 1) := by decide +kernel
theorem dX6_bits_16 : decode cX6_bits 16 = .ok (.aload_n 0, 1) := by decide +kernel
theorem dX6_bits_17 : decode cX6_bits 17 = .ok (.aload_n 0, 1) := by decide +kernel
theorem dX6_bits_18 : decode cX6_bits 18 = .ok (.getfield 50, 3) := by decide +kernel
theorem dX6_bits_21 : decode cX6_bits 21 = .ok (.iload_n 1, 1) := by decide +kernel
theorem dX6_bits_22 : decode cX6_bits 22 = .ok (.iload_n 2, 1) := by decide +kernel
theorem dX6_bits_23 : decode cX6_bits 23 = .ok (.invokevirtual 217, 3) := by decide +kernel
theorem dX6_bits_26 : decode cX6_bits 26 = .ok (.invokestatic 229, 3) := by decide +kernel
theorem dX6_bits_29 : decode cX6_bits 29 = .ok (.i2l, 1) := by decide +kernel
theorem dX6_bits_30 : decode cX6_bits 30 = .ok (.putfield 54, 3) := by decide +kernel
theorem dX6_bits_33 : decode cX6_bits 33 = .ok (.iconst 1, 1) := by decide +kernel
theorem dX6_bits_34 : decode cX6_bits 34 = .ok (.ireturn, 1) := by decide +kernel
set_option maxRecDepth 20000 in
theorem ggX6_sum_X4_refusalOf : GoodIn wsX6_sum wsX4_refusalOf := goodIn_r _ [7, 8, 9, 10, 6, 11, 12, 13, 14, 15, 16, 49, 50] (by decide +kernel) (by decide +kernel)
set_option maxRecDepth 20000 in
theorem gX6_sum_X4_refusalOf : GoodIn wsX6_sum (wsV RX6 235 RX4 yX4_refusalOf wsX4_refusalOf) := goodIn_app (goodIn_of _ (by decide +kernel)) ggX6_sum_X4_refusalOf
set_option maxRecDepth 20000 in
theorem ggX6_sum_X4_lengthOf : GoodIn wsX6_sum wsX4_lengthOf := goodIn_r _ [16, 12, 8, 9, 10, 6, 11, 49, 50] (by decide +kernel) (by decide +kernel)
set_option maxRecDepth 20000 in
theorem gX6_sum_X4_lengthOf : GoodIn wsX6_sum (wsV RX6 238 RX4 yX4_lengthOf wsX4_lengthOf) := goodIn_app (goodIn_of _ (by decide +kernel)) ggX6_sum_X4_lengthOf
set_option maxRecDepth 20000 in
theorem ggX6_sum_X4_at : GoodIn wsX6_sum wsX4_at := goodIn_r _ [21, 22, 23, 24, 25, 6, 26, 27, 28, 29, 30, 31, 4, 5, 7, 8, 9, 10, 11, 12, 13, 14, 15, 16, 49, 50] (by decide +kernel) (by decide +kernel)
set_option maxRecDepth 20000 in
theorem gX6_sum_X4_at : GoodIn wsX6_sum (wsV RX6 217 RX4 yX4_at wsX4_at) := goodIn_app (goodIn_of _ (by decide +kernel)) ggX6_sum_X4_at
set_option maxRecDepth 20000 in
theorem ggX6_sum_X6_isOver : GoodIn wsX6_sum wsX6_isOver := goodIn_r _ [35, 36, 37, 38, 39, 34, 40] (by decide +kernel) (by decide +kernel)
set_option maxRecDepth 20000 in
theorem gX6_sum_X6_isOver : GoodIn wsX6_sum (va_wsS RX6 221 yX6_isOver wsX6_isOver) := goodIn_app (goodIn_of _ (by decide +kernel)) ggX6_sum_X6_isOver
theorem dX6_sum_0 : decode cX6_sum 0 = .ok (.aload_n 0, 1) := by decide +kernel
theorem dX6_sum_1 : decode cX6_sum 1 = .ok (.getfield 50, 3) := by decide +kernel
theorem dX6_sum_4 : decode cX6_sum 4 = .ok (.iload_n 1, 1) := by decide +kernel
theorem dX6_sum_5 : decode cX6_sum 5 = .ok (.invokevirtual 235, 3) := by decide +kernel
theorem dX6_sum_8 : decode cX6_sum 8 = .ok (.istore_n 2, 1) := by decide +kernel
theorem dX6_sum_9 : decode cX6_sum 9 = .ok (.iload_n 2, 1) := by decide +kernel
theorem dX6_sum_10 : decode cX6_sum 10 = .ok (.ifCond .eq 5, 3) := by decide +kernel
theorem dX6_sum_13 : decode cX6_sum 13 = .ok (.iload_n 2, 1) := by decide +kernel
theorem dX6_sum_14 : decode cX6_sum 14 = .ok (.ireturn, 1) := by decide +kernel
theorem dX6_sum_15 : decode cX6_sum 15 = .ok (.lconst 0, 1) := by decide +kernel
theorem dX6_sum_16 : decode cX6_sum 16 = .ok (.lstore_n 3, 1) := by decide +kernel
theorem dX6_sum_17 : decode cX6_sum 17 = .ok (.iconst 0, 1) := by decide +kernel
theorem dX6_sum_18 : decode cX6_sum 18 = .ok (.istore 5, 2) := by decide +kernel
theorem dX6_sum_20 : decode cX6_sum 20 = .ok (.iload 5, 2) := by decide +kernel
theorem dX6_sum_22 : decode cX6_sum 22 = .ok (.aload_n 0, 1) := by decide +kernel
theorem dX6_sum_23 : decode cX6_sum 23 = .ok (.getfield 50, 3) := by decide +kernel
theorem dX6_sum_26 : decode cX6_sum 26 = .ok (.iload_n 1, 1) := by decide +kernel
theorem dX6_sum_27 : decode cX6_sum 27 = .ok (.invokevirtual 238, 3) := by decide +kernel
theorem dX6_sum_30 : decode cX6_sum 30 = .ok (.if_icmp .ge 39, 3) := by decide +kernel
theorem dX6_sum_33 : decode cX6_sum 33 = .ok (.aload_n 0, 1) := by decide +kernel
theorem dX6_sum_34 : decode cX6_sum 34 = .ok (.getfield 50, 3) := by decide +kernel
theorem dX6_sum_37 : decode cX6_sum 37 = .ok (.iload_n 1, 1) := by decide +kernel
theorem dX6_sum_38 : decode cX6_sum 38 = .ok (.iload 5, 2) := by decide +kernel
theorem dX6_sum_40 : decode cX6_sum 40 = .ok (.invokevirtual 217, 3) := by decide +kernel
theorem dX6_sum_43 : decode cX6_sum 43 = .ok (.lstore 6, 2) := by decide +kernel
theorem dX6_sum_45 : decode cX6_sum 45 = .ok (.lload_n 3, 1) := by decide +kernel
theorem dX6_sum_46 : decode cX6_sum 46 = .ok (.iconst 0, 1) := by decide +kernel
theorem dX6_sum_47 : decode cX6_sum 47 = .ok (.lload 6, 2) := by decide +kernel
theorem dX6_sum_49 : decode cX6_sum 49 = .ok (.invokestatic 221, 3) := by decide +kernel
theorem dX6_sum_52 : decode cX6_sum 52 = .ok (.ifCond .eq 6, 3) := by decide +kernel
theorem dX6_sum_55 : decode cX6_sum 55 = .ok (.bipush (-14), 2) := by decide +kernel
theorem dX6_sum_57 : decode cX6_sum 57 = .ok (.ireturn, 1) := by decide +kernel
theorem dX6_sum_58 : decode cX6_sum 58 = .ok (.lload_n 3, 1) := by decide +kernel
theorem dX6_sum_59 : decode cX6_sum 59 = .ok (.lload 6, 2) := by decide +kernel
theorem dX6_sum_61 : decode cX6_sum 61 = .ok (.ladd, 1) := by decide +kernel
theorem dX6_sum_62 : decode cX6_sum 62 = .ok (.lstore_n 3, 1) := by decide +kernel
theorem dX6_sum_63 : decode cX6_sum 63 = .ok (.iinc 5 1, 3) := by decide +kernel
theorem dX6_sum_66 : decode cX6_sum 66 = .ok (.goto (-46), 3) := by decide +kernel
theorem dX6_sum_69 : decode cX6_sum 69 = .ok (.aload_n 0, 1) := by decide +kernel
theorem dX6_sum_70 : decode cX6_sum 70 = .ok (.lload_n 3, 1) := by decide +kernel
theorem dX6_sum_71 : decode cX6_sum 71 = .ok (.putfield 54, 3) := by decide +kernel
theorem dX6_sum_74 : decode cX6_sum 74 = .ok (.aload_n 0, 1) := by decide +kernel
theorem dX6_sum_75 : decode cX6_sum 75 = .ok (.getfield 50, 3) := by decide +kernel
theorem dX6_sum_78 : decode cX6_sum 78 = .ok (.iload_n 1, 1) := by decide +kernel
theorem dX6_sum_79 : decode cX6_sum 79 = .ok (.invokevirtual 238, 3) := by decide +kernel
theorem dX6_sum_82 : decode cX6_sum 82 = .ok (.ireturn, 1) := by decide +kernel
set_option maxRecDepth 20000 in
theorem ggX6_load_X4_known : GoodIn wsX6_load wsX4_known := goodIn_r _ [14, 15, 63, 64] (by decide +kernel) (by decide +kernel)
set_option maxRecDepth 20000 in
theorem gX6_load_X4_known : GoodIn wsX6_load (wsV RX6 206 RX4 yX4_known wsX4_known) := goodIn_app (goodIn_of _ (by decide +kernel)) ggX6_load_X4_known
set_option maxRecDepth 20000 in
theorem ggX6_load_X4_refusalOf : GoodIn wsX6_load wsX4_refusalOf := goodIn_r _ [19, 20, 11, 12, 13, 14, 15, 21, 22, 23, 24, 63, 64] (by decide +kernel) (by decide +kernel)
set_option maxRecDepth 20000 in
theorem gX6_load_X4_refusalOf : GoodIn wsX6_load (wsV RX6 235 RX4 yX4_refusalOf wsX4_refusalOf) := goodIn_app (goodIn_of _ (by decide +kernel)) ggX6_load_X4_refusalOf
set_option maxRecDepth 20000 in
theorem ggX6_load_X4_lengthOf : GoodIn wsX6_load wsX4_lengthOf := goodIn_r _ [24, 15, 20, 11, 12, 13, 14, 63, 64] (by decide +kernel) (by decide +kernel)
set_option maxRecDepth 20000 in
theorem gX6_load_X4_lengthOf : GoodIn wsX6_load (wsV RX6 238 RX4 yX4_lengthOf wsX4_lengthOf) := goodIn_app (goodIn_of _ (by decide +kernel)) ggX6_load_X4_lengthOf
set_option maxRecDepth 20000 in
theorem ggX6_load_X0_keyAt : GoodIn wsX6_load wsX0_keyAt := goodIn_r _ [30, 31, 32, 55, 56, 57, 58, 59, 60, 61, 62] (by decide +kernel) (by decide +kernel)
set_option maxRecDepth 20000 in
theorem gX6_load_X0_keyAt : GoodIn wsX6_load (wsV RX6 125 RX0 yX0_keyAt wsX0_keyAt) := goodIn_app (goodIn_of _ (by decide +kernel)) ggX6_load_X0_keyAt
set_option maxRecDepth 20000 in
theorem ggX6_load_X4_put : GoodIn wsX6_load wsX4_put := goodIn_r _ [36, 37, 38, 39, 40, 13, 41, 42, 43, 44, 45, 46, 17, 18, 19, 20, 11, 12, 14, 15, 21, 22, 23, 24, 63, 64] (by decide +kernel) (by decide +kernel)
set_option maxRecDepth 20000 in
theorem gX6_load_X4_put : GoodIn wsX6_load (wsV RX6 213 RX4 yX4_put wsX4_put) := goodIn_app (goodIn_of _ (by decide +kernel)) ggX6_load_X4_put
theorem dX6_load_0 : decode cX6_load 0 = .ok (.aload_n 0, 1) := by decide +kernel
theorem dX6_load_1 : decode cX6_load 1 = .ok (.getfield 50, 3) := by decide +kernel
theorem dX6_load_4 : decode cX6_load 4 = .ok (.iload_n 1, 1) := by decide +kernel
theorem dX6_load_5 : decode cX6_load 5 = .ok (.invokevirtual 206, 3) := by decide +kernel
theorem dX6_load_8 : decode cX6_load 8 = .ok (.ifCond .ne 6, 3) := by decide +kernel
theorem dX6_load_11 : decode cX6_load 11 = .ok (.bipush (-2), 2) := by decide +kernel
theorem dX6_load_13 : decode cX6_load 13 = .ok (.ireturn, 1) := by decide +kernel
theorem dX6_load_14 : decode cX6_load 14 = .ok (.iload_n 2, 1) := by decide +kernel
theorem dX6_load_15 : decode cX6_load 15 = .ok (.ifCond .ge 6, 3) := by decide +kernel
theorem dX6_load_18 : decode cX6_load 18 = .ok (.bipush (-3), 2) := by decide +kernel
theorem dX6_load_20 : decode cX6_load 20 = .ok (.ireturn, 1) := by decide +kernel
theorem dX6_load_21 : decode cX6_load 21 = .ok (.aload_n 0, 1) := by decide +kernel
theorem dX6_load_22 : decode cX6_load 22 = .ok (.getfield 50, 3) := by decide +kernel
theorem dX6_load_25 : decode cX6_load 25 = .ok (.iload_n 1, 1) := by decide +kernel
theorem dX6_load_26 : decode cX6_load 26 = .ok (.invokevirtual 235, 3) := by decide +kernel
theorem dX6_load_29 : decode cX6_load 29 = .ok (.istore_n 3, 1) := by decide +kernel
theorem dX6_load_30 : decode cX6_load 30 = .ok (.iload_n 3, 1) := by decide +kernel
theorem dX6_load_31 : decode cX6_load 31 = .ok (.ifCond .eq 5, 3) := by decide +kernel
theorem dX6_load_34 : decode cX6_load 34 = .ok (.iload_n 3, 1) := by decide +kernel
theorem dX6_load_35 : decode cX6_load 35 = .ok (.ireturn, 1) := by decide +kernel
theorem dX6_load_36 : decode cX6_load 36 = .ok (.iconst 0, 1) := by decide +kernel
theorem dX6_load_37 : decode cX6_load 37 = .ok (.aload_n 0, 1) := by decide +kernel
theorem dX6_load_38 : decode cX6_load 38 = .ok (.getfield 50, 3) := by decide +kernel
theorem dX6_load_41 : decode cX6_load 41 = .ok (.iload_n 1, 1) := by decide +kernel
theorem dX6_load_42 : decode cX6_load 42 = .ok (.invokevirtual 238, 3) := by decide +kernel
theorem dX6_load_45 : decode cX6_load 45 = .ok (.aload_n 0, 1) := by decide +kernel
theorem dX6_load_46 : decode cX6_load 46 = .ok (.getfield 12, 3) := by decide +kernel
theorem dX6_load_49 : decode cX6_load 49 = .ok (.getfield 94, 3) := by decide +kernel
theorem dX6_load_52 : decode cX6_load 52 = .ok (.iload_n 2, 1) := by decide +kernel
theorem dX6_load_53 : decode cX6_load 53 = .ok (.isub, 1) := by decide +kernel
theorem dX6_load_54 : decode cX6_load 54 = .ok (.invokestatic 241, 3) := by decide +kernel
theorem dX6_load_57 : decode cX6_load 57 = .ok (.invokestatic 246, 3) := by decide +kernel
theorem dX6_load_60 : decode cX6_load 60 = .ok (.istore 4, 2) := by decide +kernel
theorem dX6_load_62 : decode cX6_load 62 = .ok (.iconst 0, 1) := by decide +kernel
theorem dX6_load_63 : decode cX6_load 63 = .ok (.istore 5, 2) := by decide +kernel
theorem dX6_load_65 : decode cX6_load 65 = .ok (.iload 5, 2) := by decide +kernel
theorem dX6_load_67 : decode cX6_load 67 = .ok (.iload 4, 2) := by decide +kernel
theorem dX6_load_69 : decode cX6_load 69 = .ok (.if_icmp .ge 31, 3) := by decide +kernel
theorem dX6_load_72 : decode cX6_load 72 = .ok (.aload_n 0, 1) := by decide +kernel
theorem dX6_load_73 : decode cX6_load 73 = .ok (.getfield 50, 3) := by decide +kernel
theorem dX6_load_76 : decode cX6_load 76 = .ok (.iload_n 1, 1) := by decide +kernel
theorem dX6_load_77 : decode cX6_load 77 = .ok (.iload 5, 2) := by decide +kernel
theorem dX6_load_79 : decode cX6_load 79 = .ok (.aload_n 0, 1) := by decide +kernel
theorem dX6_load_80 : decode cX6_load 80 = .ok (.getfield 12, 3) := by decide +kernel
theorem dX6_load_83 : decode cX6_load 83 = .ok (.iload_n 2, 1) := by decide +kernel
theorem dX6_load_84 : decode cX6_load 84 = .ok (.iload 5, 2) := by decide +kernel
theorem dX6_load_86 : decode cX6_load 86 = .ok (.iadd, 1) := by decide +kernel
theorem dX6_load_87 : decode cX6_load 87 = .ok (.invokevirtual 125, 3) := by decide +kernel
theorem dX6_load_90 : decode cX6_load 90 = .ok (.i2l, 1) := by decide +kernel
theorem dX6_load_91 : decode cX6_load 91 = .ok (.invokevirtual 213, 3) := by decide +kernel
theorem dX6_load_94 : decode cX6_load 94 = .ok (.iinc 5 1, 3) := by decide +kernel
theorem dX6_load_97 : decode cX6_load 97 = .ok (.goto (-32), 3) := by decide +kernel
theorem dX6_load_100 : decode cX6_load 100 = .ok (.iload 4, 2) := by decide +kernel
theorem dX6_load_102 : decode cX6_load 102 = .ok (.ireturn, 1) := by decide +kernel
set_option maxRecDepth 20000 in
theorem ggX6_drop_X4_refusalOf : GoodIn wsX6_drop wsX4_refusalOf := goodIn_r _ [6, 7, 8, 9, 5, 10, 11, 12, 13, 14, 15, 29, 30] (by decide +kernel) (by decide +kernel)
set_option maxRecDepth 20000 in
theorem gX6_drop_X4_refusalOf : GoodIn wsX6_drop (wsV RX6 235 RX4 yX4_refusalOf wsX4_refusalOf) := goodIn_app (goodIn_of _ (by decide +kernel)) ggX6_drop_X4_refusalOf
set_option maxRecDepth 20000 in
theorem ggX6_drop_X4_lengthOf : GoodIn wsX6_drop wsX4_lengthOf := goodIn_r _ [15, 11, 7, 8, 9, 5, 10, 29, 30] (by decide +kernel) (by decide +kernel)
set_option maxRecDepth 20000 in
theorem gX6_drop_X4_lengthOf : GoodIn wsX6_drop (wsV RX6 238 RX4 yX4_lengthOf wsX4_lengthOf) := goodIn_app (goodIn_of _ (by decide +kernel)) ggX6_drop_X4_lengthOf
set_option maxRecDepth 20000 in
theorem ggX6_drop_X4_lose : GoodIn wsX6_drop wsX4_lose := goodIn_r _ [20, 11, 7, 8, 9, 5, 10, 29, 30] (by decide +kernel) (by decide +kernel)
set_option maxRecDepth 20000 in
theorem gX6_drop_X4_lose : GoodIn wsX6_drop (wsV RX6 249 RX4 yX4_lose wsX4_lose) := goodIn_app (goodIn_of _ (by decide +kernel)) ggX6_drop_X4_lose
theorem dX6_drop_0 : decode cX6_drop 0 = .ok (.aload_n 0, 1) := by decide +kernel
theorem dX6_drop_1 : decode cX6_drop 1 = .ok (.getfield 50, 3) := by decide +kernel
theorem dX6_drop_4 : decode cX6_drop 4 = .ok (.iload_n 1, 1) := by decide +kernel
theorem dX6_drop_5 : decode cX6_drop 5 = .ok (.invokevirtual 235, 3) := by decide +kernel
theorem dX6_drop_8 : decode cX6_drop 8 = .ok (.istore_n 2, 1) := by decide +kernel
theorem dX6_drop_9 : decode cX6_drop 9 = .ok (.iload_n 2, 1) := by decide +kernel
theorem dX6_drop_10 : decode cX6_drop 10 = .ok (.ifCond .eq 5, 3) := by decide +kernel
theorem dX6_drop_13 : decode cX6_drop 13 = .ok (.iload_n 2, 1) := by decide +kernel
theorem dX6_drop_14 : decode cX6_drop 14 = .ok (.ireturn, 1) := by decide +kernel
theorem dX6_drop_15 : decode cX6_drop 15 = .ok (.aload_n 0, 1) := by decide +kernel
theorem dX6_drop_16 : decode cX6_drop 16 = .ok (.getfield 50, 3) := by decide +kernel
theorem dX6_drop_19 : decode cX6_drop 19 = .ok (.iload_n 1, 1) := by decide +kernel
theorem dX6_drop_20 : decode cX6_drop 20 = .ok (.invokevirtual 238, 3) := by decide +kernel
theorem dX6_drop_23 : decode cX6_drop 23 = .ok (.istore_n 3, 1) := by decide +kernel
theorem dX6_drop_24 : decode cX6_drop 24 = .ok (.aload_n 0, 1) := by decide +kernel
theorem dX6_drop_25 : decode cX6_drop 25 = .ok (.getfield 50, 3) := by decide +kernel
theorem dX6_drop_28 : decode cX6_drop 28 = .ok (.iload_n 1, 1) := by decide +kernel
theorem dX6_drop_29 : decode cX6_drop 29 = .ok (.invokevirtual 249, 3) := by decide +kernel
theorem dX6_drop_32 : decode cX6_drop 32 = .ok (.iload_n 3, 1) := by decide +kernel
theorem dX6_drop_33 : decode cX6_drop 33 = .ok (.ireturn, 1) := by decide +kernel
theorem dX6_asked_0 : decode cX6_asked 0 = .ok (.aload_n 0, 1) := by decide +kernel
theorem dX6_asked_1 : decode cX6_asked 1 = .ok (.getfield 54, 3) := by decide +kernel
theorem dX6_asked_4 : decode cX6_asked 4 = .ok (.lreturn, 1) := by decide +kernel
set_option maxRecDepth 20000 in
theorem ggX6_count_X0_allBeginnings : GoodIn wsX6_count wsX0_allBeginnings := goodIn_r _ [9, 10, 11, 12, 13, 8, 14, 15, 16, 17, 18, 19, 20, 21, 22, 23, 24, 43, 44, 45, 46, 47, 48, 49, 50] (by decide +kernel) (by decide +kernel)
set_option maxRecDepth 20000 in
theorem gX6_count_X0_allBeginnings : GoodIn wsX6_count (wsV RX6 255 RX0 yX0_allBeginnings wsX0_allBeginnings) := goodIn_app (goodIn_of _ (by decide +kernel)) ggX6_count_X0_allBeginnings
set_option maxRecDepth 20000 in
theorem ggX6_count_X4_allPlaces : GoodIn wsX6_count wsX4_allPlaces := goodIn_r _ [29, 30, 31, 32, 33, 34, 63, 64] (by decide +kernel) (by decide +kernel)
set_option maxRecDepth 20000 in
theorem gX6_count_X4_allPlaces : GoodIn wsX6_count (wsV RX6 258 RX4 yX4_allPlaces wsX4_allPlaces) := goodIn_app (goodIn_of _ (by decide +kernel)) ggX6_count_X4_allPlaces
theorem dX6_count_0 : decode cX6_count 0 = .ok (.iload_n 1, 1) := by decide +kernel
theorem dX6_count_1 : decode cX6_count 1 = .ok (.tableswitch 135 0 9 #[55, 63, 71, 79, 87, 95, 103, 111, 119, 127], 55) := by decide +kernel
theorem dX6_count_56 : decode cX6_count 56 = .ok (.aload_n 0, 1) := by decide +kernel
theorem dX6_count_57 : decode cX6_count 57 = .ok (.getfield 12, 3) := by decide +kernel
theorem dX6_count_60 : decode cX6_count 60 = .ok (.getfield 70, 3) := by decide +kernel
theorem dX6_count_63 : decode cX6_count 63 = .ok (.ireturn, 1) := by decide +kernel
theorem dX6_count_64 : decode cX6_count 64 = .ok (.aload_n 0, 1) := by decide +kernel
theorem dX6_count_65 : decode cX6_count 65 = .ok (.getfield 12, 3) := by decide +kernel
theorem dX6_count_68 : decode cX6_count 68 = .ok (.getfield 252, 3) := by decide +kernel
theorem dX6_count_71 : decode cX6_count 71 = .ok (.ireturn, 1) := by decide +kernel
theorem dX6_count_72 : decode cX6_count 72 = .ok (.aload_n 0, 1) := by decide +kernel
theorem dX6_count_73 : decode cX6_count 73 = .ok (.getfield 12, 3) := by decide +kernel
theorem dX6_count_76 : decode cX6_count 76 = .ok (.getfield 94, 3) := by decide +kernel
theorem dX6_count_79 : decode cX6_count 79 = .ok (.ireturn, 1) := by decide +kernel
theorem dX6_count_80 : decode cX6_count 80 = .ok (.aload_n 0, 1) := by decide +kernel
theorem dX6_count_81 : decode cX6_count 81 = .ok (.getfield 12, 3) := by decide +kernel
theorem dX6_count_84 : decode cX6_count 84 = .ok (.getfield 145, 3) := by decide +kernel
theorem dX6_count_87 : decode cX6_count 87 = .ok (.ireturn, 1) := by decide +kernel
theorem dX6_count_88 : decode cX6_count 88 = .ok (.aload_n 0, 1) := by decide +kernel
theorem dX6_count_89 : decode cX6_count 89 = .ok (.getfield 12, 3) := by decide +kernel
theorem dX6_count_92 : decode cX6_count 92 = .ok (.invokevirtual 255, 3) := by decide +kernel
theorem dX6_count_95 : decode cX6_count 95 = .ok (.ireturn, 1) := by decide +kernel
theorem dX6_count_96 : decode cX6_count 96 = .ok (.aload_n 0, 1) := by decide +kernel
theorem dX6_count_97 : decode cX6_count 97 = .ok (.getfield 12, 3) := by decide +kernel
theorem dX6_count_100 : decode cX6_count 100 = .ok (.getfield 184, 3) := by decide +kernel
theorem dX6_count_103 : decode cX6_count 103 = .ok (.ireturn, 1) := by decide +kernel
theorem dX6_count_104 : decode cX6_count 104 = .ok (.aload_n 0, 1) := by decide +kernel
theorem dX6_count_105 : decode cX6_count 105 = .ok (.getfield 12, 3) := by decide +kernel
theorem dX6_count_108 : decode cX6_count 108 = .ok (.getfield 187, 3) := by decide +kernel
theorem dX6_count_111 : decode cX6_count 111 = .ok (.ireturn, 1) := by decide +kernel
theorem dX6_count_112 : decode cX6_count 112 = .ok (.aload_n 0, 1) := by decide +kernel
theorem dX6_count_113 : decode cX6_count 113 = .ok (.getfield 50, 3) := by decide +kernel
theorem dX6_count_116 : decode cX6_count 116 = .ok (.invokevirtual 258, 3) := by decide +kernel
theorem dX6_count_119 : decode cX6_count 119 = .ok (.ireturn, 1) := by decide +kernel
theorem dX6_count_120 : decode cX6_count 120 = .ok (.aload_n 0, 1) := by decide +kernel
theorem dX6_count_121 : decode cX6_count 121 = .ok (.getfield 22, 3) := by decide +kernel
theorem dX6_count_124 : decode cX6_count 124 = .ok (.getfield 107, 3) := by decide +kernel
theorem dX6_count_127 : decode cX6_count 127 = .ok (.ireturn, 1) := by decide +kernel
theorem dX6_count_128 : decode cX6_count 128 = .ok (.aload_n 0, 1) := by decide +kernel
theorem dX6_count_129 : decode cX6_count 129 = .ok (.getfield 43, 3) := by decide +kernel
theorem dX6_count_132 : decode cX6_count 132 = .ok (.getfield 62, 3) := by decide +kernel
theorem dX6_count_135 : decode cX6_count 135 = .ok (.ireturn, 1) := by decide +kernel
theorem dX6_count_136 : decode cX6_count 136 = .ok (.bipush (-3), 2) := by decide +kernel
theorem dX6_count_138 : decode cX6_count 138 = .ok (.ireturn, 1) := by decide +kernel
set_option maxRecDepth 20000 in
theorem ggX6_costOf_X1_seek : GoodIn wsX6_costOf wsX1_seek := goodIn_r _ [7, 8, 9, 10, 11, 12, 13, 6, 14, 15, 16, 17, 18, 19, 20, 21, 22, 23, 24, 25, 26, 27, 28, 29, 30, 31, 32, 33, 34, 35, 36, 37, 38, 39, 40, 41, 42, 43, 44, 45, 46, 47, 48, 49, 50, 51, 52, 53, 54, 55, 56, 57, 58, 59, 60, 61, 62, 63, 64, 65, 66, 75, 76, 77, 78, 79, 80, 81, 82, 83, 84, 85, 86, 87] (by decide +kernel) (by decide +kernel)
set_option maxRecDepth 20000 in
theorem gX6_costOf_X1_seek : GoodIn wsX6_costOf (wsV RX6 128 RX1 yX1_seek wsX1_seek) := goodIn_app (goodIn_of _ (by decide +kernel)) ggX6_costOf_X1_seek
theorem dX6_costOf_0 : decode cX6_costOf 0 = .ok (.aload_n 0, 1) := by decide +kernel
theorem dX6_costOf_1 : decode cX6_costOf 1 = .ok (.getfield 36, 3) := by decide +kernel
theorem dX6_costOf_4 : decode cX6_costOf 4 = .ok (.aload_n 0, 1) := by decide +kernel
theorem dX6_costOf_5 : decode cX6_costOf 5 = .ok (.getfield 12, 3) := by decide +kernel
theorem dX6_costOf_8 : decode cX6_costOf 8 = .ok (.iload_n 1, 1) := by decide +kernel
theorem dX6_costOf_9 : decode cX6_costOf 9 = .ok (.invokevirtual 128, 3) := by decide +kernel
theorem dX6_costOf_12 : decode cX6_costOf 12 = .ok (.aload_n 0, 1) := by decide +kernel
theorem dX6_costOf_13 : decode cX6_costOf 13 = .ok (.getfield 36, 3) := by decide +kernel
theorem dX6_costOf_16 : decode cX6_costOf 16 = .ok (.getfield 132, 3) := by decide +kernel
theorem dX6_costOf_19 : decode cX6_costOf 19 = .ok (.aload_n 0, 1) := by decide +kernel
theorem dX6_costOf_20 : decode cX6_costOf 20 = .ok (.getfield 36, 3) := by decide +kernel
theorem dX6_costOf_23 : decode cX6_costOf 23 = .ok (.getfield 135, 3) := by decide +kernel
theorem dX6_costOf_26 : decode cX6_costOf 26 = .ok (.iadd, 1) := by decide +kernel
theorem dX6_costOf_27 : decode cX6_costOf 27 = .ok (.aload_n 0, 1) := by decide +kernel
theorem dX6_costOf_28 : decode cX6_costOf 28 = .ok (.getfield 36, 3) := by decide +kernel
theorem dX6_costOf_31 : decode cX6_costOf 31 = .ok (.getfield 138, 3) := by decide +kernel
theorem dX6_costOf_34 : decode cX6_costOf 34 = .ok (.iadd, 1) := by decide +kernel
theorem dX6_costOf_35 : decode cX6_costOf 35 = .ok (.ireturn, 1) := by decide +kernel
theorem dX6_commonDivisor_0 : decode cX6_commonDivisor 0 = .ok (.iload_n 0, 1) := by decide +kernel
theorem dX6_commonDivisor_1 : decode cX6_commonDivisor 1 = .ok (.istore_n 2, 1) := by decide +kernel
theorem dX6_commonDivisor_2 : decode cX6_commonDivisor 2 = .ok (.iload_n 1, 1) := by decide +kernel
theorem dX6_commonDivisor_3 : decode cX6_commonDivisor 3 = .ok (.istore_n 3, 1) := by decide +kernel
theorem dX6_commonDivisor_4 : decode cX6_commonDivisor 4 = .ok (.iconst 0, 1) := by decide +kernel
theorem dX6_commonDivisor_5 : decode cX6_commonDivisor 5 = .ok (.istore 4, 2) := by decide +kernel
theorem dX6_commonDivisor_7 : decode cX6_commonDivisor 7 = .ok (.iload_n 3, 1) := by decide +kernel
theorem dX6_commonDivisor_8 : decode cX6_commonDivisor 8 = .ok (.ifCond .eq 26, 3) := by decide +kernel
theorem dX6_commonDivisor_11 : decode cX6_commonDivisor 11 = .ok (.iload 4, 2) := by decide +kernel
theorem dX6_commonDivisor_13 : decode cX6_commonDivisor 13 = .ok (.bipush 64, 2) := by decide +kernel
theorem dX6_commonDivisor_15 : decode cX6_commonDivisor 15 = .ok (.if_icmp .ge 19, 3) := by decide +kernel
theorem dX6_commonDivisor_18 : decode cX6_commonDivisor 18 = .ok (.iload_n 2, 1) := by decide +kernel
theorem dX6_commonDivisor_19 : decode cX6_commonDivisor 19 = .ok (.iload_n 3, 1) := by decide +kernel
theorem dX6_commonDivisor_20 : decode cX6_commonDivisor 20 = .ok (.irem, 1) := by decide +kernel
theorem dX6_commonDivisor_21 : decode cX6_commonDivisor 21 = .ok (.istore 5, 2) := by decide +kernel
theorem dX6_commonDivisor_23 : decode cX6_commonDivisor 23 = .ok (.iload_n 3, 1) := by decide +kernel
theorem dX6_commonDivisor_24 : decode cX6_commonDivisor 24 = .ok (.istore_n 2, 1) := by decide +kernel
theorem dX6_commonDivisor_25 : decode cX6_commonDivisor 25 = .ok (.iload 5, 2) := by decide +kernel
theorem dX6_commonDivisor_27 : decode cX6_commonDivisor 27 = .ok (.istore_n 3, 1) := by decide +kernel
theorem dX6_commonDivisor_28 : decode cX6_commonDivisor 28 = .ok (.iinc 4 1, 3) := by decide +kernel
theorem dX6_commonDivisor_31 : decode cX6_commonDivisor 31 = .ok (.goto (-24), 3) := by decide +kernel
theorem dX6_commonDivisor_34 : decode cX6_commonDivisor 34 = .ok (.iload_n 2, 1) := by decide +kernel
theorem dX6_commonDivisor_35 : decode cX6_commonDivisor 35 = .ok (.ireturn, 1) := by decide +kernel
theorem dX6_worked_0 : decode cX6_worked 0 = .ok (.iload_n 2, 1) := by decide +kernel
theorem dX6_worked_1 : decode cX6_worked 1 = .ok (.ifCond .ne 7, 3) := by decide +kernel
theorem dX6_worked_4 : decode cX6_worked 4 = .ok (.lload_n 0, 1) := by decide +kernel
theorem dX6_worked_5 : decode cX6_worked 5 = .ok (.lload_n 3, 1) := by decide +kernel
theorem dX6_worked_6 : decode cX6_worked 6 = .ok (.ladd, 1) := by decide +kernel
theorem dX6_worked_7 : decode cX6_worked 7 = .ok (.lreturn, 1) := by decide +kernel
theorem dX6_worked_8 : decode cX6_worked 8 = .ok (.iload_n 2, 1) := by decide +kernel
theorem dX6_worked_9 : decode cX6_worked 9 = .ok (.iconst 1, 1) := by decide +kernel
theorem dX6_worked_10 : decode cX6_worked 10 = .ok (.if_icmp .ne 9, 3) := by decide +kernel
theorem dX6_worked_13 : decode cX6_worked 13 = .ok (.lload_n 0, 1) := by decide +kernel
theorem dX6_worked_14 : decode cX6_worked 14 = .ok (.lload_n 3, 1) := by decide +kernel
theorem dX6_worked_15 : decode cX6_worked 15 = .ok (.lsub, 1) := by decide +kernel
theorem dX6_worked_16 : decode cX6_worked 16 = .ok (.goto 6, 3) := by decide +kernel
theorem dX6_worked_19 : decode cX6_worked 19 = .ok (.lload_n 0, 1) := by decide +kernel
theorem dX6_worked_20 : decode cX6_worked 20 = .ok (.lload_n 3, 1) := by decide +kernel
theorem dX6_worked_21 : decode cX6_worked 21 = .ok (.lmul, 1) := by decide +kernel
theorem dX6_worked_22 : decode cX6_worked 22 = .ok (.lreturn, 1) := by decide +kernel
set_option maxRecDepth 20000 in
theorem ggX6_isOver_X6_worked : GoodIn wsX6_isOver wsX6_worked := goodIn_r _ [6] (by decide +kernel) (by decide +kernel)
set_option maxRecDepth 20000 in
theorem gX6_isOver_X6_worked : GoodIn wsX6_isOver (va_wsS RX6 225 yX6_worked wsX6_worked) := goodIn_app (goodIn_of _ (by decide +kernel)) ggX6_isOver_X6_worked
theorem dX6_isOver_0 : decode cX6_isOver 0 = .ok (.lload_n 0, 1) := by decide +kernel
theorem dX6_isOver_1 : decode cX6_isOver 1 = .ok (.iload_n 2, 1) := by decide +kernel
theorem dX6_isOver_2 : decode cX6_isOver 2 = .ok (.lload_n 3, 1) := by decide +kernel
theorem dX6_isOver_3 : decode cX6_isOver 3 = .ok (.invokestatic 225, 3) := by decide +kernel
theorem dX6_isOver_6 : decode cX6_isOver 6 = .ok (.lstore 5, 2) := by decide +kernel
theorem dX6_isOver_8 : decode cX6_isOver 8 = .ok (.iload_n 2, 1) := by decide +kernel
theorem dX6_isOver_9 : decode cX6_isOver 9 = .ok (.ifCond .ne 23, 3) := by decide +kernel
theorem dX6_isOver_12 : decode cX6_isOver 12 = .ok (.lload_n 0, 1) := by decide +kernel
theorem dX6_isOver_13 : decode cX6_isOver 13 = .ok (.lload 5, 2) := by decide +kernel
theorem dX6_isOver_15 : decode cX6_isOver 15 = .ok (.lxor, 1) := by decide +kernel
theorem dX6_isOver_16 : decode cX6_isOver 16 = .ok (.lload_n 3, 1) := by decide +kernel
theorem dX6_isOver_17 : decode cX6_isOver 17 = .ok (.lload 5, 2) := by decide +kernel
theorem dX6_isOver_19 : decode cX6_isOver 19 = .ok (.lxor, 1) := by decide +kernel
theorem dX6_isOver_20 : decode cX6_isOver 20 = .ok (.land, 1) := by decide +kernel
theorem dX6_isOver_21 : decode cX6_isOver 21 = .ok (.lconst 0, 1) := by decide +kernel
theorem dX6_isOver_22 : decode cX6_isOver 22 = .ok (.lcmp, 1) := by decide +kernel
theorem dX6_isOver_23 : decode cX6_isOver 23 = .ok (.ifCond .ge 7, 3) := by decide +kernel
theorem dX6_isOver_26 : decode cX6_isOver 26 = .ok (.iconst 1, 1) := by decide +kernel
theorem dX6_isOver_27 : decode cX6_isOver 27 = .ok (.goto 4, 3) := by decide +kernel
theorem dX6_isOver_30 : decode cX6_isOver 30 = .ok (.iconst 0, 1) := by decide +kernel
theorem dX6_isOver_31 : decode cX6_isOver 31 = .ok (.ireturn, 1) := by decide +kernel
theorem dX6_isOver_32 : decode cX6_isOver 32 = .ok (.iload_n 2, 1) := by decide +kernel
theorem dX6_isOver_33 : decode cX6_isOver 33 = .ok (.iconst 1, 1) := by decide +kernel
theorem dX6_isOver_34 : decode cX6_isOver 34 = .ok (.if_icmp .ne 22, 3) := by decide +kernel
theorem dX6_isOver_37 : decode cX6_isOver 37 = .ok (.lload_n 0, 1) := by decide +kernel
theorem dX6_isOver_38 : decode cX6_isOver 38 = .ok (.lload_n 3, 1) := by decide +kernel
theorem dX6_isOver_39 : decode cX6_isOver 39 = .ok (.lxor, 1) := by decide +kernel
theorem dX6_isOver_40 : decode cX6_isOver 40 = .ok (.lload_n 0, 1) := by decide +kernel
theorem dX6_isOver_41 : decode cX6_isOver 41 = .ok (.lload 5, 2) := by decide +kernel
theorem dX6_isOver_43 : decode cX6_isOver 43 = .ok (.lxor, 1) := by decide +kernel
theorem dX6_isOver_44 : decode cX6_isOver 44 = .ok (.land, 1) := by decide +kernel
theorem dX6_isOver_45 : decode cX6_isOver 45 = .ok (.lconst 0, 1) := by decide +kernel
theorem dX6_isOver_46 : decode cX6_isOver 46 = .ok (.lcmp, 1) := by decide +kernel
theorem dX6_isOver_47 : decode cX6_isOver 47 = .ok (.ifCond .ge 7, 3) := by decide +kernel
theorem dX6_isOver_50 : decode cX6_isOver 50 = .ok (.iconst 1, 1) := by decide +kernel
theorem dX6_isOver_51 : decode cX6_isOver 51 = .ok (.goto 4, 3) := by decide +kernel
theorem dX6_isOver_54 : decode cX6_isOver 54 = .ok (.iconst 0, 1) := by decide +kernel
theorem dX6_isOver_55 : decode cX6_isOver 55 = .ok (.ireturn, 1) := by decide +kernel
theorem dX6_isOver_56 : decode cX6_isOver 56 = .ok (.lload_n 3, 1) := by decide +kernel
theorem dX6_isOver_57 : decode cX6_isOver 57 = .ok (.ldc2_w 261, 3) := by decide +kernel
theorem dX6_isOver_60 : decode cX6_isOver 60 = .ok (.lcmp, 1) := by decide +kernel
theorem dX6_isOver_61 : decode cX6_isOver 61 = .ok (.ifCond .ne 17, 3) := by decide +kernel
theorem dX6_isOver_64 : decode cX6_isOver 64 = .ok (.lload_n 0, 1) := by decide +kernel
theorem dX6_isOver_65 : decode cX6_isOver 65 = .ok (.ldc2_w 263, 3) := by decide +kernel
theorem dX6_isOver_68 : decode cX6_isOver 68 = .ok (.lcmp, 1) := by decide +kernel
theorem dX6_isOver_69 : decode cX6_isOver 69 = .ok (.ifCond .ne 7, 3) := by decide +kernel
theorem dX6_isOver_72 : decode cX6_isOver 72 = .ok (.iconst 1, 1) := by decide +kernel
theorem dX6_isOver_73 : decode cX6_isOver 73 = .ok (.goto 4, 3) := by decide +kernel
theorem dX6_isOver_76 : decode cX6_isOver 76 = .ok (.iconst 0, 1) := by decide +kernel
theorem dX6_isOver_77 : decode cX6_isOver 77 = .ok (.ireturn, 1) := by decide +kernel
theorem dX6_isOver_78 : decode cX6_isOver 78 = .ok (.lload_n 3, 1) := by decide +kernel
theorem dX6_isOver_79 : decode cX6_isOver 79 = .ok (.lconst 0, 1) := by decide +kernel
theorem dX6_isOver_80 : decode cX6_isOver 80 = .ok (.lcmp, 1) := by decide +kernel
theorem dX6_isOver_81 : decode cX6_isOver 81 = .ok (.ifCond .eq 16, 3) := by decide +kernel
theorem dX6_isOver_84 : decode cX6_isOver 84 = .ok (.lload 5, 2) := by decide +kernel
theorem dX6_isOver_86 : decode cX6_isOver 86 = .ok (.lload_n 3, 1) := by decide +kernel
theorem dX6_isOver_87 : decode cX6_isOver 87 = .ok (.ldiv, 1) := by decide +kernel
theorem dX6_isOver_88 : decode cX6_isOver 88 = .ok (.lload_n 0, 1) := by decide +kernel
theorem dX6_isOver_89 : decode cX6_isOver 89 = .ok (.lcmp, 1) := by decide +kernel
theorem dX6_isOver_90 : decode cX6_isOver 90 = .ok (.ifCond .eq 7, 3) := by decide +kernel
theorem dX6_isOver_93 : decode cX6_isOver 93 = .ok (.iconst 1, 1) := by decide +kernel
theorem dX6_isOver_94 : decode cX6_isOver 94 = .ok (.goto 4, 3) := by decide +kernel
theorem dX6_isOver_97 : decode cX6_isOver 97 = .ok (.iconst 0, 1) := by decide +kernel
theorem dX6_isOver_98 : decode cX6_isOver 98 = .ok (.ireturn, 1) := by decide +kernel
theorem dX6_firstNotBelow_0 : decode cX6_firstNotBelow 0 = .ok (.iconst 0, 1) := by decide +kernel
theorem dX6_firstNotBelow_1 : decode cX6_firstNotBelow 1 = .ok (.istore_n 3, 1) := by decide +kernel
theorem dX6_firstNotBelow_2 : decode cX6_firstNotBelow 2 = .ok (.iload_n 1, 1) := by decide +kernel
theorem dX6_firstNotBelow_3 : decode cX6_firstNotBelow 3 = .ok (.aload_n 0, 1) := by decide +kernel
theorem dX6_firstNotBelow_4 : decode cX6_firstNotBelow 4 = .ok (.arraylength, 1) := by decide +kernel
theorem dX6_firstNotBelow_5 : decode cX6_firstNotBelow 5 = .ok (.if_icmp .ge 7, 3) := by decide +kernel
theorem dX6_firstNotBelow_8 : decode cX6_firstNotBelow 8 = .ok (.iload_n 1, 1) := by decide +kernel
theorem dX6_firstNotBelow_9 : decode cX6_firstNotBelow 9 = .ok (.goto 5, 3) := by decide +kernel
theorem dX6_firstNotBelow_12 : decode cX6_firstNotBelow 12 = .ok (.aload_n 0, 1) := by decide +kernel
theorem dX6_firstNotBelow_13 : decode cX6_firstNotBelow 13 = .ok (.arraylength, 1) := by decide +kernel
theorem dX6_firstNotBelow_14 : decode cX6_firstNotBelow 14 = .ok (.istore 4, 2) := by decide +kernel
theorem dX6_firstNotBelow_16 : decode cX6_firstNotBelow 16 = .ok (.iconst 0, 1) := by decide +kernel
theorem dX6_firstNotBelow_17 : decode cX6_firstNotBelow 17 = .ok (.istore 5, 2) := by decide +kernel
theorem dX6_firstNotBelow_19 : decode cX6_firstNotBelow 19 = .ok (.iload_n 3, 1) := by decide +kernel
theorem dX6_firstNotBelow_20 : decode cX6_firstNotBelow 20 = .ok (.iload 4, 2) := by decide +kernel
theorem dX6_firstNotBelow_22 : decode cX6_firstNotBelow 22 = .ok (.if_icmp .ge 44, 3) := by decide +kernel
theorem dX6_firstNotBelow_25 : decode cX6_firstNotBelow 25 = .ok (.iload 5, 2) := by decide +kernel
theorem dX6_firstNotBelow_27 : decode cX6_firstNotBelow 27 = .ok (.bipush 32, 2) := by decide +kernel
theorem dX6_firstNotBelow_29 : decode cX6_firstNotBelow 29 = .ok (.if_icmp .ge 37, 3) := by decide +kernel
theorem dX6_firstNotBelow_32 : decode cX6_firstNotBelow 32 = .ok (.iload_n 3, 1) := by decide +kernel
theorem dX6_firstNotBelow_33 : decode cX6_firstNotBelow 33 = .ok (.iload 4, 2) := by decide +kernel
theorem dX6_firstNotBelow_35 : decode cX6_firstNotBelow 35 = .ok (.iadd, 1) := by decide +kernel
theorem dX6_firstNotBelow_36 : decode cX6_firstNotBelow 36 = .ok (.iconst 2, 1) := by decide +kernel
theorem dX6_firstNotBelow_37 : decode cX6_firstNotBelow 37 = .ok (.idiv, 1) := by decide +kernel
theorem dX6_firstNotBelow_38 : decode cX6_firstNotBelow 38 = .ok (.istore 6, 2) := by decide +kernel
theorem dX6_firstNotBelow_40 : decode cX6_firstNotBelow 40 = .ok (.aload_n 0, 1) := by decide +kernel
theorem dX6_firstNotBelow_41 : decode cX6_firstNotBelow 41 = .ok (.iload 6, 2) := by decide +kernel
theorem dX6_firstNotBelow_43 : decode cX6_firstNotBelow 43 = .ok (.iaload, 1) := by decide +kernel
theorem dX6_firstNotBelow_44 : decode cX6_firstNotBelow 44 = .ok (.iload_n 2, 1) := by decide +kernel
theorem dX6_firstNotBelow_45 : decode cX6_firstNotBelow 45 = .ok (.if_icmp .ge 11, 3) := by decide +kernel
theorem dX6_firstNotBelow_48 : decode cX6_firstNotBelow 48 = .ok (.iload 6, 2) := by decide +kernel
theorem dX6_firstNotBelow_50 : decode cX6_firstNotBelow 50 = .ok (.iconst 1, 1) := by decide +kernel
theorem dX6_firstNotBelow_51 : decode cX6_firstNotBelow 51 = .ok (.iadd, 1) := by decide +kernel
theorem dX6_firstNotBelow_52 : decode cX6_firstNotBelow 52 = .ok (.istore_n 3, 1) := by decide +kernel
theorem dX6_firstNotBelow_53 : decode cX6_firstNotBelow 53 = .ok (.goto 7, 3) := by decide +kernel
theorem dX6_firstNotBelow_56 : decode cX6_firstNotBelow 56 = .ok (.iload 6, 2) := by decide +kernel
theorem dX6_firstNotBelow_58 : decode cX6_firstNotBelow 58 = .ok (.istore 4, 2) := by decide +kernel
theorem dX6_firstNotBelow_60 : decode cX6_firstNotBelow 60 = .ok (.iinc 5 1, 3) := by decide +kernel
theorem dX6_firstNotBelow_63 : decode cX6_firstNotBelow 63 = .ok (.goto (-44), 3) := by decide +kernel
theorem dX6_firstNotBelow_66 : decode cX6_firstNotBelow 66 = .ok (.iload_n 3, 1) := by decide +kernel
theorem dX6_firstNotBelow_67 : decode cX6_firstNotBelow 67 = .ok (.ireturn, 1) := by decide +kernel
theorem dX6_insertAt_0 : decode cX6_insertAt 0 = .ok (.iload_n 1, 1) := by decide +kernel
theorem dX6_insertAt_1 : decode cX6_insertAt 1 = .ok (.ifCond .lt 18, 3) := by decide +kernel
theorem dX6_insertAt_4 : decode cX6_insertAt 4 = .ok (.iload_n 1, 1) := by decide +kernel
theorem dX6_insertAt_5 : decode cX6_insertAt 5 = .ok (.aload_n 0, 1) := by decide +kernel
theorem dX6_insertAt_6 : decode cX6_insertAt 6 = .ok (.arraylength, 1) := by decide +kernel
theorem dX6_insertAt_7 : decode cX6_insertAt 7 = .ok (.if_icmp .ge 12, 3) := by decide +kernel
theorem dX6_insertAt_10 : decode cX6_insertAt 10 = .ok (.iload_n 2, 1) := by decide +kernel
theorem dX6_insertAt_11 : decode cX6_insertAt 11 = .ok (.ifCond .lt 8, 3) := by decide +kernel
theorem dX6_insertAt_14 : decode cX6_insertAt 14 = .ok (.iload_n 2, 1) := by decide +kernel
theorem dX6_insertAt_15 : decode cX6_insertAt 15 = .ok (.iload_n 1, 1) := by decide +kernel
theorem dX6_insertAt_16 : decode cX6_insertAt 16 = .ok (.if_icmp .le 5, 3) := by decide +kernel
theorem dX6_insertAt_19 : decode cX6_insertAt 19 = .ok (.iconst 0, 1) := by decide +kernel
theorem dX6_insertAt_20 : decode cX6_insertAt 20 = .ok (.ireturn, 1) := by decide +kernel
theorem dX6_insertAt_21 : decode cX6_insertAt 21 = .ok (.iload_n 1, 1) := by decide +kernel
theorem dX6_insertAt_22 : decode cX6_insertAt 22 = .ok (.istore 4, 2) := by decide +kernel
theorem dX6_insertAt_24 : decode cX6_insertAt 24 = .ok (.iload 4, 2) := by decide +kernel
theorem dX6_insertAt_26 : decode cX6_insertAt 26 = .ok (.iload_n 2, 1) := by decide +kernel
theorem dX6_insertAt_27 : decode cX6_insertAt 27 = .ok (.if_icmp .le 19, 3) := by decide +kernel
theorem dX6_insertAt_30 : decode cX6_insertAt 30 = .ok (.aload_n 0, 1) := by decide +kernel
theorem dX6_insertAt_31 : decode cX6_insertAt 31 = .ok (.iload 4, 2) := by decide +kernel
theorem dX6_insertAt_33 : decode cX6_insertAt 33 = .ok (.aload_n 0, 1) := by decide +kernel
theorem dX6_insertAt_34 : decode cX6_insertAt 34 = .ok (.iload 4, 2) := by decide +kernel
theorem dX6_insertAt_36 : decode cX6_insertAt 36 = .ok (.iconst 1, 1) := by decide +kernel
theorem dX6_insertAt_37 : decode cX6_insertAt 37 = .ok (.isub, 1) := by decide +kernel
theorem dX6_insertAt_38 : decode cX6_insertAt 38 = .ok (.iaload, 1) := by decide +kernel
theorem dX6_insertAt_39 : decode cX6_insertAt 39 = .ok (.iastore, 1) := by decide +kernel
theorem dX6_insertAt_40 : decode cX6_insertAt 40 = .ok (.iinc 4 (-1), 3) := by decide +kernel
theorem dX6_insertAt_43 : decode cX6_insertAt 43 = .ok (.goto (-19), 3) := by decide +kernel
theorem dX6_insertAt_46 : decode cX6_insertAt 46 = .ok (.aload_n 0, 1) := by decide +kernel
theorem dX6_insertAt_47 : decode cX6_insertAt 47 = .ok (.iload_n 2, 1) := by decide +kernel
theorem dX6_insertAt_48 : decode cX6_insertAt 48 = .ok (.iload_n 3, 1) := by decide +kernel
theorem dX6_insertAt_49 : decode cX6_insertAt 49 = .ok (.iastore, 1) := by decide +kernel
theorem dX6_insertAt_50 : decode cX6_insertAt 50 = .ok (.iconst 1, 1) := by decide +kernel
theorem dX6_insertAt_51 : decode cX6_insertAt 51 = .ok (.ireturn, 1) := by decide +kernel
theorem dX6_deleteAt_0 : decode cX6_deleteAt 0 = .ok (.iload_n 1, 1) := by decide +kernel
theorem dX6_deleteAt_1 : decode cX6_deleteAt 1 = .ok (.ifCond .lt 18, 3) := by decide +kernel
theorem dX6_deleteAt_4 : decode cX6_deleteAt 4 = .ok (.iload_n 1, 1) := by decide +kernel
theorem dX6_deleteAt_5 : decode cX6_deleteAt 5 = .ok (.aload_n 0, 1) := by decide +kernel
theorem dX6_deleteAt_6 : decode cX6_deleteAt 6 = .ok (.arraylength, 1) := by decide +kernel
theorem dX6_deleteAt_7 : decode cX6_deleteAt 7 = .ok (.if_icmp .gt 12, 3) := by decide +kernel
theorem dX6_deleteAt_10 : decode cX6_deleteAt 10 = .ok (.iload_n 2, 1) := by decide +kernel
theorem dX6_deleteAt_11 : decode cX6_deleteAt 11 = .ok (.ifCond .lt 8, 3) := by decide +kernel
theorem dX6_deleteAt_14 : decode cX6_deleteAt 14 = .ok (.iload_n 2, 1) := by decide +kernel
theorem dX6_deleteAt_15 : decode cX6_deleteAt 15 = .ok (.iload_n 1, 1) := by decide +kernel
theorem dX6_deleteAt_16 : decode cX6_deleteAt 16 = .ok (.if_icmp .lt 5, 3) := by decide +kernel
theorem dX6_deleteAt_19 : decode cX6_deleteAt 19 = .ok (.iconst 0, 1) := by decide +kernel
theorem dX6_deleteAt_20 : decode cX6_deleteAt 20 = .ok (.ireturn, 1) := by decide +kernel
theorem dX6_deleteAt_21 : decode cX6_deleteAt 21 = .ok (.iload_n 2, 1) := by decide +kernel
theorem dX6_deleteAt_22 : decode cX6_deleteAt 22 = .ok (.istore_n 3, 1) := by decide +kernel
theorem dX6_deleteAt_23 : decode cX6_deleteAt 23 = .ok (.iload_n 3, 1) := by decide +kernel
theorem dX6_deleteAt_24 : decode cX6_deleteAt 24 = .ok (.iload_n 1, 1) := by decide +kernel
theorem dX6_deleteAt_25 : decode cX6_deleteAt 25 = .ok (.iconst 1, 1) := by decide +kernel
theorem dX6_deleteAt_26 : decode cX6_deleteAt 26 = .ok (.isub, 1) := by decide +kernel
theorem dX6_deleteAt_27 : decode cX6_deleteAt 27 = .ok (.if_icmp .ge 17, 3) := by decide +kernel
theorem dX6_deleteAt_30 : decode cX6_deleteAt 30 = .ok (.aload_n 0, 1) := by decide +kernel
theorem dX6_deleteAt_31 : decode cX6_deleteAt 31 = .ok (.iload_n 3, 1) := by decide +kernel
theorem dX6_deleteAt_32 : decode cX6_deleteAt 32 = .ok (.aload_n 0, 1) := by decide +kernel
theorem dX6_deleteAt_33 : decode cX6_deleteAt 33 = .ok (.iload_n 3, 1) := by decide +kernel
theorem dX6_deleteAt_34 : decode cX6_deleteAt 34 = .ok (.iconst 1, 1) := by decide +kernel
theorem dX6_deleteAt_35 : decode cX6_deleteAt 35 = .ok (.iadd, 1) := by decide +kernel
theorem dX6_deleteAt_36 : decode cX6_deleteAt 36 = .ok (.iaload, 1) := by decide +kernel
theorem dX6_deleteAt_37 : decode cX6_deleteAt 37 = .ok (.iastore, 1) := by decide +kernel
theorem dX6_deleteAt_38 : decode cX6_deleteAt 38 = .ok (.iinc 3 1, 3) := by decide +kernel
theorem dX6_deleteAt_41 : decode cX6_deleteAt 41 = .ok (.goto (-18), 3) := by decide +kernel
theorem dX6_deleteAt_44 : decode cX6_deleteAt 44 = .ok (.iconst 1, 1) := by decide +kernel
theorem dX6_deleteAt_45 : decode cX6_deleteAt 45 = .ok (.ireturn, 1) := by decide +kernel
theorem dX6_copyOver_0 : decode cX6_copyOver 0 = .ok (.aload_n 0, 1) := by decide +kernel
theorem dX6_copyOver_1 : decode cX6_copyOver 1 = .ok (.iconst 0, 1) := by decide +kernel
theorem dX6_copyOver_2 : decode cX6_copyOver 2 = .ok (.aload_n 1, 1) := by decide +kernel
theorem dX6_copyOver_3 : decode cX6_copyOver 3 = .ok (.iconst 0, 1) := by decide +kernel
theorem dX6_copyOver_4 : decode cX6_copyOver 4 = .ok (.aload_n 0, 1) := by decide +kernel
theorem dX6_copyOver_5 : decode cX6_copyOver 5 = .ok (.arraylength, 1) := by decide +kernel
theorem dX6_copyOver_6 : decode cX6_copyOver 6 = .ok (.aload_n 1, 1) := by decide +kernel
theorem dX6_copyOver_7 : decode cX6_copyOver 7 = .ok (.arraylength, 1) := by decide +kernel
theorem dX6_copyOver_8 : decode cX6_copyOver 8 = .ok (.invokestatic 241, 3) := by decide +kernel
theorem dX6_copyOver_11 : decode cX6_copyOver 11 = .ok (.invokestatic 265, 3) := by decide +kernel
theorem dX6_copyOver_14 : decode cX6_copyOver 14 = .ok (.return_, 1) := by decide +kernel
