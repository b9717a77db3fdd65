/-! The constructors: their words, contracts that make cells. -/
abbrev b_L_init : ByteArray := prog_2_method_1_code
abbrev b_R_init : ByteArray := prog_3_method_1_code
abbrev b_D_init : ByteArray := prog_1_method_1_code
abbrev b_M_init : ByteArray := prog_5_method_1_code
abbrev b_A_fill : ByteArray := prog_8_method_103_code
def y_L_init : MethodName := ⟨N_L, "<init>", "()V"⟩
def y_R_init : MethodName := ⟨N_R, "<init>", "(II[I)V"⟩
def y_D_init : MethodName := ⟨N_D, "<init>", "(I)V"⟩
def y_M_init : MethodName := ⟨N_M, "<init>", "(I)V"⟩
def y_A_fill : MethodName := ⟨"java/util/Arrays", "fill", "([II)V"⟩
def zTw : List Cond := [.methodLink N_L 3 objectInit, .instanceMethod objectInit, .code objectInit ⟨#[0xb1]⟩ 1 none, .arrayClass .int, .arrayClass .boolean, .methodLink N_R 3 objectInit, .methodLink N_D 1 objectInit, .methodLink N_M 1 objectInit, .methodLink N_R 25 y_A_fill, .static y_A_fill, .code y_A_fill b_A_fill 4 none, .initialized "java/util/Arrays", .classLink N_D 22 "[[I", .classLink N_D 27 N_R, .instantiable N_R 11, .methodLink N_D 33 y_R_init, .instanceMethod y_R_init, .code y_R_init b_R_init 4 none, .initialized N_R, .classLink N_D 36 N_L, .instantiable N_L 4, .instanceMethod y_L_init, .code y_L_init b_L_init 1 none, .initialized N_L, .fieldLink N_R 9 N_R "router" "I", .fieldLink N_R 15 N_R "target" "I", .fieldLink N_R 18 N_R "costs" "[I", .fieldLink N_R 22 N_R "told" "[I", .fieldLink N_R 31 N_R "awaited" "[Z", .fieldLink N_R 35 N_R "distance" "I", .fieldLink N_R 38 N_R "limit" "I", .fieldLink N_R 41 N_R "next" "I", .fieldLink N_D 18 N_D "routers" "I", .fieldLink N_D 24 N_D "costs" "[[I", .fieldLink N_D 29 N_D "routes" "[LDiffusingRoutes$Route;", .fieldLink N_D 39 N_D "mail" "LDiffusingRoutes$Mail;", .fieldLink N_M 56 N_M "routers" "I", .fieldLink N_M 7 N_M "costs" "[I", .fieldLink N_M 13 N_M "distances" "[I", .fieldLink N_M 16 N_M "limits" "[I", .fieldLink N_M 19 N_M "nexts" "[I", .fieldLink N_M 22 N_M "busy" "[Z", .fieldLink N_M 26 N_M "asked" "[Z", .fieldLink N_M 29 N_M "grown" "[Z", .fieldLink N_M 32 N_M "tolds" "[I", .fieldLink N_M 35 N_M "waiting" "[Z", .fieldLink N_M 38 N_M "from" "[I", .fieldLink N_M 41 N_M "to" "[I", .fieldLink N_M 44 N_M "kinds" "[I", .fieldLink N_M 47 N_M "targets" "[I", .fieldLink N_M 50 N_M "carried" "[I", .fieldLink N_M 53 N_M "sent" "[I", .fieldLink N_L 11 N_L "row" "[I", .fieldLink N_L 15 N_L "sent" "[I", .code y_D_init b_D_init 4 none, .instanceMethod y_D_init, .initialized N_D, .code y_M_init b_M_init 3 none, .instanceMethod y_M_init, .initialized N_M, .instantiable N_D 5, .instantiable N_M 17]
def zTi : List Cond := zTw ++ zT
theorem zTw_good : zGood zTw := fun w hw => good_of_word (List.all_eq_true.mp (show zTw.all goodWord = true by decide +kernel) w hw)
theorem zTi_good : zGood zTi := fun w hw => (List.mem_append.mp hw).elim (zTw_good w) (zT_good w)
theorem zwi {w : Cond} (i : Nat) (h : zTw[i]? = some w) : w ∈ zTi := List.mem_append_left _ (List.mem_of_getElem? h)
theorem zwT {w : Cond} (h : w ∈ zT) : w ∈ zTi := List.mem_append_right _ h
theorem zTw_0 : ((zTw.drop 0).take 8).all lwIn = true := by decide +kernel
theorem zTw_1 : ((zTw.drop 8).take 8).all lwIn = true := by decide +kernel
theorem zTw_2 : ((zTw.drop 16).take 8).all lwIn = true := by decide +kernel
theorem zTw_3 : ((zTw.drop 24).take 8).all lwIn = true := by decide +kernel
theorem zTw_4 : ((zTw.drop 32).take 8).all lwIn = true := by decide +kernel
theorem zTw_5 : ((zTw.drop 40).take 8).all lwIn = true := by decide +kernel
theorem zTw_6 : ((zTw.drop 48).take 8).all lwIn = true := by decide +kernel
theorem zTw_7 : ((zTw.drop 56).take 8).all lwIn = true := by decide +kernel
theorem zTw_8 : (zTw.drop 64).all lwIn = true := by decide +kernel
theorem zTw_d7 : (zTw.drop 56).all lwIn = true := lw_all2 8 zTw_7 (by rw [List.drop_drop]; exact zTw_8)
theorem zTw_d6 : (zTw.drop 48).all lwIn = true := lw_all2 8 zTw_6 (by rw [List.drop_drop]; exact zTw_d7)
theorem zTw_d5 : (zTw.drop 40).all lwIn = true := lw_all2 8 zTw_5 (by rw [List.drop_drop]; exact zTw_d6)
theorem zTw_d4 : (zTw.drop 32).all lwIn = true := lw_all2 8 zTw_4 (by rw [List.drop_drop]; exact zTw_d5)
theorem zTw_d3 : (zTw.drop 24).all lwIn = true := lw_all2 8 zTw_3 (by rw [List.drop_drop]; exact zTw_d4)
theorem zTw_d2 : (zTw.drop 16).all lwIn = true := lw_all2 8 zTw_2 (by rw [List.drop_drop]; exact zTw_d3)
theorem zTw_d1 : (zTw.drop 8).all lwIn = true := lw_all2 8 zTw_1 (by rw [List.drop_drop]; exact zTw_d2)
theorem zTw_d0 : (zTw.drop 0).all lwIn = true := lw_all2 8 zTw_0 (by rw [List.drop_drop]; exact zTw_d1)
theorem zTw_sub : ∀ w ∈ zTw, w ∈ lw_tbl := fun w hw => of_decide_eq_true (List.all_eq_true.mp zTw_d0 w hw)
theorem zTi_sub : ∀ w ∈ zTi, w ∈ lw_tbl := fun w hw => (List.mem_append.mp hw).elim (zTw_sub w) (zT_sub w)
theorem d_L_init_0 : decode b_L_init 0 = .ok (.aload_n 0, 1) := by decide +kernel
theorem d_L_init_1 : decode b_L_init 1 = .ok (.invokespecial 3, 3) := by decide +kernel
theorem d_L_init_4 : decode b_L_init 4 = .ok (.aload_n 0, 1) := by decide +kernel
theorem d_L_init_5 : decode b_L_init 5 = .ok (.sipush 1024, 3) := by decide +kernel
theorem d_L_init_8 : decode b_L_init 8 = .ok (.newarray .int, 2) := by decide +kernel
theorem d_L_init_10 : decode b_L_init 10 = .ok (.putfield 11, 3) := by decide +kernel
theorem d_L_init_13 : decode b_L_init 13 = .ok (.aload_n 0, 1) := by decide +kernel
theorem d_L_init_14 : decode b_L_init 14 = .ok (.iconst 3, 1) := by decide +kernel
theorem d_L_init_15 : decode b_L_init 15 = .ok (.newarray .int, 2) := by decide +kernel
theorem d_L_init_17 : decode b_L_init 17 = .ok (.putfield 15, 3) := by decide +kernel
theorem d_L_init_20 : decode b_L_init 20 = .ok (.return_, 1) := by decide +kernel
theorem d_R_init_0 : decode b_R_init 0 = .ok (.aload_n 0, 1) := by decide +kernel
theorem d_R_init_1 : decode b_R_init 1 = .ok (.invokespecial 3, 3) := by decide +kernel
theorem d_R_init_4 : decode b_R_init 4 = .ok (.aload_n 0, 1) := by decide +kernel
theorem d_R_init_5 : decode b_R_init 5 = .ok (.iload_n 1, 1) := by decide +kernel
theorem d_R_init_6 : decode b_R_init 6 = .ok (.putfield 9, 3) := by decide +kernel
theorem d_R_init_9 : decode b_R_init 9 = .ok (.aload_n 0, 1) := by decide +kernel
theorem d_R_init_10 : decode b_R_init 10 = .ok (.iload_n 2, 1) := by decide +kernel
theorem d_R_init_11 : decode b_R_init 11 = .ok (.putfield 15, 3) := by decide +kernel
theorem d_R_init_14 : decode b_R_init 14 = .ok (.aload_n 0, 1) := by decide +kernel
theorem d_R_init_15 : decode b_R_init 15 = .ok (.aload_n 3, 1) := by decide +kernel
theorem d_R_init_16 : decode b_R_init 16 = .ok (.putfield 18, 3) := by decide +kernel
theorem d_R_init_19 : decode b_R_init 19 = .ok (.aload_n 0, 1) := by decide +kernel
theorem d_R_init_20 : decode b_R_init 20 = .ok (.aload_n 3, 1) := by decide +kernel
theorem d_R_init_21 : decode b_R_init 21 = .ok (.arraylength, 1) := by decide +kernel
theorem d_R_init_22 : decode b_R_init 22 = .ok (.newarray .int, 2) := by decide +kernel
theorem d_R_init_24 : decode b_R_init 24 = .ok (.putfield 22, 3) := by decide +kernel
theorem d_R_init_27 : decode b_R_init 27 = .ok (.aload_n 0, 1) := by decide +kernel
theorem d_R_init_28 : decode b_R_init 28 = .ok (.getfield 22, 3) := by decide +kernel
theorem d_R_init_31 : decode b_R_init 31 = .ok (.sipush 10000, 3) := by decide +kernel
theorem d_R_init_34 : decode b_R_init 34 = .ok (.invokestatic 25, 3) := by decide +kernel
theorem d_R_init_37 : decode b_R_init 37 = .ok (.aload_n 0, 1) := by decide +kernel
theorem d_R_init_38 : decode b_R_init 38 = .ok (.aload_n 3, 1) := by decide +kernel
theorem d_R_init_39 : decode b_R_init 39 = .ok (.arraylength, 1) := by decide +kernel
theorem d_R_init_40 : decode b_R_init 40 = .ok (.newarray .boolean, 2) := by decide +kernel
theorem d_R_init_42 : decode b_R_init 42 = .ok (.putfield 31, 3) := by decide +kernel
theorem d_R_init_45 : decode b_R_init 45 = .ok (.aload_n 0, 1) := by decide +kernel
theorem d_R_init_46 : decode b_R_init 46 = .ok (.iload_n 1, 1) := by decide +kernel
theorem d_R_init_47 : decode b_R_init 47 = .ok (.iload_n 2, 1) := by decide +kernel
theorem d_R_init_48 : decode b_R_init 48 = .ok (.if_icmp .ne 7, 3) := by decide +kernel
theorem d_R_init_51 : decode b_R_init 51 = .ok (.iconst 0, 1) := by decide +kernel
theorem d_R_init_52 : decode b_R_init 52 = .ok (.goto 6, 3) := by decide +kernel
theorem d_R_init_55 : decode b_R_init 55 = .ok (.sipush 10000, 3) := by decide +kernel
theorem d_R_init_58 : decode b_R_init 58 = .ok (.putfield 35, 3) := by decide +kernel
theorem d_R_init_61 : decode b_R_init 61 = .ok (.aload_n 0, 1) := by decide +kernel
theorem d_R_init_62 : decode b_R_init 62 = .ok (.aload_n 0, 1) := by decide +kernel
theorem d_R_init_63 : decode b_R_init 63 = .ok (.getfield 35, 3) := by decide +kernel
theorem d_R_init_66 : decode b_R_init 66 = .ok (.putfield 38, 3) := by decide +kernel
theorem d_R_init_69 : decode b_R_init 69 = .ok (.aload_n 0, 1) := by decide +kernel
theorem d_R_init_70 : decode b_R_init 70 = .ok (.iconst (-1), 1) := by decide +kernel
theorem d_R_init_71 : decode b_R_init 71 = .ok (.putfield 41, 3) := by decide +kernel
theorem d_R_init_74 : decode b_R_init 74 = .ok (.return_, 1) := by decide +kernel
theorem d_A_fill_0 : decode b_A_fill 0 = .ok (.iconst 0, 1) := by decide +kernel
theorem d_A_fill_1 : decode b_A_fill 1 = .ok (.istore_n 2, 1) := by decide +kernel
theorem d_A_fill_2 : decode b_A_fill 2 = .ok (.aload_n 0, 1) := by decide +kernel
theorem d_A_fill_3 : decode b_A_fill 3 = .ok (.arraylength, 1) := by decide +kernel
theorem d_A_fill_4 : decode b_A_fill 4 = .ok (.istore_n 3, 1) := by decide +kernel
theorem d_A_fill_5 : decode b_A_fill 5 = .ok (.iload_n 2, 1) := by decide +kernel
theorem d_A_fill_6 : decode b_A_fill 6 = .ok (.iload_n 3, 1) := by decide +kernel
theorem d_A_fill_7 : decode b_A_fill 7 = .ok (.if_icmp .ge 13, 3) := by decide +kernel
theorem d_A_fill_10 : decode b_A_fill 10 = .ok (.aload_n 0, 1) := by decide +kernel
theorem d_A_fill_11 : decode b_A_fill 11 = .ok (.iload_n 2, 1) := by decide +kernel
theorem d_A_fill_12 : decode b_A_fill 12 = .ok (.iload_n 1, 1) := by decide +kernel
theorem d_A_fill_13 : decode b_A_fill 13 = .ok (.iastore, 1) := by decide +kernel
theorem d_A_fill_14 : decode b_A_fill 14 = .ok (.iinc 2 1, 3) := by decide +kernel
theorem d_A_fill_17 : decode b_A_fill 17 = .ok (.goto (-12), 3) := by decide +kernel
theorem d_A_fill_20 : decode b_A_fill 20 = .ok (.return_, 1) := by decide +kernel
theorem d_D_init_0 : decode b_D_init 0 = .ok (.aload_n 0, 1) := by decide +kernel
theorem d_D_init_1 : decode b_D_init 1 = .ok (.invokespecial 1, 3) := by decide +kernel
theorem d_D_init_4 : decode b_D_init 4 = .ok (.aload_n 0, 1) := by decide +kernel
theorem d_D_init_5 : decode b_D_init 5 = .ok (.iconst 2, 1) := by decide +kernel
theorem d_D_init_6 : decode b_D_init 6 = .ok (.bipush 6, 2) := by decide +kernel
theorem d_D_init_8 : decode b_D_init 8 = .ok (.iload_n 1, 1) := by decide +kernel
theorem d_D_init_9 : decode b_D_init 9 = .ok (.invokestatic 9, 3) := by decide +kernel
theorem d_D_init_12 : decode b_D_init 12 = .ok (.invokestatic 15, 3) := by decide +kernel
theorem d_D_init_15 : decode b_D_init 15 = .ok (.putfield 18, 3) := by decide +kernel
theorem d_D_init_18 : decode b_D_init 18 = .ok (.aload_n 0, 1) := by decide +kernel
theorem d_D_init_19 : decode b_D_init 19 = .ok (.aload_n 0, 1) := by decide +kernel
theorem d_D_init_20 : decode b_D_init 20 = .ok (.getfield 18, 3) := by decide +kernel
theorem d_D_init_23 : decode b_D_init 23 = .ok (.aload_n 0, 1) := by decide +kernel
theorem d_D_init_24 : decode b_D_init 24 = .ok (.getfield 18, 3) := by decide +kernel
theorem d_D_init_27 : decode b_D_init 27 = .ok (.multianewarray 22 2, 4) := by decide +kernel
theorem d_D_init_31 : decode b_D_init 31 = .ok (.putfield 24, 3) := by decide +kernel
theorem d_D_init_34 : decode b_D_init 34 = .ok (.aload_n 0, 1) := by decide +kernel
theorem d_D_init_35 : decode b_D_init 35 = .ok (.aload_n 0, 1) := by decide +kernel
theorem d_D_init_36 : decode b_D_init 36 = .ok (.getfield 18, 3) := by decide +kernel
theorem d_D_init_39 : decode b_D_init 39 = .ok (.aload_n 0, 1) := by decide +kernel
theorem d_D_init_40 : decode b_D_init 40 = .ok (.getfield 18, 3) := by decide +kernel
theorem d_D_init_43 : decode b_D_init 43 = .ok (.imul, 1) := by decide +kernel
theorem d_D_init_44 : decode b_D_init 44 = .ok (.anewarray 27, 3) := by decide +kernel
theorem d_D_init_47 : decode b_D_init 47 = .ok (.putfield 29, 3) := by decide +kernel
theorem d_D_init_50 : decode b_D_init 50 = .ok (.iconst 0, 1) := by decide +kernel
theorem d_D_init_51 : decode b_D_init 51 = .ok (.istore_n 2, 1) := by decide +kernel
theorem d_D_init_52 : decode b_D_init 52 = .ok (.iload_n 2, 1) := by decide +kernel
theorem d_D_init_53 : decode b_D_init 53 = .ok (.aload_n 0, 1) := by decide +kernel
theorem d_D_init_54 : decode b_D_init 54 = .ok (.getfield 29, 3) := by decide +kernel
theorem d_D_init_57 : decode b_D_init 57 = .ok (.arraylength, 1) := by decide +kernel
theorem d_D_init_58 : decode b_D_init 58 = .ok (.if_icmp .ge 42, 3) := by decide +kernel
theorem d_D_init_61 : decode b_D_init 61 = .ok (.iload_n 2, 1) := by decide +kernel
theorem d_D_init_62 : decode b_D_init 62 = .ok (.aload_n 0, 1) := by decide +kernel
theorem d_D_init_63 : decode b_D_init 63 = .ok (.getfield 18, 3) := by decide +kernel
theorem d_D_init_66 : decode b_D_init 66 = .ok (.idiv, 1) := by decide +kernel
theorem d_D_init_67 : decode b_D_init 67 = .ok (.istore_n 3, 1) := by decide +kernel
theorem d_D_init_68 : decode b_D_init 68 = .ok (.aload_n 0, 1) := by decide +kernel
theorem d_D_init_69 : decode b_D_init 69 = .ok (.getfield 29, 3) := by decide +kernel
theorem d_D_init_72 : decode b_D_init 72 = .ok (.iload_n 2, 1) := by decide +kernel
theorem d_D_init_73 : decode b_D_init 73 = .ok (.new 27, 3) := by decide +kernel
theorem d_D_init_76 : decode b_D_init 76 = .ok (.dup, 1) := by decide +kernel
theorem d_D_init_77 : decode b_D_init 77 = .ok (.iload_n 3, 1) := by decide +kernel
theorem d_D_init_78 : decode b_D_init 78 = .ok (.iload_n 2, 1) := by decide +kernel
theorem d_D_init_79 : decode b_D_init 79 = .ok (.aload_n 0, 1) := by decide +kernel
theorem d_D_init_80 : decode b_D_init 80 = .ok (.getfield 18, 3) := by decide +kernel
theorem d_D_init_83 : decode b_D_init 83 = .ok (.irem, 1) := by decide +kernel
theorem d_D_init_84 : decode b_D_init 84 = .ok (.aload_n 0, 1) := by decide +kernel
theorem d_D_init_85 : decode b_D_init 85 = .ok (.getfield 24, 3) := by decide +kernel
theorem d_D_init_88 : decode b_D_init 88 = .ok (.iload_n 3, 1) := by decide +kernel
theorem d_D_init_89 : decode b_D_init 89 = .ok (.aaload, 1) := by decide +kernel
theorem d_D_init_90 : decode b_D_init 90 = .ok (.invokespecial 33, 3) := by decide +kernel
theorem d_D_init_93 : decode b_D_init 93 = .ok (.aastore, 1) := by decide +kernel
theorem d_D_init_94 : decode b_D_init 94 = .ok (.iinc 2 1, 3) := by decide +kernel
theorem d_D_init_97 : decode b_D_init 97 = .ok (.goto (-45), 3) := by decide +kernel
theorem d_D_init_100 : decode b_D_init 100 = .ok (.aload_n 0, 1) := by decide +kernel
theorem d_D_init_101 : decode b_D_init 101 = .ok (.new 36, 3) := by decide +kernel
theorem d_D_init_104 : decode b_D_init 104 = .ok (.dup, 1) := by decide +kernel
theorem d_D_init_105 : decode b_D_init 105 = .ok (.invokespecial 38, 3) := by decide +kernel
theorem d_D_init_108 : decode b_D_init 108 = .ok (.putfield 39, 3) := by decide +kernel
theorem d_D_init_111 : decode b_D_init 111 = .ok (.return_, 1) := by decide +kernel
theorem d_M_init_0 : decode b_M_init 0 = .ok (.aload_n 0, 1) := by decide +kernel
theorem d_M_init_1 : decode b_M_init 1 = .ok (.invokespecial 1, 3) := by decide +kernel
theorem d_M_init_4 : decode b_M_init 4 = .ok (.aload_n 0, 1) := by decide +kernel
theorem d_M_init_5 : decode b_M_init 5 = .ok (.bipush 36, 2) := by decide +kernel
theorem d_M_init_7 : decode b_M_init 7 = .ok (.newarray .int, 2) := by decide +kernel
theorem d_M_init_9 : decode b_M_init 9 = .ok (.putfield 7, 3) := by decide +kernel
theorem d_M_init_12 : decode b_M_init 12 = .ok (.aload_n 0, 1) := by decide +kernel
theorem d_M_init_13 : decode b_M_init 13 = .ok (.bipush 36, 2) := by decide +kernel
theorem d_M_init_15 : decode b_M_init 15 = .ok (.newarray .int, 2) := by decide +kernel
theorem d_M_init_17 : decode b_M_init 17 = .ok (.putfield 13, 3) := by decide +kernel
theorem d_M_init_20 : decode b_M_init 20 = .ok (.aload_n 0, 1) := by decide +kernel
theorem d_M_init_21 : decode b_M_init 21 = .ok (.bipush 36, 2) := by decide +kernel
theorem d_M_init_23 : decode b_M_init 23 = .ok (.newarray .int, 2) := by decide +kernel
theorem d_M_init_25 : decode b_M_init 25 = .ok (.putfield 16, 3) := by decide +kernel
theorem d_M_init_28 : decode b_M_init 28 = .ok (.aload_n 0, 1) := by decide +kernel
theorem d_M_init_29 : decode b_M_init 29 = .ok (.bipush 36, 2) := by decide +kernel
theorem d_M_init_31 : decode b_M_init 31 = .ok (.newarray .int, 2) := by decide +kernel
theorem d_M_init_33 : decode b_M_init 33 = .ok (.putfield 19, 3) := by decide +kernel
theorem d_M_init_36 : decode b_M_init 36 = .ok (.aload_n 0, 1) := by decide +kernel
theorem d_M_init_37 : decode b_M_init 37 = .ok (.bipush 36, 2) := by decide +kernel
theorem d_M_init_39 : decode b_M_init 39 = .ok (.newarray .boolean, 2) := by decide +kernel
theorem d_M_init_41 : decode b_M_init 41 = .ok (.putfield 22, 3) := by decide +kernel
theorem d_M_init_44 : decode b_M_init 44 = .ok (.aload_n 0, 1) := by decide +kernel
theorem d_M_init_45 : decode b_M_init 45 = .ok (.bipush 36, 2) := by decide +kernel
theorem d_M_init_47 : decode b_M_init 47 = .ok (.newarray .boolean, 2) := by decide +kernel
theorem d_M_init_49 : decode b_M_init 49 = .ok (.putfield 26, 3) := by decide +kernel
theorem d_M_init_52 : decode b_M_init 52 = .ok (.aload_n 0, 1) := by decide +kernel
theorem d_M_init_53 : decode b_M_init 53 = .ok (.bipush 36, 2) := by decide +kernel
theorem d_M_init_55 : decode b_M_init 55 = .ok (.newarray .boolean, 2) := by decide +kernel
theorem d_M_init_57 : decode b_M_init 57 = .ok (.putfield 29, 3) := by decide +kernel
theorem d_M_init_60 : decode b_M_init 60 = .ok (.aload_n 0, 1) := by decide +kernel
theorem d_M_init_61 : decode b_M_init 61 = .ok (.sipush 216, 3) := by decide +kernel
theorem d_M_init_64 : decode b_M_init 64 = .ok (.newarray .int, 2) := by decide +kernel
theorem d_M_init_66 : decode b_M_init 66 = .ok (.putfield 32, 3) := by decide +kernel
theorem d_M_init_69 : decode b_M_init 69 = .ok (.aload_n 0, 1) := by decide +kernel
theorem d_M_init_70 : decode b_M_init 70 = .ok (.sipush 216, 3) := by decide +kernel
theorem d_M_init_73 : decode b_M_init 73 = .ok (.newarray .boolean, 2) := by decide +kernel
theorem d_M_init_75 : decode b_M_init 75 = .ok (.putfield 35, 3) := by decide +kernel
theorem d_M_init_78 : decode b_M_init 78 = .ok (.aload_n 0, 1) := by decide +kernel
theorem d_M_init_79 : decode b_M_init 79 = .ok (.sipush 1024, 3) := by decide +kernel
theorem d_M_init_82 : decode b_M_init 82 = .ok (.newarray .int, 2) := by decide +kernel
theorem d_M_init_84 : decode b_M_init 84 = .ok (.putfield 38, 3) := by decide +kernel
theorem d_M_init_87 : decode b_M_init 87 = .ok (.aload_n 0, 1) := by decide +kernel
theorem d_M_init_88 : decode b_M_init 88 = .ok (.sipush 1024, 3) := by decide +kernel
theorem d_M_init_91 : decode b_M_init 91 = .ok (.newarray .int, 2) := by decide +kernel
theorem d_M_init_93 : decode b_M_init 93 = .ok (.putfield 41, 3) := by decide +kernel
theorem d_M_init_96 : decode b_M_init 96 = .ok (.aload_n 0, 1) := by decide +kernel
theorem d_M_init_97 : decode b_M_init 97 = .ok (.sipush 1024, 3) := by decide +kernel
theorem d_M_init_100 : decode b_M_init 100 = .ok (.newarray .int, 2) := by decide +kernel
theorem d_M_init_102 : decode b_M_init 102 = .ok (.putfield 44, 3) := by decide +kernel
theorem d_M_init_105 : decode b_M_init 105 = .ok (.aload_n 0, 1) := by decide +kernel
theorem d_M_init_106 : decode b_M_init 106 = .ok (.sipush 1024, 3) := by decide +kernel
theorem d_M_init_109 : decode b_M_init 109 = .ok (.newarray .int, 2) := by decide +kernel
theorem d_M_init_111 : decode b_M_init 111 = .ok (.putfield 47, 3) := by decide +kernel
theorem d_M_init_114 : decode b_M_init 114 = .ok (.aload_n 0, 1) := by decide +kernel
theorem d_M_init_115 : decode b_M_init 115 = .ok (.sipush 1024, 3) := by decide +kernel
theorem d_M_init_118 : decode b_M_init 118 = .ok (.newarray .int, 2) := by decide +kernel
theorem d_M_init_120 : decode b_M_init 120 = .ok (.putfield 50, 3) := by decide +kernel
theorem d_M_init_123 : decode b_M_init 123 = .ok (.aload_n 0, 1) := by decide +kernel
theorem d_M_init_124 : decode b_M_init 124 = .ok (.iconst 3, 1) := by decide +kernel
theorem d_M_init_125 : decode b_M_init 125 = .ok (.newarray .int, 2) := by decide +kernel
theorem d_M_init_127 : decode b_M_init 127 = .ok (.putfield 53, 3) := by decide +kernel
theorem d_M_init_130 : decode b_M_init 130 = .ok (.aload_n 0, 1) := by decide +kernel
theorem d_M_init_131 : decode b_M_init 131 = .ok (.iload_n 1, 1) := by decide +kernel
theorem d_M_init_132 : decode b_M_init 132 = .ok (.iconst 2, 1) := by decide +kernel
theorem d_M_init_133 : decode b_M_init 133 = .ok (.if_icmp .ge 7, 3) := by decide +kernel
theorem d_M_init_136 : decode b_M_init 136 = .ok (.iconst 2, 1) := by decide +kernel
theorem d_M_init_137 : decode b_M_init 137 = .ok (.goto 15, 3) := by decide +kernel
theorem d_M_init_140 : decode b_M_init 140 = .ok (.iload_n 1, 1) := by decide +kernel
theorem d_M_init_141 : decode b_M_init 141 = .ok (.bipush 6, 2) := by decide +kernel
theorem d_M_init_143 : decode b_M_init 143 = .ok (.if_icmp .le 8, 3) := by decide +kernel
theorem d_M_init_146 : decode b_M_init 146 = .ok (.bipush 6, 2) := by decide +kernel
theorem d_M_init_148 : decode b_M_init 148 = .ok (.goto 4, 3) := by decide +kernel
theorem d_M_init_151 : decode b_M_init 151 = .ok (.iload_n 1, 1) := by decide +kernel
theorem d_M_init_152 : decode b_M_init 152 = .ok (.putfield 56, 3) := by decide +kernel
theorem d_M_init_155 : decode b_M_init 155 = .ok (.iconst 0, 1) := by decide +kernel
theorem d_M_init_156 : decode b_M_init 156 = .ok (.istore_n 2, 1) := by decide +kernel
theorem d_M_init_157 : decode b_M_init 157 = .ok (.iload_n 2, 1) := by decide +kernel
theorem d_M_init_158 : decode b_M_init 158 = .ok (.bipush 36, 2) := by decide +kernel
theorem d_M_init_160 : decode b_M_init 160 = .ok (.if_icmp .ge 64, 3) := by decide +kernel
theorem d_M_init_163 : decode b_M_init 163 = .ok (.aload_n 0, 1) := by decide +kernel
theorem d_M_init_164 : decode b_M_init 164 = .ok (.getfield 13, 3) := by decide +kernel
theorem d_M_init_167 : decode b_M_init 167 = .ok (.iload_n 2, 1) := by decide +kernel
theorem d_M_init_168 : decode b_M_init 168 = .ok (.iload_n 2, 1) := by decide +kernel
theorem d_M_init_169 : decode b_M_init 169 = .ok (.bipush 6, 2) := by decide +kernel
theorem d_M_init_171 : decode b_M_init 171 = .ok (.idiv, 1) := by decide +kernel
theorem d_M_init_172 : decode b_M_init 172 = .ok (.iload_n 2, 1) := by decide +kernel
theorem d_M_init_173 : decode b_M_init 173 = .ok (.bipush 6, 2) := by decide +kernel
theorem d_M_init_175 : decode b_M_init 175 = .ok (.irem, 1) := by decide +kernel
theorem d_M_init_176 : decode b_M_init 176 = .ok (.if_icmp .ne 7, 3) := by decide +kernel
theorem d_M_init_179 : decode b_M_init 179 = .ok (.iconst 0, 1) := by decide +kernel
theorem d_M_init_180 : decode b_M_init 180 = .ok (.goto 6, 3) := by decide +kernel
theorem d_M_init_183 : decode b_M_init 183 = .ok (.sipush 10000, 3) := by decide +kernel
theorem d_M_init_186 : decode b_M_init 186 = .ok (.iastore, 1) := by decide +kernel
theorem d_M_init_187 : decode b_M_init 187 = .ok (.aload_n 0, 1) := by decide +kernel
theorem d_M_init_188 : decode b_M_init 188 = .ok (.getfield 16, 3) := by decide +kernel
theorem d_M_init_191 : decode b_M_init 191 = .ok (.iload_n 2, 1) := by decide +kernel
theorem d_M_init_192 : decode b_M_init 192 = .ok (.iload_n 2, 1) := by decide +kernel
theorem d_M_init_193 : decode b_M_init 193 = .ok (.bipush 6, 2) := by decide +kernel
theorem d_M_init_195 : decode b_M_init 195 = .ok (.idiv, 1) := by decide +kernel
theorem d_M_init_196 : decode b_M_init 196 = .ok (.iload_n 2, 1) := by decide +kernel
theorem d_M_init_197 : decode b_M_init 197 = .ok (.bipush 6, 2) := by decide +kernel
theorem d_M_init_199 : decode b_M_init 199 = .ok (.irem, 1) := by decide +kernel
theorem d_M_init_200 : decode b_M_init 200 = .ok (.if_icmp .ne 7, 3) := by decide +kernel
theorem d_M_init_203 : decode b_M_init 203 = .ok (.iconst 0, 1) := by decide +kernel
theorem d_M_init_204 : decode b_M_init 204 = .ok (.goto 6, 3) := by decide +kernel
theorem d_M_init_207 : decode b_M_init 207 = .ok (.sipush 10000, 3) := by decide +kernel
theorem d_M_init_210 : decode b_M_init 210 = .ok (.iastore, 1) := by decide +kernel
theorem d_M_init_211 : decode b_M_init 211 = .ok (.aload_n 0, 1) := by decide +kernel
theorem d_M_init_212 : decode b_M_init 212 = .ok (.getfield 19, 3) := by decide +kernel
theorem d_M_init_215 : decode b_M_init 215 = .ok (.iload_n 2, 1) := by decide +kernel
theorem d_M_init_216 : decode b_M_init 216 = .ok (.iconst (-1), 1) := by decide +kernel
theorem d_M_init_217 : decode b_M_init 217 = .ok (.iastore, 1) := by decide +kernel
theorem d_M_init_218 : decode b_M_init 218 = .ok (.iinc 2 1, 3) := by decide +kernel
theorem d_M_init_221 : decode b_M_init 221 = .ok (.goto (-64), 3) := by decide +kernel
theorem d_M_init_224 : decode b_M_init 224 = .ok (.iconst 0, 1) := by decide +kernel
theorem d_M_init_225 : decode b_M_init 225 = .ok (.istore_n 2, 1) := by decide +kernel
theorem d_M_init_226 : decode b_M_init 226 = .ok (.iload_n 2, 1) := by decide +kernel
theorem d_M_init_227 : decode b_M_init 227 = .ok (.sipush 216, 3) := by decide +kernel
theorem d_M_init_230 : decode b_M_init 230 = .ok (.if_icmp .ge 18, 3) := by decide +kernel
theorem d_M_init_233 : decode b_M_init 233 = .ok (.aload_n 0, 1) := by decide +kernel
theorem d_M_init_234 : decode b_M_init 234 = .ok (.getfield 32, 3) := by decide +kernel
theorem d_M_init_237 : decode b_M_init 237 = .ok (.iload_n 2, 1) := by decide +kernel
theorem d_M_init_238 : decode b_M_init 238 = .ok (.sipush 10000, 3) := by decide +kernel
theorem d_M_init_241 : decode b_M_init 241 = .ok (.iastore, 1) := by decide +kernel
theorem d_M_init_242 : decode b_M_init 242 = .ok (.iinc 2 1, 3) := by decide +kernel
theorem d_M_init_245 : decode b_M_init 245 = .ok (.goto (-19), 3) := by decide +kernel
theorem d_M_init_248 : decode b_M_init 248 = .ok (.return_, 1) := by decide +kernel
