def lwIn (w : Cond) : Bool := decide (w ∈ lw_tbl)
theorem lw_all2 {l : List Cond} (k : Nat) (h1 : (l.take k).all lwIn = true) (h2 : (l.drop k).all lwIn = true) : l.all lwIn = true := by
  rw [← List.take_append_drop k l, List.all_append, h1, h2]; rfl
theorem zT_0_0 : ((zT_0.drop 0).take 5).all lwIn = true := by decide +kernel
theorem zT_0_d0 : (zT_0.drop 0).all lwIn = true := lw_all2 5 zT_0_0 (by decide +kernel)
theorem zT_0_sub : ∀ w ∈ zT_0, w ∈ lw_tbl := fun w hw => of_decide_eq_true (List.all_eq_true.mp zT_0_d0 w hw)
theorem zT_1_0 : ((zT_1.drop 0).take 8).all lwIn = true := by decide +kernel
theorem zT_1_1 : ((zT_1.drop 8).take 8).all lwIn = true := by decide +kernel
theorem zT_1_2 : ((zT_1.drop 16).take 8).all lwIn = true := by decide +kernel
theorem zT_1_3 : ((zT_1.drop 24).take 8).all lwIn = true := by decide +kernel
theorem zT_1_4 : ((zT_1.drop 32).take 8).all lwIn = true := by decide +kernel
theorem zT_1_5 : ((zT_1.drop 40).take 8).all lwIn = true := by decide +kernel
theorem zT_1_6 : ((zT_1.drop 48).take 8).all lwIn = true := by decide +kernel
theorem zT_1_7 : ((zT_1.drop 56).take 4).all lwIn = true := by decide +kernel
theorem zT_1_d7 : (zT_1.drop 56).all lwIn = true := lw_all2 4 zT_1_7 (by decide +kernel)
theorem zT_1_d6 : (zT_1.drop 48).all lwIn = true := lw_all2 8 zT_1_6 (by rw [List.drop_drop]; exact zT_1_d7)
theorem zT_1_d5 : (zT_1.drop 40).all lwIn = true := lw_all2 8 zT_1_5 (by rw [List.drop_drop]; exact zT_1_d6)
theorem zT_1_d4 : (zT_1.drop 32).all lwIn = true := lw_all2 8 zT_1_4 (by rw [List.drop_drop]; exact zT_1_d5)
theorem zT_1_d3 : (zT_1.drop 24).all lwIn = true := lw_all2 8 zT_1_3 (by rw [List.drop_drop]; exact zT_1_d4)
theorem zT_1_d2 : (zT_1.drop 16).all lwIn = true := lw_all2 8 zT_1_2 (by rw [List.drop_drop]; exact zT_1_d3)
theorem zT_1_d1 : (zT_1.drop 8).all lwIn = true := lw_all2 8 zT_1_1 (by rw [List.drop_drop]; exact zT_1_d2)
theorem zT_1_d0 : (zT_1.drop 0).all lwIn = true := lw_all2 8 zT_1_0 (by rw [List.drop_drop]; exact zT_1_d1)
theorem zT_1_sub : ∀ w ∈ zT_1, w ∈ lw_tbl := fun w hw => of_decide_eq_true (List.all_eq_true.mp zT_1_d0 w hw)
theorem zT_2_0 : ((zT_2.drop 0).take 8).all lwIn = true := by decide +kernel
theorem zT_2_1 : ((zT_2.drop 8).take 8).all lwIn = true := by decide +kernel
theorem zT_2_2 : ((zT_2.drop 16).take 8).all lwIn = true := by decide +kernel
theorem zT_2_3 : ((zT_2.drop 24).take 8).all lwIn = true := by decide +kernel
theorem zT_2_4 : ((zT_2.drop 32).take 8).all lwIn = true := by decide +kernel
theorem zT_2_5 : ((zT_2.drop 40).take 8).all lwIn = true := by decide +kernel
theorem zT_2_6 : ((zT_2.drop 48).take 8).all lwIn = true := by decide +kernel
theorem zT_2_7 : ((zT_2.drop 56).take 4).all lwIn = true := by decide +kernel
theorem zT_2_d7 : (zT_2.drop 56).all lwIn = true := lw_all2 4 zT_2_7 (by decide +kernel)
theorem zT_2_d6 : (zT_2.drop 48).all lwIn = true := lw_all2 8 zT_2_6 (by rw [List.drop_drop]; exact zT_2_d7)
theorem zT_2_d5 : (zT_2.drop 40).all lwIn = true := lw_all2 8 zT_2_5 (by rw [List.drop_drop]; exact zT_2_d6)
theorem zT_2_d4 : (zT_2.drop 32).all lwIn = true := lw_all2 8 zT_2_4 (by rw [List.drop_drop]; exact zT_2_d5)
theorem zT_2_d3 : (zT_2.drop 24).all lwIn = true := lw_all2 8 zT_2_3 (by rw [List.drop_drop]; exact zT_2_d4)
theorem zT_2_d2 : (zT_2.drop 16).all lwIn = true := lw_all2 8 zT_2_2 (by rw [List.drop_drop]; exact zT_2_d3)
theorem zT_2_d1 : (zT_2.drop 8).all lwIn = true := lw_all2 8 zT_2_1 (by rw [List.drop_drop]; exact zT_2_d2)
theorem zT_2_d0 : (zT_2.drop 0).all lwIn = true := lw_all2 8 zT_2_0 (by rw [List.drop_drop]; exact zT_2_d1)
theorem zT_2_sub : ∀ w ∈ zT_2, w ∈ lw_tbl := fun w hw => of_decide_eq_true (List.all_eq_true.mp zT_2_d0 w hw)
theorem zT_3_0 : ((zT_3.drop 0).take 8).all lwIn = true := by decide +kernel
theorem zT_3_1 : ((zT_3.drop 8).take 8).all lwIn = true := by decide +kernel
theorem zT_3_2 : ((zT_3.drop 16).take 8).all lwIn = true := by decide +kernel
theorem zT_3_3 : ((zT_3.drop 24).take 8).all lwIn = true := by decide +kernel
theorem zT_3_4 : ((zT_3.drop 32).take 8).all lwIn = true := by decide +kernel
theorem zT_3_5 : ((zT_3.drop 40).take 8).all lwIn = true := by decide +kernel
theorem zT_3_6 : ((zT_3.drop 48).take 8).all lwIn = true := by decide +kernel
theorem zT_3_7 : ((zT_3.drop 56).take 4).all lwIn = true := by decide +kernel
theorem zT_3_d7 : (zT_3.drop 56).all lwIn = true := lw_all2 4 zT_3_7 (by decide +kernel)
theorem zT_3_d6 : (zT_3.drop 48).all lwIn = true := lw_all2 8 zT_3_6 (by rw [List.drop_drop]; exact zT_3_d7)
theorem zT_3_d5 : (zT_3.drop 40).all lwIn = true := lw_all2 8 zT_3_5 (by rw [List.drop_drop]; exact zT_3_d6)
theorem zT_3_d4 : (zT_3.drop 32).all lwIn = true := lw_all2 8 zT_3_4 (by rw [List.drop_drop]; exact zT_3_d5)
theorem zT_3_d3 : (zT_3.drop 24).all lwIn = true := lw_all2 8 zT_3_3 (by rw [List.drop_drop]; exact zT_3_d4)
theorem zT_3_d2 : (zT_3.drop 16).all lwIn = true := lw_all2 8 zT_3_2 (by rw [List.drop_drop]; exact zT_3_d3)
theorem zT_3_d1 : (zT_3.drop 8).all lwIn = true := lw_all2 8 zT_3_1 (by rw [List.drop_drop]; exact zT_3_d2)
theorem zT_3_d0 : (zT_3.drop 0).all lwIn = true := lw_all2 8 zT_3_0 (by rw [List.drop_drop]; exact zT_3_d1)
theorem zT_3_sub : ∀ w ∈ zT_3, w ∈ lw_tbl := fun w hw => of_decide_eq_true (List.all_eq_true.mp zT_3_d0 w hw)
theorem zT_4_0 : ((zT_4.drop 0).take 8).all lwIn = true := by decide +kernel
theorem zT_4_1 : ((zT_4.drop 8).take 8).all lwIn = true := by decide +kernel
theorem zT_4_2 : ((zT_4.drop 16).take 8).all lwIn = true := by decide +kernel
theorem zT_4_3 : ((zT_4.drop 24).take 8).all lwIn = true := by decide +kernel
theorem zT_4_4 : ((zT_4.drop 32).take 8).all lwIn = true := by decide +kernel
theorem zT_4_5 : ((zT_4.drop 40).take 8).all lwIn = true := by decide +kernel
theorem zT_4_6 : ((zT_4.drop 48).take 8).all lwIn = true := by decide +kernel
theorem zT_4_7 : ((zT_4.drop 56).take 4).all lwIn = true := by decide +kernel
theorem zT_4_d7 : (zT_4.drop 56).all lwIn = true := lw_all2 4 zT_4_7 (by decide +kernel)
theorem zT_4_d6 : (zT_4.drop 48).all lwIn = true := lw_all2 8 zT_4_6 (by rw [List.drop_drop]; exact zT_4_d7)
theorem zT_4_d5 : (zT_4.drop 40).all lwIn = true := lw_all2 8 zT_4_5 (by rw [List.drop_drop]; exact zT_4_d6)
theorem zT_4_d4 : (zT_4.drop 32).all lwIn = true := lw_all2 8 zT_4_4 (by rw [List.drop_drop]; exact zT_4_d5)
theorem zT_4_d3 : (zT_4.drop 24).all lwIn = true := lw_all2 8 zT_4_3 (by rw [List.drop_drop]; exact zT_4_d4)
theorem zT_4_d2 : (zT_4.drop 16).all lwIn = true := lw_all2 8 zT_4_2 (by rw [List.drop_drop]; exact zT_4_d3)
theorem zT_4_d1 : (zT_4.drop 8).all lwIn = true := lw_all2 8 zT_4_1 (by rw [List.drop_drop]; exact zT_4_d2)
theorem zT_4_d0 : (zT_4.drop 0).all lwIn = true := lw_all2 8 zT_4_0 (by rw [List.drop_drop]; exact zT_4_d1)
theorem zT_4_sub : ∀ w ∈ zT_4, w ∈ lw_tbl := fun w hw => of_decide_eq_true (List.all_eq_true.mp zT_4_d0 w hw)
theorem zT_5_0 : ((zT_5.drop 0).take 8).all lwIn = true := by decide +kernel
theorem zT_5_1 : ((zT_5.drop 8).take 8).all lwIn = true := by decide +kernel
theorem zT_5_2 : ((zT_5.drop 16).take 8).all lwIn = true := by decide +kernel
theorem zT_5_3 : ((zT_5.drop 24).take 8).all lwIn = true := by decide +kernel
theorem zT_5_4 : ((zT_5.drop 32).take 8).all lwIn = true := by decide +kernel
theorem zT_5_5 : ((zT_5.drop 40).take 8).all lwIn = true := by decide +kernel
theorem zT_5_6 : ((zT_5.drop 48).take 8).all lwIn = true := by decide +kernel
theorem zT_5_7 : ((zT_5.drop 56).take 4).all lwIn = true := by decide +kernel
theorem zT_5_d7 : (zT_5.drop 56).all lwIn = true := lw_all2 4 zT_5_7 (by decide +kernel)
theorem zT_5_d6 : (zT_5.drop 48).all lwIn = true := lw_all2 8 zT_5_6 (by rw [List.drop_drop]; exact zT_5_d7)
theorem zT_5_d5 : (zT_5.drop 40).all lwIn = true := lw_all2 8 zT_5_5 (by rw [List.drop_drop]; exact zT_5_d6)
theorem zT_5_d4 : (zT_5.drop 32).all lwIn = true := lw_all2 8 zT_5_4 (by rw [List.drop_drop]; exact zT_5_d5)
theorem zT_5_d3 : (zT_5.drop 24).all lwIn = true := lw_all2 8 zT_5_3 (by rw [List.drop_drop]; exact zT_5_d4)
theorem zT_5_d2 : (zT_5.drop 16).all lwIn = true := lw_all2 8 zT_5_2 (by rw [List.drop_drop]; exact zT_5_d3)
theorem zT_5_d1 : (zT_5.drop 8).all lwIn = true := lw_all2 8 zT_5_1 (by rw [List.drop_drop]; exact zT_5_d2)
theorem zT_5_d0 : (zT_5.drop 0).all lwIn = true := lw_all2 8 zT_5_0 (by rw [List.drop_drop]; exact zT_5_d1)
theorem zT_5_sub : ∀ w ∈ zT_5, w ∈ lw_tbl := fun w hw => of_decide_eq_true (List.all_eq_true.mp zT_5_d0 w hw)
theorem zT_6_0 : ((zT_6.drop 0).take 8).all lwIn = true := by decide +kernel
theorem zT_6_1 : ((zT_6.drop 8).take 8).all lwIn = true := by decide +kernel
theorem zT_6_2 : ((zT_6.drop 16).take 8).all lwIn = true := by decide +kernel
theorem zT_6_3 : ((zT_6.drop 24).take 8).all lwIn = true := by decide +kernel
theorem zT_6_4 : ((zT_6.drop 32).take 8).all lwIn = true := by decide +kernel
theorem zT_6_5 : ((zT_6.drop 40).take 8).all lwIn = true := by decide +kernel
theorem zT_6_6 : ((zT_6.drop 48).take 8).all lwIn = true := by decide +kernel
theorem zT_6_7 : ((zT_6.drop 56).take 4).all lwIn = true := by decide +kernel
theorem zT_6_d7 : (zT_6.drop 56).all lwIn = true := lw_all2 4 zT_6_7 (by decide +kernel)
theorem zT_6_d6 : (zT_6.drop 48).all lwIn = true := lw_all2 8 zT_6_6 (by rw [List.drop_drop]; exact zT_6_d7)
theorem zT_6_d5 : (zT_6.drop 40).all lwIn = true := lw_all2 8 zT_6_5 (by rw [List.drop_drop]; exact zT_6_d6)
theorem zT_6_d4 : (zT_6.drop 32).all lwIn = true := lw_all2 8 zT_6_4 (by rw [List.drop_drop]; exact zT_6_d5)
theorem zT_6_d3 : (zT_6.drop 24).all lwIn = true := lw_all2 8 zT_6_3 (by rw [List.drop_drop]; exact zT_6_d4)
theorem zT_6_d2 : (zT_6.drop 16).all lwIn = true := lw_all2 8 zT_6_2 (by rw [List.drop_drop]; exact zT_6_d3)
theorem zT_6_d1 : (zT_6.drop 8).all lwIn = true := lw_all2 8 zT_6_1 (by rw [List.drop_drop]; exact zT_6_d2)
theorem zT_6_d0 : (zT_6.drop 0).all lwIn = true := lw_all2 8 zT_6_0 (by rw [List.drop_drop]; exact zT_6_d1)
theorem zT_6_sub : ∀ w ∈ zT_6, w ∈ lw_tbl := fun w hw => of_decide_eq_true (List.all_eq_true.mp zT_6_d0 w hw)
theorem zT_7_0 : ((zT_7.drop 0).take 4).all lwIn = true := by decide +kernel
theorem zT_7_d0 : (zT_7.drop 0).all lwIn = true := lw_all2 4 zT_7_0 (by decide +kernel)
theorem zT_7_sub : ∀ w ∈ zT_7, w ∈ lw_tbl := fun w hw => of_decide_eq_true (List.all_eq_true.mp zT_7_d0 w hw)
theorem zT_sub : ∀ w ∈ zT, w ∈ lw_tbl := by
  show ∀ w ∈ zT_0 ++ (zT_1 ++ (zT_2 ++ (zT_3 ++ (zT_4 ++ (zT_5 ++ (zT_6 ++ (zT_7))))))), w ∈ lw_tbl
  exact List.forall_mem_append.mpr ⟨zT_0_sub, List.forall_mem_append.mpr ⟨zT_1_sub, List.forall_mem_append.mpr ⟨zT_2_sub, List.forall_mem_append.mpr ⟨zT_3_sub, List.forall_mem_append.mpr ⟨zT_4_sub, List.forall_mem_append.mpr ⟨zT_5_sub, List.forall_mem_append.mpr ⟨zT_6_sub, zT_7_sub⟩⟩⟩⟩⟩⟩⟩
