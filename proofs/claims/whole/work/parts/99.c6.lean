/-! The reference's constructor. -/
def zCl (x : Int32) : Nat := if x < 2 then 2 else if 6 < x then 6 else x.toNatClampNeg
theorem zCl_m {x : Int32} (h : ¬ x < 2) (h6 : ¬ 6 < x) : ∃ j, (2 ≤ j ∧ j ≤ 6) ∧ x = nI j := by
  obtain ⟨j, hj, rfl⟩ := nI_of (x := x) (fun q => h (Int32.lt_trans q (by decide)))
  refine ⟨j, ⟨?_, ?_⟩, rfl⟩
  · exact Nat.not_lt.mp (fun q => h (nI_lt (b := 2) q (by omega)))
  · exact Nat.not_lt.mp (fun q => h6 (nI_lt (a := 6) q hj))
theorem zCl_b (x : Int32) : 2 ≤ zCl x ∧ zCl x ≤ 6 := by
  unfold zCl
  by_cases h : x < 2
  · rw [if_pos h]; omega
  rw [if_neg h]
  by_cases h6 : 6 < x
  · rw [if_pos h6]; omega
  rw [if_neg h6]
  obtain ⟨j, hj, rfl⟩ := zCl_m h h6
  rw [zo_c (by omega)]
  exact hj
theorem zCl_lo {x : Int32} (h : ¬ 2 ≤ x) : 2 = nI (zCl x) := by
  unfold zCl
  rw [if_pos (Int32.not_le.mp h)]
  rfl
theorem zCl_hi {x : Int32} (h : 2 ≤ x) (h6 : ¬ x ≤ 6) : 6 = nI (zCl x) := by
  unfold zCl
  rw [if_neg (Int32.not_lt.mpr h), if_pos (Int32.not_le.mp h6)]
  rfl
theorem zCl_mid {x : Int32} (h : 2 ≤ x) (h6 : x ≤ 6) : x = nI (zCl x) := by
  obtain ⟨j, hj, rfl⟩ := zCl_m (Int32.not_lt.mpr h) (Int32.not_lt.mpr h6)
  unfold zCl
  rw [if_neg (Int32.not_lt.mpr h), if_neg (Int32.not_lt.mpr h6), zo_c (by omega)]
theorem zCl_max (x : Int32) : (if (2 : Int32) < (if x < 6 then x else 6) then (if x < 6 then x else 6) else 2) = nI (zCl x) := by
  by_cases h6 : x < 6
  · rw [if_pos h6]
    by_cases h2 : 2 < x
    · rw [if_pos h2]
      exact zCl_mid (Int32.le_of_lt h2) (Int32.le_of_lt h6)
    · rw [if_neg h2]
      by_cases h : 2 ≤ x
      · have e : x = 2 := Int32.le_antisymm (Int32.not_lt.mp h2) h
        subst e
        rfl
      · exact zCl_lo h
  · rw [if_neg h6, if_pos (by decide)]
    by_cases h : x ≤ 6
    · have e : x = 6 := Int32.le_antisymm h (Int32.not_lt.mp h6)
      subst e
      rfl
    · exact zCl_hi (Int32.le_trans (by decide) (Int32.not_lt.mp h6)) h
section CN
variable {dC : Nat → ClassId} {dI : Nat → Nat → Nat} {cI cZ cR cA : ClassId}
set_option maxHeartbeats 4000000 in
set_option maxRecDepth 100000 in
theorem C_M_init (l : Launch) (h0 sz : Nat) (x : Int32) : zCi (dC, dI) (zty cI cZ cR cA) (zAn h0 sz) l y_M_init b_M_init 3 { frames := 1, cells := 15, slots := 5807, locals := 20 } [.ref h0, .int x]
    (fun H => H.size = sz ∧ va_at (dC, dI) zcl (h0, .inr (3, [.int 0, .null, .null, .null, .null, .null, .null, .null, .null, .null, .int 0, .null, .null, .null, .null, .null, .null])) H)
    (fun H => ∃ ad : zK → Nat, ad (0, 0) = h0 ∧ zD (zAn h0 sz) zKm ad ∧ zV (dC, dI) zcl zKm ad (zmE (zCl x) cI cZ ad) zIm H) 15 5807 := by
  refine zCi_of (by decide) (Nat.le_of_ble_eq_true rfl) ?_
  intro p e s m args below meth c ls S hr hlk hin hKq hP hl
  obtain ⟨hsz, hP⟩ := hP
  have hK := hKq.1
  have hl : lv_has ls 3 [(0, .ref h0), (1, .int x)] := hl
  subst hsz
  have hA : ∀ q : Nat, s.heap.size ≤ q → zAn h0 s.heap.size q := fun q h => Or.inr h
  have hD : va_D (zAn h0 s.heap.size) [(h0, .inr (3, [.int 0, .null, .null, .null, .null, .null, .null, .null, .null, .null, .int 0, .null, .null, .null, .null, .null, .null]))] := zD_1 (Or.inl rfl)
  have hP := zP_1 hP
  have hS : va_S (zAn h0 s.heap.size) s.heap s.heap [] := va_S.rf
  refine lv_aload_n S.1 S.2.1 d_M_init_0 rfl (lv_at hl 0 rfl) ?_
  refine zi_obj S (zwi 7 rfl) hl.1 (Nat.le_of_ble_eq_true rfl) (Nat.le_of_ble_eq_true rfl) d_M_init_1 ?_
  refine lv_aload_n S.1 S.2.1 d_M_init_4 rfl (lv_at hl 0 rfl) ?_
  refine lv_bipush (v := 36) S.1 S.2.1 d_M_init_5 (by decide) ?_
  refine va_newa (ty := .int) (a0 := (36, .inl (fun _ => 0))) (N' := 36) S.1 S.2.1 (S.2.2.2.2 _ (zwi 3 rfl)) rfl hK hP hD hS hA (fun _ => rfl) (nI_pos (n := 36) (by decide)) (nI_clamp (n := 36) (by decide)) (by show 36 * 4 ≤ 536870912; omega) (by show 0 + 1 ≤ 15; omega) (by show 0 + 36 ≤ 5807; omega) d_M_init_7 (fun q1 cX H hKx hP hD hS => ?_)
  rw [zty_one (cX := cI) (i := 0) hK rfl hKx] at hP hD
  have hP : va_P (dC, dI) zcl [(h0, .inr (3, [.int 0, .null, .null, .null, .null, .null, .null, .null, .null, .null, .int 0, .null, .null, .null, .null, .null, .null])), (q1, .inl (cI, 36, .inl (fun _ => 0)))] H := hP
  refine va_putF (D := (dC, dI)) (ci := 3) (v := .ref q1) (ty := .array .int) (C := N_M) (T := FT_M) (N := 17) S.1 S.2.1 S.2.2.2.2 (fun w h => zwT (zi_M w h)) t_M t_M_ok n_M S.2.2.2.1 hK hP hD hS 0 rfl rfl 1 (by decide) (S.2.2.2.2 _ (zwi 37 rfl)) (fun _ h9 => h9) rfl hin rfl (by decide +kernel) rfl rfl (Nat.le_of_ble_eq_true rfl) d_M_init_9 (fun H locs hP hD hS => ?_)
  have hP : va_P (dC, dI) zcl [(h0, .inr (3, [.int 0, .ref q1, .null, .null, .null, .null, .null, .null, .null, .null, .int 0, .null, .null, .null, .null, .null, .null])), (q1, .inl (cI, 36, .inl (fun _ => 0)))] H := hP
  refine lv_aload_n S.1 S.2.1 d_M_init_12 rfl (lv_at hl 0 rfl) ?_
  refine lv_bipush (v := 36) S.1 S.2.1 d_M_init_13 (by decide) ?_
  refine va_newa (ty := .int) (a0 := (36, .inl (fun _ => 0))) (N' := 36) S.1 S.2.1 (S.2.2.2.2 _ (zwi 3 rfl)) rfl hK hP hD hS hA (fun _ => rfl) (nI_pos (n := 36) (by decide)) (nI_clamp (n := 36) (by decide)) (by show 36 * 4 ≤ 536870912; omega) (by show 0 + 1 + 1 ≤ 15; omega) (by show 0 + 36 + 36 ≤ 5807; omega) d_M_init_15 (fun q2 cX H hKx hP hD hS => ?_)
  rw [zty_one (cX := cI) (i := 0) hK rfl hKx] at hP hD
  have hP : va_P (dC, dI) zcl [(h0, .inr (3, [.int 0, .ref q1, .null, .null, .null, .null, .null, .null, .null, .null, .int 0, .null, .null, .null, .null, .null, .null])), (q1, .inl (cI, 36, .inl (fun _ => 0))), (q2, .inl (cI, 36, .inl (fun _ => 0)))] H := hP
  refine va_putF (D := (dC, dI)) (ci := 3) (v := .ref q2) (ty := .array .int) (C := N_M) (T := FT_M) (N := 17) S.1 S.2.1 S.2.2.2.2 (fun w h => zwT (zi_M w h)) t_M t_M_ok n_M S.2.2.2.1 hK hP hD hS 0 rfl rfl 2 (by decide) (S.2.2.2.2 _ (zwi 38 rfl)) (fun _ h9 => h9) rfl hin rfl (by decide +kernel) rfl rfl (Nat.le_of_ble_eq_true rfl) d_M_init_17 (fun H locs hP hD hS => ?_)
  have hP : va_P (dC, dI) zcl [(h0, .inr (3, [.int 0, .ref q1, .ref q2, .null, .null, .null, .null, .null, .null, .null, .int 0, .null, .null, .null, .null, .null, .null])), (q1, .inl (cI, 36, .inl (fun _ => 0))), (q2, .inl (cI, 36, .inl (fun _ => 0)))] H := hP
  refine lv_aload_n S.1 S.2.1 d_M_init_20 rfl (lv_at hl 0 rfl) ?_
  refine lv_bipush (v := 36) S.1 S.2.1 d_M_init_21 (by decide) ?_
  refine va_newa (ty := .int) (a0 := (36, .inl (fun _ => 0))) (N' := 36) S.1 S.2.1 (S.2.2.2.2 _ (zwi 3 rfl)) rfl hK hP hD hS hA (fun _ => rfl) (nI_pos (n := 36) (by decide)) (nI_clamp (n := 36) (by decide)) (by show 36 * 4 ≤ 536870912; omega) (by show 0 + 1 + 1 + 1 ≤ 15; omega) (by show 0 + 36 + 36 + 36 ≤ 5807; omega) d_M_init_23 (fun q3 cX H hKx hP hD hS => ?_)
  rw [zty_one (cX := cI) (i := 0) hK rfl hKx] at hP hD
  have hP : va_P (dC, dI) zcl [(h0, .inr (3, [.int 0, .ref q1, .ref q2, .null, .null, .null, .null, .null, .null, .null, .int 0, .null, .null, .null, .null, .null, .null])), (q1, .inl (cI, 36, .inl (fun _ => 0))), (q2, .inl (cI, 36, .inl (fun _ => 0))), (q3, .inl (cI, 36, .inl (fun _ => 0)))] H := hP
  refine va_putF (D := (dC, dI)) (ci := 3) (v := .ref q3) (ty := .array .int) (C := N_M) (T := FT_M) (N := 17) S.1 S.2.1 S.2.2.2.2 (fun w h => zwT (zi_M w h)) t_M t_M_ok n_M S.2.2.2.1 hK hP hD hS 0 rfl rfl 3 (by decide) (S.2.2.2.2 _ (zwi 39 rfl)) (fun _ h9 => h9) rfl hin rfl (by decide +kernel) rfl rfl (Nat.le_of_ble_eq_true rfl) d_M_init_25 (fun H locs hP hD hS => ?_)
  have hP : va_P (dC, dI) zcl [(h0, .inr (3, [.int 0, .ref q1, .ref q2, .ref q3, .null, .null, .null, .null, .null, .null, .int 0, .null, .null, .null, .null, .null, .null])), (q1, .inl (cI, 36, .inl (fun _ => 0))), (q2, .inl (cI, 36, .inl (fun _ => 0))), (q3, .inl (cI, 36, .inl (fun _ => 0)))] H := hP
  refine lv_aload_n S.1 S.2.1 d_M_init_28 rfl (lv_at hl 0 rfl) ?_
  refine lv_bipush (v := 36) S.1 S.2.1 d_M_init_29 (by decide) ?_
  refine va_newa (ty := .int) (a0 := (36, .inl (fun _ => 0))) (N' := 36) S.1 S.2.1 (S.2.2.2.2 _ (zwi 3 rfl)) rfl hK hP hD hS hA (fun _ => rfl) (nI_pos (n := 36) (by decide)) (nI_clamp (n := 36) (by decide)) (by show 36 * 4 ≤ 536870912; omega) (by show 0 + 1 + 1 + 1 + 1 ≤ 15; omega) (by show 0 + 36 + 36 + 36 + 36 ≤ 5807; omega) d_M_init_31 (fun q4 cX H hKx hP hD hS => ?_)
  rw [zty_one (cX := cI) (i := 0) hK rfl hKx] at hP hD
  have hP : va_P (dC, dI) zcl [(h0, .inr (3, [.int 0, .ref q1, .ref q2, .ref q3, .null, .null, .null, .null, .null, .null, .int 0, .null, .null, .null, .null, .null, .null])), (q1, .inl (cI, 36, .inl (fun _ => 0))), (q2, .inl (cI, 36, .inl (fun _ => 0))), (q3, .inl (cI, 36, .inl (fun _ => 0))), (q4, .inl (cI, 36, .inl (fun _ => 0)))] H := hP
  refine va_putF (D := (dC, dI)) (ci := 3) (v := .ref q4) (ty := .array .int) (C := N_M) (T := FT_M) (N := 17) S.1 S.2.1 S.2.2.2.2 (fun w h => zwT (zi_M w h)) t_M t_M_ok n_M S.2.2.2.1 hK hP hD hS 0 rfl rfl 4 (by decide) (S.2.2.2.2 _ (zwi 40 rfl)) (fun _ h9 => h9) rfl hin rfl (by decide +kernel) rfl rfl (Nat.le_of_ble_eq_true rfl) d_M_init_33 (fun H locs hP hD hS => ?_)
  have hP : va_P (dC, dI) zcl [(h0, .inr (3, [.int 0, .ref q1, .ref q2, .ref q3, .ref q4, .null, .null, .null, .null, .null, .int 0, .null, .null, .null, .null, .null, .null])), (q1, .inl (cI, 36, .inl (fun _ => 0))), (q2, .inl (cI, 36, .inl (fun _ => 0))), (q3, .inl (cI, 36, .inl (fun _ => 0))), (q4, .inl (cI, 36, .inl (fun _ => 0)))] H := hP
  refine lv_aload_n S.1 S.2.1 d_M_init_36 rfl (lv_at hl 0 rfl) ?_
  refine lv_bipush (v := 36) S.1 S.2.1 d_M_init_37 (by decide) ?_
  refine va_newa (ty := .boolean) (a0 := (36, .inl (fun _ => 0))) (N' := 36) S.1 S.2.1 (S.2.2.2.2 _ (zwi 4 rfl)) rfl hK hP hD hS hA (fun _ => rfl) (nI_pos (n := 36) (by decide)) (nI_clamp (n := 36) (by decide)) (by show 36 * 1 ≤ 536870912; omega) (by show 0 + 1 + 1 + 1 + 1 + 1 ≤ 15; omega) (by show 0 + 36 + 36 + 36 + 36 + 36 ≤ 5807; omega) d_M_init_39 (fun q5 cX H hKx hP hD hS => ?_)
  rw [zty_one (cX := cZ) (i := 1) hK rfl hKx] at hP hD
  have hP : va_P (dC, dI) zcl [(h0, .inr (3, [.int 0, .ref q1, .ref q2, .ref q3, .ref q4, .null, .null, .null, .null, .null, .int 0, .null, .null, .null, .null, .null, .null])), (q1, .inl (cI, 36, .inl (fun _ => 0))), (q2, .inl (cI, 36, .inl (fun _ => 0))), (q3, .inl (cI, 36, .inl (fun _ => 0))), (q4, .inl (cI, 36, .inl (fun _ => 0))), (q5, .inl (cZ, 36, .inl (fun _ => 0)))] H := hP
  refine va_putF (D := (dC, dI)) (ci := 3) (v := .ref q5) (ty := .array .boolean) (C := N_M) (T := FT_M) (N := 17) S.1 S.2.1 S.2.2.2.2 (fun w h => zwT (zi_M w h)) t_M t_M_ok n_M S.2.2.2.1 hK hP hD hS 0 rfl rfl 5 (by decide) (S.2.2.2.2 _ (zwi 41 rfl)) (fun _ h9 => h9) rfl hin rfl (by decide +kernel) rfl rfl (Nat.le_of_ble_eq_true rfl) d_M_init_41 (fun H locs hP hD hS => ?_)
  have hP : va_P (dC, dI) zcl [(h0, .inr (3, [.int 0, .ref q1, .ref q2, .ref q3, .ref q4, .ref q5, .null, .null, .null, .null, .int 0, .null, .null, .null, .null, .null, .null])), (q1, .inl (cI, 36, .inl (fun _ => 0))), (q2, .inl (cI, 36, .inl (fun _ => 0))), (q3, .inl (cI, 36, .inl (fun _ => 0))), (q4, .inl (cI, 36, .inl (fun _ => 0))), (q5, .inl (cZ, 36, .inl (fun _ => 0)))] H := hP
  refine lv_aload_n S.1 S.2.1 d_M_init_44 rfl (lv_at hl 0 rfl) ?_
  refine lv_bipush (v := 36) S.1 S.2.1 d_M_init_45 (by decide) ?_
  refine va_newa (ty := .boolean) (a0 := (36, .inl (fun _ => 0))) (N' := 36) S.1 S.2.1 (S.2.2.2.2 _ (zwi 4 rfl)) rfl hK hP hD hS hA (fun _ => rfl) (nI_pos (n := 36) (by decide)) (nI_clamp (n := 36) (by decide)) (by show 36 * 1 ≤ 536870912; omega) (by show 0 + 1 + 1 + 1 + 1 + 1 + 1 ≤ 15; omega) (by show 0 + 36 + 36 + 36 + 36 + 36 + 36 ≤ 5807; omega) d_M_init_47 (fun q6 cX H hKx hP hD hS => ?_)
  rw [zty_one (cX := cZ) (i := 1) hK rfl hKx] at hP hD
  have hP : va_P (dC, dI) zcl [(h0, .inr (3, [.int 0, .ref q1, .ref q2, .ref q3, .ref q4, .ref q5, .null, .null, .null, .null, .int 0, .null, .null, .null, .null, .null, .null])), (q1, .inl (cI, 36, .inl (fun _ => 0))), (q2, .inl (cI, 36, .inl (fun _ => 0))), (q3, .inl (cI, 36, .inl (fun _ => 0))), (q4, .inl (cI, 36, .inl (fun _ => 0))), (q5, .inl (cZ, 36, .inl (fun _ => 0))), (q6, .inl (cZ, 36, .inl (fun _ => 0)))] H := hP
  refine va_putF (D := (dC, dI)) (ci := 3) (v := .ref q6) (ty := .array .boolean) (C := N_M) (T := FT_M) (N := 17) S.1 S.2.1 S.2.2.2.2 (fun w h => zwT (zi_M w h)) t_M t_M_ok n_M S.2.2.2.1 hK hP hD hS 0 rfl rfl 6 (by decide) (S.2.2.2.2 _ (zwi 42 rfl)) (fun _ h9 => h9) rfl hin rfl (by decide +kernel) rfl rfl (Nat.le_of_ble_eq_true rfl) d_M_init_49 (fun H locs hP hD hS => ?_)
  have hP : va_P (dC, dI) zcl [(h0, .inr (3, [.int 0, .ref q1, .ref q2, .ref q3, .ref q4, .ref q5, .ref q6, .null, .null, .null, .int 0, .null, .null, .null, .null, .null, .null])), (q1, .inl (cI, 36, .inl (fun _ => 0))), (q2, .inl (cI, 36, .inl (fun _ => 0))), (q3, .inl (cI, 36, .inl (fun _ => 0))), (q4, .inl (cI, 36, .inl (fun _ => 0))), (q5, .inl (cZ, 36, .inl (fun _ => 0))), (q6, .inl (cZ, 36, .inl (fun _ => 0)))] H := hP
  refine lv_aload_n S.1 S.2.1 d_M_init_52 rfl (lv_at hl 0 rfl) ?_
  refine lv_bipush (v := 36) S.1 S.2.1 d_M_init_53 (by decide) ?_
  refine va_newa (ty := .boolean) (a0 := (36, .inl (fun _ => 0))) (N' := 36) S.1 S.2.1 (S.2.2.2.2 _ (zwi 4 rfl)) rfl hK hP hD hS hA (fun _ => rfl) (nI_pos (n := 36) (by decide)) (nI_clamp (n := 36) (by decide)) (by show 36 * 1 ≤ 536870912; omega) (by show 0 + 1 + 1 + 1 + 1 + 1 + 1 + 1 ≤ 15; omega) (by show 0 + 36 + 36 + 36 + 36 + 36 + 36 + 36 ≤ 5807; omega) d_M_init_55 (fun q7 cX H hKx hP hD hS => ?_)
  rw [zty_one (cX := cZ) (i := 1) hK rfl hKx] at hP hD
  have hP : va_P (dC, dI) zcl [(h0, .inr (3, [.int 0, .ref q1, .ref q2, .ref q3, .ref q4, .ref q5, .ref q6, .null, .null, .null, .int 0, .null, .null, .null, .null, .null, .null])), (q1, .inl (cI, 36, .inl (fun _ => 0))), (q2, .inl (cI, 36, .inl (fun _ => 0))), (q3, .inl (cI, 36, .inl (fun _ => 0))), (q4, .inl (cI, 36, .inl (fun _ => 0))), (q5, .inl (cZ, 36, .inl (fun _ => 0))), (q6, .inl (cZ, 36, .inl (fun _ => 0))), (q7, .inl (cZ, 36, .inl (fun _ => 0)))] H := hP
  refine va_putF (D := (dC, dI)) (ci := 3) (v := .ref q7) (ty := .array .boolean) (C := N_M) (T := FT_M) (N := 17) S.1 S.2.1 S.2.2.2.2 (fun w h => zwT (zi_M w h)) t_M t_M_ok n_M S.2.2.2.1 hK hP hD hS 0 rfl rfl 7 (by decide) (S.2.2.2.2 _ (zwi 43 rfl)) (fun _ h9 => h9) rfl hin rfl (by decide +kernel) rfl rfl (Nat.le_of_ble_eq_true rfl) d_M_init_57 (fun H locs hP hD hS => ?_)
  have hP : va_P (dC, dI) zcl [(h0, .inr (3, [.int 0, .ref q1, .ref q2, .ref q3, .ref q4, .ref q5, .ref q6, .ref q7, .null, .null, .int 0, .null, .null, .null, .null, .null, .null])), (q1, .inl (cI, 36, .inl (fun _ => 0))), (q2, .inl (cI, 36, .inl (fun _ => 0))), (q3, .inl (cI, 36, .inl (fun _ => 0))), (q4, .inl (cI, 36, .inl (fun _ => 0))), (q5, .inl (cZ, 36, .inl (fun _ => 0))), (q6, .inl (cZ, 36, .inl (fun _ => 0))), (q7, .inl (cZ, 36, .inl (fun _ => 0)))] H := hP
  refine lv_aload_n S.1 S.2.1 d_M_init_60 rfl (lv_at hl 0 rfl) ?_
  refine lv_sipush (v := 216) S.1 S.2.1 d_M_init_61 (by decide) ?_
  refine va_newa (ty := .int) (a0 := (216, .inl (fun _ => 0))) (N' := 216) S.1 S.2.1 (S.2.2.2.2 _ (zwi 3 rfl)) rfl hK hP hD hS hA (fun _ => rfl) (nI_pos (n := 216) (by decide)) (nI_clamp (n := 216) (by decide)) (by show 216 * 4 ≤ 536870912; omega) (by show 0 + 1 + 1 + 1 + 1 + 1 + 1 + 1 + 1 ≤ 15; omega) (by show 0 + 36 + 36 + 36 + 36 + 36 + 36 + 36 + 216 ≤ 5807; omega) d_M_init_64 (fun q8 cX H hKx hP hD hS => ?_)
  rw [zty_one (cX := cI) (i := 0) hK rfl hKx] at hP hD
  have hP : va_P (dC, dI) zcl [(h0, .inr (3, [.int 0, .ref q1, .ref q2, .ref q3, .ref q4, .ref q5, .ref q6, .ref q7, .null, .null, .int 0, .null, .null, .null, .null, .null, .null])), (q1, .inl (cI, 36, .inl (fun _ => 0))), (q2, .inl (cI, 36, .inl (fun _ => 0))), (q3, .inl (cI, 36, .inl (fun _ => 0))), (q4, .inl (cI, 36, .inl (fun _ => 0))), (q5, .inl (cZ, 36, .inl (fun _ => 0))), (q6, .inl (cZ, 36, .inl (fun _ => 0))), (q7, .inl (cZ, 36, .inl (fun _ => 0))), (q8, .inl (cI, 216, .inl (fun _ => 0)))] H := hP
  refine va_putF (D := (dC, dI)) (ci := 3) (v := .ref q8) (ty := .array .int) (C := N_M) (T := FT_M) (N := 17) S.1 S.2.1 S.2.2.2.2 (fun w h => zwT (zi_M w h)) t_M t_M_ok n_M S.2.2.2.1 hK hP hD hS 0 rfl rfl 8 (by decide) (S.2.2.2.2 _ (zwi 44 rfl)) (fun _ h9 => h9) rfl hin rfl (by decide +kernel) rfl rfl (Nat.le_of_ble_eq_true rfl) d_M_init_66 (fun H locs hP hD hS => ?_)
  have hP : va_P (dC, dI) zcl [(h0, .inr (3, [.int 0, .ref q1, .ref q2, .ref q3, .ref q4, .ref q5, .ref q6, .ref q7, .ref q8, .null, .int 0, .null, .null, .null, .null, .null, .null])), (q1, .inl (cI, 36, .inl (fun _ => 0))), (q2, .inl (cI, 36, .inl (fun _ => 0))), (q3, .inl (cI, 36, .inl (fun _ => 0))), (q4, .inl (cI, 36, .inl (fun _ => 0))), (q5, .inl (cZ, 36, .inl (fun _ => 0))), (q6, .inl (cZ, 36, .inl (fun _ => 0))), (q7, .inl (cZ, 36, .inl (fun _ => 0))), (q8, .inl (cI, 216, .inl (fun _ => 0)))] H := hP
  refine lv_aload_n S.1 S.2.1 d_M_init_69 rfl (lv_at hl 0 rfl) ?_
  refine lv_sipush (v := 216) S.1 S.2.1 d_M_init_70 (by decide) ?_
  refine va_newa (ty := .boolean) (a0 := (216, .inl (fun _ => 0))) (N' := 216) S.1 S.2.1 (S.2.2.2.2 _ (zwi 4 rfl)) rfl hK hP hD hS hA (fun _ => rfl) (nI_pos (n := 216) (by decide)) (nI_clamp (n := 216) (by decide)) (by show 216 * 1 ≤ 536870912; omega) (by show 0 + 1 + 1 + 1 + 1 + 1 + 1 + 1 + 1 + 1 ≤ 15; omega) (by show 0 + 36 + 36 + 36 + 36 + 36 + 36 + 36 + 216 + 216 ≤ 5807; omega) d_M_init_73 (fun q9 cX H hKx hP hD hS => ?_)
  rw [zty_one (cX := cZ) (i := 1) hK rfl hKx] at hP hD
  have hP : va_P (dC, dI) zcl [(h0, .inr (3, [.int 0, .ref q1, .ref q2, .ref q3, .ref q4, .ref q5, .ref q6, .ref q7, .ref q8, .null, .int 0, .null, .null, .null, .null, .null, .null])), (q1, .inl (cI, 36, .inl (fun _ => 0))), (q2, .inl (cI, 36, .inl (fun _ => 0))), (q3, .inl (cI, 36, .inl (fun _ => 0))), (q4, .inl (cI, 36, .inl (fun _ => 0))), (q5, .inl (cZ, 36, .inl (fun _ => 0))), (q6, .inl (cZ, 36, .inl (fun _ => 0))), (q7, .inl (cZ, 36, .inl (fun _ => 0))), (q8, .inl (cI, 216, .inl (fun _ => 0))), (q9, .inl (cZ, 216, .inl (fun _ => 0)))] H := hP
  refine va_putF (D := (dC, dI)) (ci := 3) (v := .ref q9) (ty := .array .boolean) (C := N_M) (T := FT_M) (N := 17) S.1 S.2.1 S.2.2.2.2 (fun w h => zwT (zi_M w h)) t_M t_M_ok n_M S.2.2.2.1 hK hP hD hS 0 rfl rfl 9 (by decide) (S.2.2.2.2 _ (zwi 45 rfl)) (fun _ h9 => h9) rfl hin rfl (by decide +kernel) rfl rfl (Nat.le_of_ble_eq_true rfl) d_M_init_75 (fun H locs hP hD hS => ?_)
  have hP : va_P (dC, dI) zcl [(h0, .inr (3, [.int 0, .ref q1, .ref q2, .ref q3, .ref q4, .ref q5, .ref q6, .ref q7, .ref q8, .ref q9, .int 0, .null, .null, .null, .null, .null, .null])), (q1, .inl (cI, 36, .inl (fun _ => 0))), (q2, .inl (cI, 36, .inl (fun _ => 0))), (q3, .inl (cI, 36, .inl (fun _ => 0))), (q4, .inl (cI, 36, .inl (fun _ => 0))), (q5, .inl (cZ, 36, .inl (fun _ => 0))), (q6, .inl (cZ, 36, .inl (fun _ => 0))), (q7, .inl (cZ, 36, .inl (fun _ => 0))), (q8, .inl (cI, 216, .inl (fun _ => 0))), (q9, .inl (cZ, 216, .inl (fun _ => 0)))] H := hP
  refine lv_aload_n S.1 S.2.1 d_M_init_78 rfl (lv_at hl 0 rfl) ?_
  refine lv_sipush (v := 1024) S.1 S.2.1 d_M_init_79 (by decide) ?_
  refine va_newa (ty := .int) (a0 := (1024, .inl (fun _ => 0))) (N' := 1024) S.1 S.2.1 (S.2.2.2.2 _ (zwi 3 rfl)) rfl hK hP hD hS hA (fun _ => rfl) (nI_pos (n := 1024) (by decide)) (nI_clamp (n := 1024) (by decide)) (by show 1024 * 4 ≤ 536870912; omega) (by show 0 + 1 + 1 + 1 + 1 + 1 + 1 + 1 + 1 + 1 + 1 ≤ 15; omega) (by show 0 + 36 + 36 + 36 + 36 + 36 + 36 + 36 + 216 + 216 + 1024 ≤ 5807; omega) d_M_init_82 (fun q10 cX H hKx hP hD hS => ?_)
  rw [zty_one (cX := cI) (i := 0) hK rfl hKx] at hP hD
  have hP : va_P (dC, dI) zcl [(h0, .inr (3, [.int 0, .ref q1, .ref q2, .ref q3, .ref q4, .ref q5, .ref q6, .ref q7, .ref q8, .ref q9, .int 0, .null, .null, .null, .null, .null, .null])), (q1, .inl (cI, 36, .inl (fun _ => 0))), (q2, .inl (cI, 36, .inl (fun _ => 0))), (q3, .inl (cI, 36, .inl (fun _ => 0))), (q4, .inl (cI, 36, .inl (fun _ => 0))), (q5, .inl (cZ, 36, .inl (fun _ => 0))), (q6, .inl (cZ, 36, .inl (fun _ => 0))), (q7, .inl (cZ, 36, .inl (fun _ => 0))), (q8, .inl (cI, 216, .inl (fun _ => 0))), (q9, .inl (cZ, 216, .inl (fun _ => 0))), (q10, .inl (cI, 1024, .inl (fun _ => 0)))] H := hP
  refine va_putF (D := (dC, dI)) (ci := 3) (v := .ref q10) (ty := .array .int) (C := N_M) (T := FT_M) (N := 17) S.1 S.2.1 S.2.2.2.2 (fun w h => zwT (zi_M w h)) t_M t_M_ok n_M S.2.2.2.1 hK hP hD hS 0 rfl rfl 11 (by decide) (S.2.2.2.2 _ (zwi 46 rfl)) (fun _ h9 => h9) rfl hin rfl (by decide +kernel) rfl rfl (Nat.le_of_ble_eq_true rfl) d_M_init_84 (fun H locs hP hD hS => ?_)
  have hP : va_P (dC, dI) zcl [(h0, .inr (3, [.int 0, .ref q1, .ref q2, .ref q3, .ref q4, .ref q5, .ref q6, .ref q7, .ref q8, .ref q9, .int 0, .ref q10, .null, .null, .null, .null, .null])), (q1, .inl (cI, 36, .inl (fun _ => 0))), (q2, .inl (cI, 36, .inl (fun _ => 0))), (q3, .inl (cI, 36, .inl (fun _ => 0))), (q4, .inl (cI, 36, .inl (fun _ => 0))), (q5, .inl (cZ, 36, .inl (fun _ => 0))), (q6, .inl (cZ, 36, .inl (fun _ => 0))), (q7, .inl (cZ, 36, .inl (fun _ => 0))), (q8, .inl (cI, 216, .inl (fun _ => 0))), (q9, .inl (cZ, 216, .inl (fun _ => 0))), (q10, .inl (cI, 1024, .inl (fun _ => 0)))] H := hP
  refine lv_aload_n S.1 S.2.1 d_M_init_87 rfl (lv_at hl 0 rfl) ?_
  refine lv_sipush (v := 1024) S.1 S.2.1 d_M_init_88 (by decide) ?_
  refine va_newa (ty := .int) (a0 := (1024, .inl (fun _ => 0))) (N' := 1024) S.1 S.2.1 (S.2.2.2.2 _ (zwi 3 rfl)) rfl hK hP hD hS hA (fun _ => rfl) (nI_pos (n := 1024) (by decide)) (nI_clamp (n := 1024) (by decide)) (by show 1024 * 4 ≤ 536870912; omega) (by show 0 + 1 + 1 + 1 + 1 + 1 + 1 + 1 + 1 + 1 + 1 + 1 ≤ 15; omega) (by show 0 + 36 + 36 + 36 + 36 + 36 + 36 + 36 + 216 + 216 + 1024 + 1024 ≤ 5807; omega) d_M_init_91 (fun q11 cX H hKx hP hD hS => ?_)
  rw [zty_one (cX := cI) (i := 0) hK rfl hKx] at hP hD
  have hP : va_P (dC, dI) zcl [(h0, .inr (3, [.int 0, .ref q1, .ref q2, .ref q3, .ref q4, .ref q5, .ref q6, .ref q7, .ref q8, .ref q9, .int 0, .ref q10, .null, .null, .null, .null, .null])), (q1, .inl (cI, 36, .inl (fun _ => 0))), (q2, .inl (cI, 36, .inl (fun _ => 0))), (q3, .inl (cI, 36, .inl (fun _ => 0))), (q4, .inl (cI, 36, .inl (fun _ => 0))), (q5, .inl (cZ, 36, .inl (fun _ => 0))), (q6, .inl (cZ, 36, .inl (fun _ => 0))), (q7, .inl (cZ, 36, .inl (fun _ => 0))), (q8, .inl (cI, 216, .inl (fun _ => 0))), (q9, .inl (cZ, 216, .inl (fun _ => 0))), (q10, .inl (cI, 1024, .inl (fun _ => 0))), (q11, .inl (cI, 1024, .inl (fun _ => 0)))] H := hP
  refine va_putF (D := (dC, dI)) (ci := 3) (v := .ref q11) (ty := .array .int) (C := N_M) (T := FT_M) (N := 17) S.1 S.2.1 S.2.2.2.2 (fun w h => zwT (zi_M w h)) t_M t_M_ok n_M S.2.2.2.1 hK hP hD hS 0 rfl rfl 12 (by decide) (S.2.2.2.2 _ (zwi 47 rfl)) (fun _ h9 => h9) rfl hin rfl (by decide +kernel) rfl rfl (Nat.le_of_ble_eq_true rfl) d_M_init_93 (fun H locs hP hD hS => ?_)
  have hP : va_P (dC, dI) zcl [(h0, .inr (3, [.int 0, .ref q1, .ref q2, .ref q3, .ref q4, .ref q5, .ref q6, .ref q7, .ref q8, .ref q9, .int 0, .ref q10, .ref q11, .null, .null, .null, .null])), (q1, .inl (cI, 36, .inl (fun _ => 0))), (q2, .inl (cI, 36, .inl (fun _ => 0))), (q3, .inl (cI, 36, .inl (fun _ => 0))), (q4, .inl (cI, 36, .inl (fun _ => 0))), (q5, .inl (cZ, 36, .inl (fun _ => 0))), (q6, .inl (cZ, 36, .inl (fun _ => 0))), (q7, .inl (cZ, 36, .inl (fun _ => 0))), (q8, .inl (cI, 216, .inl (fun _ => 0))), (q9, .inl (cZ, 216, .inl (fun _ => 0))), (q10, .inl (cI, 1024, .inl (fun _ => 0))), (q11, .inl (cI, 1024, .inl (fun _ => 0)))] H := hP
  refine lv_aload_n S.1 S.2.1 d_M_init_96 rfl (lv_at hl 0 rfl) ?_
  refine lv_sipush (v := 1024) S.1 S.2.1 d_M_init_97 (by decide) ?_
  refine va_newa (ty := .int) (a0 := (1024, .inl (fun _ => 0))) (N' := 1024) S.1 S.2.1 (S.2.2.2.2 _ (zwi 3 rfl)) rfl hK hP hD hS hA (fun _ => rfl) (nI_pos (n := 1024) (by decide)) (nI_clamp (n := 1024) (by decide)) (by show 1024 * 4 ≤ 536870912; omega) (by show 0 + 1 + 1 + 1 + 1 + 1 + 1 + 1 + 1 + 1 + 1 + 1 + 1 ≤ 15; omega) (by show 0 + 36 + 36 + 36 + 36 + 36 + 36 + 36 + 216 + 216 + 1024 + 1024 + 1024 ≤ 5807; omega) d_M_init_100 (fun q12 cX H hKx hP hD hS => ?_)
  rw [zty_one (cX := cI) (i := 0) hK rfl hKx] at hP hD
  have hP : va_P (dC, dI) zcl [(h0, .inr (3, [.int 0, .ref q1, .ref q2, .ref q3, .ref q4, .ref q5, .ref q6, .ref q7, .ref q8, .ref q9, .int 0, .ref q10, .ref q11, .null, .null, .null, .null])), (q1, .inl (cI, 36, .inl (fun _ => 0))), (q2, .inl (cI, 36, .inl (fun _ => 0))), (q3, .inl (cI, 36, .inl (fun _ => 0))), (q4, .inl (cI, 36, .inl (fun _ => 0))), (q5, .inl (cZ, 36, .inl (fun _ => 0))), (q6, .inl (cZ, 36, .inl (fun _ => 0))), (q7, .inl (cZ, 36, .inl (fun _ => 0))), (q8, .inl (cI, 216, .inl (fun _ => 0))), (q9, .inl (cZ, 216, .inl (fun _ => 0))), (q10, .inl (cI, 1024, .inl (fun _ => 0))), (q11, .inl (cI, 1024, .inl (fun _ => 0))), (q12, .inl (cI, 1024, .inl (fun _ => 0)))] H := hP
  refine va_putF (D := (dC, dI)) (ci := 3) (v := .ref q12) (ty := .array .int) (C := N_M) (T := FT_M) (N := 17) S.1 S.2.1 S.2.2.2.2 (fun w h => zwT (zi_M w h)) t_M t_M_ok n_M S.2.2.2.1 hK hP hD hS 0 rfl rfl 13 (by decide) (S.2.2.2.2 _ (zwi 48 rfl)) (fun _ h9 => h9) rfl hin rfl (by decide +kernel) rfl rfl (Nat.le_of_ble_eq_true rfl) d_M_init_102 (fun H locs hP hD hS => ?_)
  have hP : va_P (dC, dI) zcl [(h0, .inr (3, [.int 0, .ref q1, .ref q2, .ref q3, .ref q4, .ref q5, .ref q6, .ref q7, .ref q8, .ref q9, .int 0, .ref q10, .ref q11, .ref q12, .null, .null, .null])), (q1, .inl (cI, 36, .inl (fun _ => 0))), (q2, .inl (cI, 36, .inl (fun _ => 0))), (q3, .inl (cI, 36, .inl (fun _ => 0))), (q4, .inl (cI, 36, .inl (fun _ => 0))), (q5, .inl (cZ, 36, .inl (fun _ => 0))), (q6, .inl (cZ, 36, .inl (fun _ => 0))), (q7, .inl (cZ, 36, .inl (fun _ => 0))), (q8, .inl (cI, 216, .inl (fun _ => 0))), (q9, .inl (cZ, 216, .inl (fun _ => 0))), (q10, .inl (cI, 1024, .inl (fun _ => 0))), (q11, .inl (cI, 1024, .inl (fun _ => 0))), (q12, .inl (cI, 1024, .inl (fun _ => 0)))] H := hP
  refine lv_aload_n S.1 S.2.1 d_M_init_105 rfl (lv_at hl 0 rfl) ?_
  refine lv_sipush (v := 1024) S.1 S.2.1 d_M_init_106 (by decide) ?_
  refine va_newa (ty := .int) (a0 := (1024, .inl (fun _ => 0))) (N' := 1024) S.1 S.2.1 (S.2.2.2.2 _ (zwi 3 rfl)) rfl hK hP hD hS hA (fun _ => rfl) (nI_pos (n := 1024) (by decide)) (nI_clamp (n := 1024) (by decide)) (by show 1024 * 4 ≤ 536870912; omega) (by show 0 + 1 + 1 + 1 + 1 + 1 + 1 + 1 + 1 + 1 + 1 + 1 + 1 + 1 ≤ 15; omega) (by show 0 + 36 + 36 + 36 + 36 + 36 + 36 + 36 + 216 + 216 + 1024 + 1024 + 1024 + 1024 ≤ 5807; omega) d_M_init_109 (fun q13 cX H hKx hP hD hS => ?_)
  rw [zty_one (cX := cI) (i := 0) hK rfl hKx] at hP hD
  have hP : va_P (dC, dI) zcl [(h0, .inr (3, [.int 0, .ref q1, .ref q2, .ref q3, .ref q4, .ref q5, .ref q6, .ref q7, .ref q8, .ref q9, .int 0, .ref q10, .ref q11, .ref q12, .null, .null, .null])), (q1, .inl (cI, 36, .inl (fun _ => 0))), (q2, .inl (cI, 36, .inl (fun _ => 0))), (q3, .inl (cI, 36, .inl (fun _ => 0))), (q4, .inl (cI, 36, .inl (fun _ => 0))), (q5, .inl (cZ, 36, .inl (fun _ => 0))), (q6, .inl (cZ, 36, .inl (fun _ => 0))), (q7, .inl (cZ, 36, .inl (fun _ => 0))), (q8, .inl (cI, 216, .inl (fun _ => 0))), (q9, .inl (cZ, 216, .inl (fun _ => 0))), (q10, .inl (cI, 1024, .inl (fun _ => 0))), (q11, .inl (cI, 1024, .inl (fun _ => 0))), (q12, .inl (cI, 1024, .inl (fun _ => 0))), (q13, .inl (cI, 1024, .inl (fun _ => 0)))] H := hP
  refine va_putF (D := (dC, dI)) (ci := 3) (v := .ref q13) (ty := .array .int) (C := N_M) (T := FT_M) (N := 17) S.1 S.2.1 S.2.2.2.2 (fun w h => zwT (zi_M w h)) t_M t_M_ok n_M S.2.2.2.1 hK hP hD hS 0 rfl rfl 14 (by decide) (S.2.2.2.2 _ (zwi 49 rfl)) (fun _ h9 => h9) rfl hin rfl (by decide +kernel) rfl rfl (Nat.le_of_ble_eq_true rfl) d_M_init_111 (fun H locs hP hD hS => ?_)
  have hP : va_P (dC, dI) zcl [(h0, .inr (3, [.int 0, .ref q1, .ref q2, .ref q3, .ref q4, .ref q5, .ref q6, .ref q7, .ref q8, .ref q9, .int 0, .ref q10, .ref q11, .ref q12, .ref q13, .null, .null])), (q1, .inl (cI, 36, .inl (fun _ => 0))), (q2, .inl (cI, 36, .inl (fun _ => 0))), (q3, .inl (cI, 36, .inl (fun _ => 0))), (q4, .inl (cI, 36, .inl (fun _ => 0))), (q5, .inl (cZ, 36, .inl (fun _ => 0))), (q6, .inl (cZ, 36, .inl (fun _ => 0))), (q7, .inl (cZ, 36, .inl (fun _ => 0))), (q8, .inl (cI, 216, .inl (fun _ => 0))), (q9, .inl (cZ, 216, .inl (fun _ => 0))), (q10, .inl (cI, 1024, .inl (fun _ => 0))), (q11, .inl (cI, 1024, .inl (fun _ => 0))), (q12, .inl (cI, 1024, .inl (fun _ => 0))), (q13, .inl (cI, 1024, .inl (fun _ => 0)))] H := hP
  refine lv_aload_n S.1 S.2.1 d_M_init_114 rfl (lv_at hl 0 rfl) ?_
  refine lv_sipush (v := 1024) S.1 S.2.1 d_M_init_115 (by decide) ?_
  refine va_newa (ty := .int) (a0 := (1024, .inl (fun _ => 0))) (N' := 1024) S.1 S.2.1 (S.2.2.2.2 _ (zwi 3 rfl)) rfl hK hP hD hS hA (fun _ => rfl) (nI_pos (n := 1024) (by decide)) (nI_clamp (n := 1024) (by decide)) (by show 1024 * 4 ≤ 536870912; omega) (by show 0 + 1 + 1 + 1 + 1 + 1 + 1 + 1 + 1 + 1 + 1 + 1 + 1 + 1 + 1 ≤ 15; omega) (by show 0 + 36 + 36 + 36 + 36 + 36 + 36 + 36 + 216 + 216 + 1024 + 1024 + 1024 + 1024 + 1024 ≤ 5807; omega) d_M_init_118 (fun q14 cX H hKx hP hD hS => ?_)
  rw [zty_one (cX := cI) (i := 0) hK rfl hKx] at hP hD
  have hP : va_P (dC, dI) zcl [(h0, .inr (3, [.int 0, .ref q1, .ref q2, .ref q3, .ref q4, .ref q5, .ref q6, .ref q7, .ref q8, .ref q9, .int 0, .ref q10, .ref q11, .ref q12, .ref q13, .null, .null])), (q1, .inl (cI, 36, .inl (fun _ => 0))), (q2, .inl (cI, 36, .inl (fun _ => 0))), (q3, .inl (cI, 36, .inl (fun _ => 0))), (q4, .inl (cI, 36, .inl (fun _ => 0))), (q5, .inl (cZ, 36, .inl (fun _ => 0))), (q6, .inl (cZ, 36, .inl (fun _ => 0))), (q7, .inl (cZ, 36, .inl (fun _ => 0))), (q8, .inl (cI, 216, .inl (fun _ => 0))), (q9, .inl (cZ, 216, .inl (fun _ => 0))), (q10, .inl (cI, 1024, .inl (fun _ => 0))), (q11, .inl (cI, 1024, .inl (fun _ => 0))), (q12, .inl (cI, 1024, .inl (fun _ => 0))), (q13, .inl (cI, 1024, .inl (fun _ => 0))), (q14, .inl (cI, 1024, .inl (fun _ => 0)))] H := hP
  refine va_putF (D := (dC, dI)) (ci := 3) (v := .ref q14) (ty := .array .int) (C := N_M) (T := FT_M) (N := 17) S.1 S.2.1 S.2.2.2.2 (fun w h => zwT (zi_M w h)) t_M t_M_ok n_M S.2.2.2.1 hK hP hD hS 0 rfl rfl 15 (by decide) (S.2.2.2.2 _ (zwi 50 rfl)) (fun _ h9 => h9) rfl hin rfl (by decide +kernel) rfl rfl (Nat.le_of_ble_eq_true rfl) d_M_init_120 (fun H locs hP hD hS => ?_)
  have hP : va_P (dC, dI) zcl [(h0, .inr (3, [.int 0, .ref q1, .ref q2, .ref q3, .ref q4, .ref q5, .ref q6, .ref q7, .ref q8, .ref q9, .int 0, .ref q10, .ref q11, .ref q12, .ref q13, .ref q14, .null])), (q1, .inl (cI, 36, .inl (fun _ => 0))), (q2, .inl (cI, 36, .inl (fun _ => 0))), (q3, .inl (cI, 36, .inl (fun _ => 0))), (q4, .inl (cI, 36, .inl (fun _ => 0))), (q5, .inl (cZ, 36, .inl (fun _ => 0))), (q6, .inl (cZ, 36, .inl (fun _ => 0))), (q7, .inl (cZ, 36, .inl (fun _ => 0))), (q8, .inl (cI, 216, .inl (fun _ => 0))), (q9, .inl (cZ, 216, .inl (fun _ => 0))), (q10, .inl (cI, 1024, .inl (fun _ => 0))), (q11, .inl (cI, 1024, .inl (fun _ => 0))), (q12, .inl (cI, 1024, .inl (fun _ => 0))), (q13, .inl (cI, 1024, .inl (fun _ => 0))), (q14, .inl (cI, 1024, .inl (fun _ => 0)))] H := hP
  refine lv_aload_n S.1 S.2.1 d_M_init_123 rfl (lv_at hl 0 rfl) ?_
  refine lv_iconst (v := 3) S.1 S.2.1 d_M_init_124 (by decide) ?_
  refine va_newa (ty := .int) (a0 := (3, .inl (fun _ => 0))) (N' := 3) S.1 S.2.1 (S.2.2.2.2 _ (zwi 3 rfl)) rfl hK hP hD hS hA (fun _ => rfl) (nI_pos (n := 3) (by decide)) (nI_clamp (n := 3) (by decide)) (by show 3 * 4 ≤ 536870912; omega) (by show 0 + 1 + 1 + 1 + 1 + 1 + 1 + 1 + 1 + 1 + 1 + 1 + 1 + 1 + 1 + 1 ≤ 15; omega) (by show 0 + 36 + 36 + 36 + 36 + 36 + 36 + 36 + 216 + 216 + 1024 + 1024 + 1024 + 1024 + 1024 + 3 ≤ 5807; omega) d_M_init_125 (fun q15 cX H hKx hP hD hS => ?_)
  rw [zty_one (cX := cI) (i := 0) hK rfl hKx] at hP hD
  have hP : va_P (dC, dI) zcl [(h0, .inr (3, [.int 0, .ref q1, .ref q2, .ref q3, .ref q4, .ref q5, .ref q6, .ref q7, .ref q8, .ref q9, .int 0, .ref q10, .ref q11, .ref q12, .ref q13, .ref q14, .null])), (q1, .inl (cI, 36, .inl (fun _ => 0))), (q2, .inl (cI, 36, .inl (fun _ => 0))), (q3, .inl (cI, 36, .inl (fun _ => 0))), (q4, .inl (cI, 36, .inl (fun _ => 0))), (q5, .inl (cZ, 36, .inl (fun _ => 0))), (q6, .inl (cZ, 36, .inl (fun _ => 0))), (q7, .inl (cZ, 36, .inl (fun _ => 0))), (q8, .inl (cI, 216, .inl (fun _ => 0))), (q9, .inl (cZ, 216, .inl (fun _ => 0))), (q10, .inl (cI, 1024, .inl (fun _ => 0))), (q11, .inl (cI, 1024, .inl (fun _ => 0))), (q12, .inl (cI, 1024, .inl (fun _ => 0))), (q13, .inl (cI, 1024, .inl (fun _ => 0))), (q14, .inl (cI, 1024, .inl (fun _ => 0))), (q15, .inl (cI, 3, .inl (fun _ => 0)))] H := hP
  refine va_putF (D := (dC, dI)) (ci := 3) (v := .ref q15) (ty := .array .int) (C := N_M) (T := FT_M) (N := 17) S.1 S.2.1 S.2.2.2.2 (fun w h => zwT (zi_M w h)) t_M t_M_ok n_M S.2.2.2.1 hK hP hD hS 0 rfl rfl 16 (by decide) (S.2.2.2.2 _ (zwi 51 rfl)) (fun _ h9 => h9) rfl hin rfl (by decide +kernel) rfl rfl (Nat.le_of_ble_eq_true rfl) d_M_init_127 (fun H locs hP hD hS => ?_)
  have hP : va_P (dC, dI) zcl [(h0, .inr (3, [.int 0, .ref q1, .ref q2, .ref q3, .ref q4, .ref q5, .ref q6, .ref q7, .ref q8, .ref q9, .int 0, .ref q10, .ref q11, .ref q12, .ref q13, .ref q14, .ref q15])), (q1, .inl (cI, 36, .inl (fun _ => 0))), (q2, .inl (cI, 36, .inl (fun _ => 0))), (q3, .inl (cI, 36, .inl (fun _ => 0))), (q4, .inl (cI, 36, .inl (fun _ => 0))), (q5, .inl (cZ, 36, .inl (fun _ => 0))), (q6, .inl (cZ, 36, .inl (fun _ => 0))), (q7, .inl (cZ, 36, .inl (fun _ => 0))), (q8, .inl (cI, 216, .inl (fun _ => 0))), (q9, .inl (cZ, 216, .inl (fun _ => 0))), (q10, .inl (cI, 1024, .inl (fun _ => 0))), (q11, .inl (cI, 1024, .inl (fun _ => 0))), (q12, .inl (cI, 1024, .inl (fun _ => 0))), (q13, .inl (cI, 1024, .inl (fun _ => 0))), (q14, .inl (cI, 1024, .inl (fun _ => 0))), (q15, .inl (cI, 3, .inl (fun _ => 0)))] H := hP
  have join : ∀ v : Int32, v = nI (zCl x) → W p l e { frames := 1, cells := 15, slots := 5807, locals := 20 } s m args below meth c H locs (0 + 1 + 1 + 1 + 1 + 1 + 1 + 1 + 1 + 1 + 1 + 1 + 1 + 1 + 1 + 1) (0 + 36 + 36 + 36 + 36 + 36 + 36 + 36 + 216 + 216 + 1024 + 1024 + 1024 + 1024 + 1024 + 3) (zQi below (zAn h0 s.heap.size) (fun H => ∃ ad : zK → Nat, ad (0, 0) = h0 ∧ zD (zAn h0 s.heap.size) zKm ad ∧ zV (dC, dI) zcl zKm ad (zmE (zCl x) cI cZ ad) zIm H) args s 15 5807) (F0 m 152 ls [.int v, .ref h0]) := by
    intro v hv
    subst hv
    refine va_putF (D := (dC, dI)) (ci := 3) (v := .int (nI (zCl x))) (ty := .int) (C := N_M) (T := FT_M) (N := 17) S.1 S.2.1 S.2.2.2.2 (fun w h => zwT (zi_M w h)) t_M t_M_ok n_M S.2.2.2.1 hK hP hD hS 0 rfl rfl 0 (by decide) (S.2.2.2.2 _ (zwi 36 rfl)) (fun _ h9 => h9) rfl hin rfl (by decide +kernel) rfl rfl (Nat.le_of_ble_eq_true rfl) d_M_init_152 (fun H locs hP hD hS => ?_)
    have hP : va_P (dC, dI) zcl [(h0, .inr (3, [.int (nI (zCl x)), .ref q1, .ref q2, .ref q3, .ref q4, .ref q5, .ref q6, .ref q7, .ref q8, .ref q9, .int 0, .ref q10, .ref q11, .ref q12, .ref q13, .ref q14, .ref q15])), (q1, .inl (cI, 36, .inl (fun _ => 0))), (q2, .inl (cI, 36, .inl (fun _ => 0))), (q3, .inl (cI, 36, .inl (fun _ => 0))), (q4, .inl (cI, 36, .inl (fun _ => 0))), (q5, .inl (cZ, 36, .inl (fun _ => 0))), (q6, .inl (cZ, 36, .inl (fun _ => 0))), (q7, .inl (cZ, 36, .inl (fun _ => 0))), (q8, .inl (cI, 216, .inl (fun _ => 0))), (q9, .inl (cZ, 216, .inl (fun _ => 0))), (q10, .inl (cI, 1024, .inl (fun _ => 0))), (q11, .inl (cI, 1024, .inl (fun _ => 0))), (q12, .inl (cI, 1024, .inl (fun _ => 0))), (q13, .inl (cI, 1024, .inl (fun _ => 0))), (q14, .inl (cI, 1024, .inl (fun _ => 0))), (q15, .inl (cI, 3, .inl (fun _ => 0)))] H := hP
    have hD : va_D (zAn h0 s.heap.size) [(h0, .inr (3, [.int (nI (zCl x)), .ref q1, .ref q2, .ref q3, .ref q4, .ref q5, .ref q6, .ref q7, .ref q8, .ref q9, .int 0, .ref q10, .ref q11, .ref q12, .ref q13, .ref q14, .ref q15])), (q1, .inl (cI, 36, .inl (fun _ => 0))), (q2, .inl (cI, 36, .inl (fun _ => 0))), (q3, .inl (cI, 36, .inl (fun _ => 0))), (q4, .inl (cI, 36, .inl (fun _ => 0))), (q5, .inl (cZ, 36, .inl (fun _ => 0))), (q6, .inl (cZ, 36, .inl (fun _ => 0))), (q7, .inl (cZ, 36, .inl (fun _ => 0))), (q8, .inl (cI, 216, .inl (fun _ => 0))), (q9, .inl (cZ, 216, .inl (fun _ => 0))), (q10, .inl (cI, 1024, .inl (fun _ => 0))), (q11, .inl (cI, 1024, .inl (fun _ => 0))), (q12, .inl (cI, 1024, .inl (fun _ => 0))), (q13, .inl (cI, 1024, .inl (fun _ => 0))), (q14, .inl (cI, 1024, .inl (fun _ => 0))), (q15, .inl (cI, 3, .inl (fun _ => 0)))] := hD
    refine lv_iconst (v := 0) S.1 S.2.1 d_M_init_155 (by decide) ?_
    refine lv_istore_n S.1 S.2.1 d_M_init_156 rfl hl (by decide) rfl (fun ls hl => ?_)
    obtain ⟨ad, had⟩ : ∃ ad : zK → Nat, ad = fun k => ([h0, q1, q2, q3, q4, q5, q6, q7, q8, q9, q10, q11, q12, q13, q14, q15] : List Nat).getD k.1 0 := ⟨_, rfl⟩
    have h00 : ad (0, 0) = h0 := by rw [had]; rfl
    have hV : zV (dC, dI) zcl zKm ad (zmE (zCl x) cI cZ ad) (fun _ _ _ => 0) H := by rw [had]; exact hP
    have hD2 : zD (zAn h0 s.heap.size) zKm ad := fun ct => zD_to (ct := fun j => zmE (zCl x) cI cZ ad j (fun _ => 0)) (by rw [had]; exact hD)
    rw [← h00] at hl
    exact M_loop1 S hr hlk hK hD2 (by omega) (by omega) (fun H h => ⟨ad, h00, hD2, h⟩) 36 0 (by omega) ls H locs (fun _ _ _ => 0) ⟨fun j hj => absurd hj (by omega), fun _ _ _ _ _ => rfl⟩ hV hS hl
  refine lv_aload_n S.1 S.2.1 d_M_init_130 rfl (lv_at hl 0 rfl) ?_
  refine lv_iload_n S.1 S.2.1 d_M_init_131 rfl (lv_at hl 1 rfl) ?_
  refine lv_iconst (v := 2) S.1 S.2.1 d_M_init_132 (by decide) ?_
  refine lv_icmp_ge (tgt := 140) S.1 S.2.1 d_M_init_133 (by decide) (fun h => ?_) (fun h => ?_)
  · refine lv_iload_n S.1 S.2.1 d_M_init_140 rfl (lv_at hl 1 rfl) ?_
    refine lv_bipush (v := 6) S.1 S.2.1 d_M_init_141 (by decide) ?_
    refine lv_icmp_le (tgt := 151) S.1 S.2.1 d_M_init_143 (by decide) (fun h6 => ?_) (fun h6 => ?_)
    · refine lv_iload_n S.1 S.2.1 d_M_init_151 rfl (lv_at hl 1 rfl) ?_
      exact join x (zCl_mid h h6)
    · refine lv_bipush (v := 6) S.1 S.2.1 d_M_init_146 (by decide) ?_
      refine lv_goto (tgt := 152) S.1 S.2.1 d_M_init_148 (by decide) ?_
      exact join 6 (zCl_hi h h6)
  · refine lv_iconst (v := 2) S.1 S.2.1 d_M_init_136 (by decide) ?_
    refine lv_goto (tgt := 152) S.1 S.2.1 d_M_init_137 (by decide) ?_
    exact join 2 (zCl_lo h)
end CN
