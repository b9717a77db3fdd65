/-! Mail's constructor. -/
section CL
variable {dC : Nat → ClassId} {dI : Nat → Nat → Nat} {cI cZ cR cA : ClassId}
set_option maxHeartbeats 400000 in
set_option maxRecDepth 100000 in
theorem C_L_init (l : Launch) (h0 sz : Nat) : zCi (dC, dI) (zty cI cZ cR cA) (zAn h0 sz) l y_L_init b_L_init 1 { frames := 1, cells := 2, slots := 1027, locals := 20 } [.ref h0]
    (fun H => H.size = sz ∧ va_at (dC, dI) zcl (h0, .inr (2, [.null, .null, .int 0, .int 0])) H)
    (fun H => ∃ q1 q2, sz ≤ q1 ∧ sz ≤ q2 ∧ q1 ≠ q2 ∧ va_at (dC, dI) zcl (h0, .inr (2, [.ref q1, .ref q2, .int 0, .int 0])) H ∧ va_at (dC, dI) zcl (q1, .inl (cI, 1024, .inl (fun _ => 0))) H ∧ va_at (dC, dI) zcl (q2, .inl (cI, 3, .inl (fun _ => 0))) H) 2 1027 := by
  refine zCi_of (by decide) (Nat.le_of_ble_eq_true rfl) ?_
  intro p e s m args below meth c ls S hr hlk hin hKq hP hl
  obtain ⟨hsz, hP⟩ := hP
  have hK := hKq.1
  have hl : lv_has ls 1 [(0, .ref h0)] := hl
  subst hsz
  have hA : ∀ q : Nat, s.heap.size ≤ q → zAn h0 s.heap.size q := fun q h => Or.inr h
  have hD : va_D (zAn h0 s.heap.size) [(h0, .inr (2, [.null, .null, .int 0, .int 0]))] := zD_1 (Or.inl rfl)
  have hP := zP_1 hP
  have hS : va_S (zAn h0 s.heap.size) s.heap s.heap [] := va_S.rf
  refine lv_aload_n S.1 S.2.1 d_L_init_0 rfl (lv_at hl 0 rfl) ?_
  refine zi_obj S (zwi 0 rfl) hl.1 (Nat.le_of_ble_eq_true rfl) (Nat.le_of_ble_eq_true rfl) d_L_init_1 ?_
  refine lv_aload_n S.1 S.2.1 d_L_init_4 rfl (lv_at hl 0 rfl) ?_
  refine lv_sipush (v := 1024) S.1 S.2.1 d_L_init_5 (by decide) ?_
  refine va_newa (ty := .int) (a0 := (1024, .inl (fun _ => 0))) (N' := 1024) S.1 S.2.1 (S.2.2.2.2 _ (zwi 3 rfl)) rfl hK hP hD hS hA (fun _ => rfl) (nI_pos (n := 1024) (by decide)) (nI_clamp (n := 1024) (by decide)) (by show 1024 * 4 ≤ 536870912; omega) (by show 0 + 1 ≤ 2; omega) (by show 0 + 1024 ≤ 1027; omega) d_L_init_8 (fun q1 cX H hK1 hP hD hS => ?_)
  obtain rfl := zty_one (cX := cI) (i := 0) hK rfl hK1
  have hP : va_P (dC, dI) zcl [(h0, .inr (2, [.null, .null, .int 0, .int 0])), (q1, .inl (cX, 1024, .inl (fun _ => 0)))] H := hP
  refine va_putF (D := (dC, dI)) (ci := 2) (v := .ref q1) (ty := .array .int) (C := N_L) (T := FT_L) (N := 4) S.1 S.2.1 S.2.2.2.2 (fun w h => zwT (zi_L w h)) t_L t_L_ok n_L S.2.2.2.1 hK hP hD hS 0 rfl rfl 0 (by decide) (S.2.2.2.2 _ (zwi 52 rfl)) (fun _ h9 => h9) rfl hin rfl (by decide +kernel) rfl rfl (Nat.le_of_ble_eq_true rfl) d_L_init_10 (fun H locs hP hD hS => ?_)
  have hP : va_P (dC, dI) zcl [(h0, .inr (2, [.ref q1, .null, .int 0, .int 0])), (q1, .inl (cX, 1024, .inl (fun _ => 0)))] H := hP
  refine lv_aload_n S.1 S.2.1 d_L_init_13 rfl (lv_at hl 0 rfl) ?_
  refine lv_iconst (v := 3) S.1 S.2.1 d_L_init_14 (by decide) ?_
  refine va_newa (ty := .int) (a0 := (3, .inl (fun _ => 0))) (N' := 3) S.1 S.2.1 (S.2.2.2.2 _ (zwi 3 rfl)) rfl hK hP hD hS hA (fun _ => rfl) (by decide) (by decide) (by show 3 * 4 ≤ 536870912; omega) (by show 0 + 1 + 1 ≤ 2; omega) (by show 0 + 1024 + 3 ≤ 1027; omega) d_L_init_15 (fun q2 cY H hK2 hP hD hS => ?_)
  obtain rfl := zty_one (cX := cX) (i := 0) hK rfl hK2
  have hP : va_P (dC, dI) zcl [(h0, .inr (2, [.ref q1, .null, .int 0, .int 0])), (q1, .inl (cY, 1024, .inl (fun _ => 0))), (q2, .inl (cY, 3, .inl (fun _ => 0)))] H := hP
  refine va_putF (D := (dC, dI)) (ci := 2) (v := .ref q2) (ty := .array .int) (C := N_L) (T := FT_L) (N := 4) S.1 S.2.1 S.2.2.2.2 (fun w h => zwT (zi_L w h)) t_L t_L_ok n_L S.2.2.2.1 hK hP hD hS 0 rfl rfl 1 (by decide) (S.2.2.2.2 _ (zwi 53 rfl)) (fun _ h9 => h9) rfl hin rfl (by decide +kernel) rfl rfl (Nat.le_of_ble_eq_true rfl) d_L_init_17 (fun H locs hP hD hS => ?_)
  refine zi_ret S hr hlk hS (by omega) (by omega) d_L_init_20 ⟨q1, q2, zAn_new hD rfl 1 rfl (by decide), zAn_new hD rfl 2 rfl (by decide), zD_ne hD 1 2 rfl rfl (by decide), hP 0 _ rfl, hP 1 _ rfl, hP 2 _ rfl⟩
end CL
