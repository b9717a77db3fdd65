set_option maxHeartbeats 4000000 in
set_option maxRecDepth 100000 in
/-- from the entry, for every script of at most 2561 ints, the law comes to its end with true -/
theorem whole_start {p : Program} {e : Env} {s : State} {m : MethodId} {below : List Frame} {meth : Method} {c : Code} (l : Launch) {b L : Nat} {xs : Nat → Int32} (hL : L ≤ 2561) (C0 : lw_At p s m meth c b L xs) : W p l e room_1 s m #[Value.ref b] below meth c s.heap [] 0 0 (lw_Z below #[Value.ref b] s) (entryFrame m ([Value.ref b] : List Value).toArray 4) := by
  obtain ⟨hx, hb, hr, hml, hown, hts, hX, hbl, hlk, hgv⟩ := C0
  obtain ⟨dC, dI, cI, cZ, cR, cA, hKq⟩ := lw_K hts
  have hK := hKq.1
  have hti : ∀ w ∈ zTi, w.before #[Value.ref b] s = true := fun w h => hts w (zTi_sub w h)
  have S : CallFix p m c code 4 s #[Value.ref b] lw_tbl "DiffusingRoutesLaw" := ⟨hx, hb, hml, hown, hts⟩
  have hbA : ¬ lwN s b := fun h => absurd hbl (Nat.not_lt.mpr h)
  have hA : ∀ q : Nat, s.heap.size ≤ q → lwN s q := fun q h => h
  have hS : va_S (lwN s) s.heap s.heap [] := va_S.rf
  have hl := lv_entry ([.ref b]) (n := 4) (Nat.le_of_ble_eq_true rfl)
  rw [lg_entry_eq]
  generalize (lg_sl ([.ref b]) ++ List.replicate (4 - (lg_sl ([.ref b])).length) Slot.unset).toArray = ls at hl ⊢
  have hl : lv_has ls 4 [(0, .ref b)] := hl
  have hP0 : va_P (dC, dI) zcl [] s.heap := fun k q h => by cases h
  have hD0 : va_D (lwN s) [] := ⟨fun i j p q h => (by cases h), fun k q h => (by cases h)⟩
  have hn := zCl_b (zc0 L xs)
  refine va_new (D := (dC, dI)) (ci := 0) (fs := [.int 0, .null, .null, .null, .int 0]) (C := N_D) (T := FT_D) (N := 5) S.1 S.2.1 hti (fun w h => zwT (zi_D w h)) t_D t_D_ok S.2.2.2.1 (hts _ lw_i8) (hti _ (zwi 60 rfl)) (hti _ (zwi 56 rfl)) hK hP0 hD0 hS hA rfl zD_def (by show 0 + 1 ≤ 600000; omega) (by show 0 + 5 ≤ 7302250; omega) d_law_0 (fun q1 H1 hP1 hD1 hS1 => ?_)
  have hq1 : va_at (dC, dI) zcl (q1, .inr (0, [.int 0, .null, .null, .null, .int 0])) H1 := zP_r (w1 := []) hP1
  have hA1 : lwN s q1 := zD_r (w1 := []) hD1
  refine lv_dup S.1 S.2.1 d_law_3 rfl ?_
  refine lv_aload_n S.1 S.2.1 d_law_4 rfl (lv_at hl 0 rfl) ?_
  refine lv_iconst (v := 0) S.1 S.2.1 d_law_5 (by decide) ?_
  refine lw_cell S hX hbl hL ⟨by show 0 + 1 ≤ 600000; omega, by show 0 + 5 ≤ 7302250; omega⟩ hl.1 (Nat.le_of_ble_eq_true rfl) hS1 d_law_6 (fun H2 locs2 hsz2 hk2 hS2 => ?_)
  have hq1 := hq1.kept (hk2 q1 hq1.lt)
  refine zi_callI (A1 := zAn q1 H2.size) (As := [.int (zc0 L xs)]) (a := q1) (rest := [.ref q1]) S hti (C_D_init (dC := dC) (dI := dI) (cI := cI) (cZ := cZ) (cR := cR) (cA := cA) l q1 H2.size (zc0 L xs)) zN_D rfl (zwi 55 rfl) (hts _ lw_i10) ⟨rfl, rfl⟩ ⟨Nat.le_of_ble_eq_true rfl, Nat.le_of_ble_eq_true rfl⟩ ⟨by show 0 + 1 + 119 ≤ 600000; omega, by show 0 + 5 + 1937 ≤ 7302250; omega⟩ hKq ⟨rfl, hq1⟩ hl.1 (Nat.le_of_ble_eq_true rfl) hS2 (fun a ha => ?_) d_law_9 rfl (fun H3 locs3 hp hsz3 hk3 hS3 => ?_)
  · rcases ha with rfl | ha
    · exact hA1
    · exact Nat.le_trans hS2.1 ha
  obtain ⟨ad1, e1, hD3, hV3⟩ := hp
  have hD3 : zD (lwN s) (zKs (zCl (zc0 L xs))) ad1 := fun ct => (hD3 ct).weaken (fun k q _ h => by
    rcases h with h | h
    · rw [h]; exact hA1
    · exact Nat.le_trans hS2.1 h)
  refine lv_astore_n S.1 S.2.1 d_law_12 rfl hl (by decide) rfl (fun ls hl => ?_)
  refine va_new (D := (dC, dI)) (ci := 3) (fs := [.int 0, .null, .null, .null, .null, .null, .null, .null, .null, .null, .int 0, .null, .null, .null, .null, .null, .null]) (C := N_M) (T := FT_M) (N := 17) S.1 S.2.1 hti (fun w h => zwT (zi_M w h)) t_M t_M_ok S.2.2.2.1 (hts _ lw_i332) (hti _ (zwi 61 rfl)) (hti _ (zwi 59 rfl)) hK hV3 (hD3 _) hS3 hA rfl zM_def (by show 0 + 1 + 119 + 1 ≤ 600000; omega) (by show 0 + 5 + 1937 + 17 ≤ 7302250; omega) d_law_13 (fun q2 H4 hP4 hD4 hS4 => ?_)
  have hV4 : zV (dC, dI) zcl (zKs (zCl (zc0 L xs))) ad1 (zcE (zCl (zc0 L xs)) cI cZ cR cA ad1) zIc H4 := zP_l hP4
  have hq2 := zP_r hP4
  have hA2 : lwN s q2 := zD_r hD4
  have hne : ∀ j, j ∈ zKs (zCl (zc0 L xs)) → ad1 j ≠ q2 := fun j hj => zD_apart hD4 hj
  refine lv_dup S.1 S.2.1 d_law_16 rfl ?_
  refine lv_aload_n S.1 S.2.1 d_law_17 rfl (lv_at hl 1 rfl) ?_
  refine lv_iconst (v := 0) S.1 S.2.1 d_law_18 (by decide) ?_
  refine lw_cell S hX hbl hL ⟨by show 0 + 1 + 119 + 1 ≤ 600000; omega, by show 0 + 5 + 1937 + 17 ≤ 7302250; omega⟩ hl.1 (Nat.le_of_ble_eq_true rfl) hS4 d_law_19 (fun H5 locs5 hsz5 hk5 hS5 => ?_)
  have hq2 := hq2.kept (hk5 q2 hq2.lt)
  have hV5 := zV_kept hV4 (fun k _ h => hk5 _ h)
  have hat5 := zV_pt.mp hV5
  refine zi_callI (A1 := zAn q2 H5.size) (As := [.int (zc0 L xs)]) (a := q2) (rest := [.ref q2]) S hti (C_M_init (dC := dC) (dI := dI) (cI := cI) (cZ := cZ) (cR := cR) (cA := cA) l q2 H5.size (zc0 L xs)) zN_M rfl (zwi 58 rfl) (hts _ lw_i334) ⟨rfl, rfl⟩ ⟨Nat.le_of_ble_eq_true rfl, Nat.le_of_ble_eq_true rfl⟩ ⟨by show 0 + 1 + 119 + 1 + 15 ≤ 600000; omega, by show 0 + 5 + 1937 + 17 + 5807 ≤ 7302250; omega⟩ hKq ⟨rfl, hq2⟩ hl.1 (Nat.le_of_ble_eq_true rfl) hS5 (fun a ha => ?_) d_law_22 rfl (fun H6 locs6 hp hsz6 hk6 hS6 => ?_)
  · rcases ha with rfl | ha
    · exact hA2
    · exact Nat.le_trans hS5.1 ha
  obtain ⟨ad2, e2, hD6, hV6⟩ := hp
  have hV1 := zV_kept hV5 (fun k hk h => hk6 _ h (fun ha => by
    rcases ha with ha | ha
    · exact hne k hk ha
    · exact absurd h (Nat.not_lt.mpr ha)))
  have hF : lwF (zCl (zc0 L xs)) ad1 ad2 s := ⟨hD3, fun ct => (hD6 ct).weaken (fun k q _ h => by
    rcases h with h | h
    · rw [h]; exact hA2
    · exact Nat.le_trans hS5.1 h), fun k1 h1 k2 h2 ee => by
    rcases lwA_in hD6 (ad2 k2) ⟨k2, h2, rfl⟩ with h | h
    · exact hne k1 h1 (ee.trans h)
    · have := (hat5 k1 h1).lt
      have h3 : ad1 k1 < H5.size := this
      have h4 : H5.size ≤ ad2 k2 := h
      omega⟩
  refine lv_astore_n S.1 S.2.1 d_law_25 rfl hl (by decide) rfl (fun ls hl => ?_)
  refine lv_iconst (v := 1) S.1 S.2.1 d_law_26 (by decide) ?_
  refine lv_istore_n S.1 S.2.1 d_law_27 rfl hl (by decide) rfl (fun ls hl => ?_)
  have hl := lv_sub hl [3, 2, 1, 0] rfl
  rw [← e1, ← e2] at hl
  refine va_forget (fun q hq => hS6.2.2 q hq) ?_
  refine lw_loop (n := zCl (zc0 L xs)) (dC := dC) (dI := dI) (cI := cI) (cZ := cZ) (cR := cR) (cA := cA) (ad1 := ad1) (ad2 := ad2) ⟨hx, hb, hml, hown, fun w h => hts w (zT_sub w h)⟩ (fun w h => hts w (lwL_sub w h)) hX hbl hn hK hF ⟨by show 0 + 1 + 119 + 1 + 15 ≤ 600000; omega, by show 0 + 5 + 1937 + 17 + 5807 ≤ 7302250; omega⟩ hL (fun H9 ls9 => ?_) (L + 6) 1 ls H6 zIc zIm (by omega) (by omega) hl ⟨hS6.1, hS6.2.1, fun q hq => by cases hq⟩ hV1 hV6 (zPr_0 hn.2)
  refine lv_iconst (v := 1) S.1 S.2.1 d_law_647 (by decide) ?_
  refine W.widen (k := 600000) (n := 7302250) (by omega) (by omega) ?_
  exact lw_ret hx hb hr hlk d_law_648
