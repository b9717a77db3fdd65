/-! Mail's constructor, Arrays.fill, Route's constructor. -/
def zAn (h sz : Nat) (q : Nat) : Prop := q = h ∨ sz ≤ q
theorem zAn_new {h sz : Nat} {ws : va_W} {e : va_E} (hD : va_D (zAn h sz) ws) (h0 : ws[0]? = some (h, e)) (i : Nat) {q : Nat × va_E} (hi : ws[i]? = some q) (hne : i ≠ 0) : sz ≤ q.1 := by
  rcases hD.2 i q hi with h1 | h1
  · exact absurd h1.symm (zD_ne hD 0 i h0 hi (Ne.symm hne))
  · exact h1
theorem zN_fill : zN zTi y_A_fill b_A_fill 4 none 2 ∧ Cond.static y_A_fill ∈ zTi := ⟨⟨zwi 11 rfl, zwi 10 rfl, by decide, by decide, by decide +kernel⟩, zwi 9 rfl⟩
section CI
variable {dC : Nat → ClassId} {dI : Nat → Nat → Nat} {cI cZ cR cA : ClassId}
set_option maxHeartbeats 4000000 in
set_option maxRecDepth 100000 in
theorem C_A_fill (l : Launch) (q n : Nat) (hn : n < 2 ^ 31) (v : Int32) (f : Nat → Int32) : zC zTi (dC, dI) zcl (zty cI cZ cR cA) (fun a => a = q) l y_A_fill b_A_fill 4 none { frames := 0, cells := 0, slots := 0, locals := 0 } [.ref q, .int v]
    (fun H => va_at (dC, dI) zcl (q, .inl (cI, n, .inl f)) H) (fun o H => o = none ∧ va_at (dC, dI) zcl (q, .inl (cI, n, .inl (fun _ => v))) H) := by
  refine zC_of (by decide) (Nat.le_of_ble_eq_true rfl) ?_
  intro p e s m args below meth c ls S hr hlk hK hP hl
  have hl : lv_has ls 4 [(0, .ref q), (1, .int v)] := hl
  have hP := zP_1 hP
  have hS : va_S (fun a => a = q) s.heap s.heap [] := va_S.rf
  have loop : ∀ (k i : Nat), i + k = n → ∀ (ls : Array Slot) (H : Heap) (locs : List Loc) (g : Nat → Int32), (∀ j, j < i → g j = v) → va_P (dC, dI) zcl [(q, .inl (cI, n, .inl g))] H → va_S (fun a => a = q) s.heap H locs → lv_has ls 4 [(2, .int (nI i)), (3, .int (nI n)), (0, .ref q), (1, .int v)] → W p l e { frames := 0, cells := 0, slots := 0, locals := 0 } s m args below meth c H locs 0 0 (zQ below (fun a => a = q) (fun o H => o = none ∧ va_at (dC, dI) zcl (q, .inl (cI, n, .inl (fun _ => v))) H) args s) (F0 m 5 ls []) := by
    intro k
    induction k with
    | zero =>
      intro i hi ls H locs g hg hP hS hl
      refine lv_iload_n S.1 S.2.1 d_A_fill_5 rfl (lv_at hl 0 rfl) ?_
      refine lv_iload_n S.1 S.2.1 d_A_fill_6 rfl (lv_at hl 1 rfl) ?_
      refine lv_icmp_ge (tgt := 20) S.1 S.2.1 d_A_fill_7 (by decide) (fun h => ?_) (fun h => absurd (nI_le (by omega) (by omega)) h)
      exact zr_vret S hr hlk hS d_A_fill_20 ⟨rfl, zat_i (hP 0 _ rfl) (fun j hj => hg j (by omega))⟩
    | succ k ih =>
      intro i hi ls H locs g hg hP hS hl
      refine lv_iload_n S.1 S.2.1 d_A_fill_5 rfl (lv_at hl 0 rfl) ?_
      refine lv_iload_n S.1 S.2.1 d_A_fill_6 rfl (lv_at hl 1 rfl) ?_
      refine lv_icmp_ge (tgt := 20) S.1 S.2.1 d_A_fill_7 (by decide) (fun h => absurd h (nI_ge (by omega) (by omega))) (fun h => ?_)
      refine lv_aload_n S.1 S.2.1 d_A_fill_10 rfl (lv_at hl 2 rfl) ?_
      refine lv_iload_n S.1 S.2.1 d_A_fill_11 rfl (lv_at hl 0 rfl) ?_
      refine lv_iload_n S.1 S.2.1 d_A_fill_12 rfl (lv_at hl 3 rfl) ?_
      refine va_iast (A := fun a => a = q) S.1 S.2.1 hK hP (zD_1 rfl) hS 0 0 rfl rfl (zo_in (by omega) (by omega)) d_A_fill_13 (fun H1 locs1 hP1 _ hS1 => ?_)
      rw [zo_c (by omega)] at hP1
      refine lv_iinc (k := 0) (v := nI (i + 1)) S.1 S.2.1 d_A_fill_14 hl rfl (nI_succ i).symm (by decide) rfl (fun ls hl => ?_)
      refine lv_goto (tgt := 5) S.1 S.2.1 d_A_fill_17 (by decide) ?_
      refine ih (i + 1) (by omega) ls H1 locs1 (va_up g i v) (fun j hj => ?_) hP1 hS1 hl
      unfold va_up
      by_cases hji : j = i
      · rw [if_pos hji]
      · rw [if_neg hji]; exact hg j (by omega)
  refine lv_iconst (v := 0) S.1 S.2.1 d_A_fill_0 (by decide) ?_
  refine lv_istore_n S.1 S.2.1 d_A_fill_1 rfl hl (by decide) rfl (fun ls hl => ?_)
  refine lv_aload_n S.1 S.2.1 d_A_fill_2 rfl (lv_at hl 1 rfl) ?_
  refine va_alen S.1 S.2.1 hK hP 0 0 rfl rfl (v := nI n) rfl d_A_fill_3 ?_
  refine lv_istore_n S.1 S.2.1 d_A_fill_4 rfl hl (by decide) rfl (fun ls hl => ?_)
  exact loop n 0 (by omega) ls s.heap [] f (fun j hj => absurd hj (by omega)) hP hS (lv_sub hl [1, 0, 2, 3] rfl)
def zRd (r t : Int32) : Int32 := if r = t then 0 else 10000
set_option maxHeartbeats 4000000 in
set_option maxRecDepth 100000 in
theorem C_R_init (l : Launch) (h0 rc sz n : Nat) (hn : n ≤ 6) (r t : Int32) (f : Nat → Int32) : zCi (dC, dI) (zty cI cZ cR cA) (zAn h0 sz) l y_R_init b_R_init 4 { frames := 1, cells := 2, slots := 12, locals := 40 } [.ref h0, .int r, .int t, .ref rc]
    (fun H => (H.size = sz ∧ rc < sz ∧ h0 ≠ rc) ∧ va_at (dC, dI) zcl (h0, .inr (1, [.int 0, .int 0, .null, .null, .null, .int 0, .int 0, .int 0, .int 0, .int 0, .int 0])) H ∧ va_at (dC, dI) zcl (rc, .inl (cI, n, .inl f)) H)
    (fun H => ∃ q1 q2, sz ≤ q1 ∧ sz ≤ q2 ∧ q1 ≠ q2 ∧ va_at (dC, dI) zcl (h0, .inr (1, [.int r, .int t, .ref rc, .ref q1, .ref q2, .int (zRd r t), .int (zRd r t), .int (-1), .int 0, .int 0, .int 0])) H ∧ va_at (dC, dI) zcl (q1, .inl (cI, n, .inl (fun _ => 10000))) H ∧ va_at (dC, dI) zcl (q2, .inl (cZ, n, .inl (fun _ => 0))) H) 2 12 := by
  refine zCi_of (by decide) (Nat.le_of_ble_eq_true rfl) ?_
  intro p e s m args below meth c ls S hr hlk hin hKq hP hl
  obtain ⟨⟨hsz, hrc, hne⟩, hP, hPr⟩ := hP
  have hK := hKq.1
  have hl : lv_has ls 4 [(0, .ref h0), (1, .int r), (2, .int t), (3, .ref rc)] := hl
  subst hsz
  have hA : ∀ q : Nat, s.heap.size ≤ q → zAn h0 s.heap.size q := fun q h => Or.inr h
  have hD : va_D (zAn h0 s.heap.size) [(h0, .inr (1, [.int 0, .int 0, .null, .null, .null, .int 0, .int 0, .int 0, .int 0, .int 0, .int 0]))] := zD_1 (Or.inl rfl)
  have hP := zP_1 hP
  have hS : va_S (zAn h0 s.heap.size) s.heap s.heap [] := va_S.rf
  have hnA : ¬ zAn h0 s.heap.size rc := fun h => by
    rcases h with h | h
    · exact hne h.symm
    · omega
  have hrk : ∀ {H : Heap} {locs : List Loc}, va_S (zAn h0 s.heap.size) s.heap H locs → va_P (dC, dI) zcl [(rc, .inl (cI, n, .inl f))] H := fun h => zP_1 (hPr.kept (h.2.1 rc hrc hnA))
  refine lv_aload_n S.1 S.2.1 d_R_init_0 rfl (lv_at hl 0 rfl) ?_
  refine zi_obj S (zwi 5 rfl) hl.1 (Nat.le_of_ble_eq_true rfl) (Nat.le_of_ble_eq_true rfl) d_R_init_1 ?_
  refine lv_aload_n S.1 S.2.1 d_R_init_4 rfl (lv_at hl 0 rfl) ?_
  refine lv_iload_n S.1 S.2.1 d_R_init_5 rfl (lv_at hl 1 rfl) ?_
  refine va_putF (D := (dC, dI)) (ci := 1) (v := .int r) (ty := .int) (C := N_R) (T := FT_R) (N := 11) S.1 S.2.1 S.2.2.2.2 (fun w h => zwT (zi_R w h)) t_R t_R_ok n_R S.2.2.2.1 hK hP hD hS 0 rfl rfl 0 (by decide) (S.2.2.2.2 _ (zwi 24 rfl)) (fun _ h9 => h9) rfl hin rfl (by decide +kernel) rfl rfl (Nat.le_of_ble_eq_true rfl) d_R_init_6 (fun H locs hP hD hS => ?_)
  have hP : va_P (dC, dI) zcl [(h0, .inr (1, [.int r, .int 0, .null, .null, .null, .int 0, .int 0, .int 0, .int 0, .int 0, .int 0]))] H := hP
  refine lv_aload_n S.1 S.2.1 d_R_init_9 rfl (lv_at hl 0 rfl) ?_
  refine lv_iload_n S.1 S.2.1 d_R_init_10 rfl (lv_at hl 2 rfl) ?_
  refine va_putF (D := (dC, dI)) (ci := 1) (v := .int t) (ty := .int) (C := N_R) (T := FT_R) (N := 11) S.1 S.2.1 S.2.2.2.2 (fun w h => zwT (zi_R w h)) t_R t_R_ok n_R S.2.2.2.1 hK hP hD hS 0 rfl rfl 1 (by decide) (S.2.2.2.2 _ (zwi 25 rfl)) (fun _ h9 => h9) rfl hin rfl (by decide +kernel) rfl rfl (Nat.le_of_ble_eq_true rfl) d_R_init_11 (fun H locs hP hD hS => ?_)
  have hP : va_P (dC, dI) zcl [(h0, .inr (1, [.int r, .int t, .null, .null, .null, .int 0, .int 0, .int 0, .int 0, .int 0, .int 0]))] H := hP
  refine lv_aload_n S.1 S.2.1 d_R_init_14 rfl (lv_at hl 0 rfl) ?_
  refine lv_aload_n S.1 S.2.1 d_R_init_15 rfl (lv_at hl 3 rfl) ?_
  refine va_putF (D := (dC, dI)) (ci := 1) (v := .ref rc) (ty := .array .int) (C := N_R) (T := FT_R) (N := 11) S.1 S.2.1 S.2.2.2.2 (fun w h => zwT (zi_R w h)) t_R t_R_ok n_R S.2.2.2.1 hK hP hD hS 0 rfl rfl 2 (by decide) (S.2.2.2.2 _ (zwi 26 rfl)) (fun _ h9 => h9) rfl hin rfl (by decide +kernel) rfl rfl (Nat.le_of_ble_eq_true rfl) d_R_init_16 (fun H locs hP hD hS => ?_)
  have hP : va_P (dC, dI) zcl [(h0, .inr (1, [.int r, .int t, .ref rc, .null, .null, .int 0, .int 0, .int 0, .int 0, .int 0, .int 0]))] H := hP
  refine lv_aload_n S.1 S.2.1 d_R_init_19 rfl (lv_at hl 0 rfl) ?_
  refine lv_aload_n S.1 S.2.1 d_R_init_20 rfl (lv_at hl 3 rfl) ?_
  refine va_alen S.1 S.2.1 hK (hrk hS) 0 0 rfl rfl (v := nI n) rfl d_R_init_21 ?_
  refine va_newa (a0 := (n, .inl (fun _ => 0))) (N' := n) S.1 S.2.1 (S.2.2.2.2 _ (zwi 3 rfl)) rfl hK hP hD hS hA (fun _ => rfl) (nI_pos (by omega)) (nI_clamp (by omega)) (by show n * 4 ≤ _; omega) (Nat.le_of_ble_eq_true rfl) (by show 0 + n ≤ 12; omega) d_R_init_22 (fun q1 cX H hK1 hP hD hS => ?_)
  obtain rfl := zty_one (cX := cI) (i := 0) hK rfl hK1
  have hP : va_P (dC, dI) zcl [(h0, .inr (1, [.int r, .int t, .ref rc, .null, .null, .int 0, .int 0, .int 0, .int 0, .int 0, .int 0])), (q1, .inl (cX, n, .inl (fun _ => 0)))] H := hP
  refine va_putF (D := (dC, dI)) (ci := 1) (v := .ref q1) (ty := .array .int) (C := N_R) (T := FT_R) (N := 11) S.1 S.2.1 S.2.2.2.2 (fun w h => zwT (zi_R w h)) t_R t_R_ok n_R S.2.2.2.1 hK hP hD hS 0 rfl rfl 3 (by decide) (S.2.2.2.2 _ (zwi 27 rfl)) (fun _ h9 => h9) rfl hin rfl (by decide +kernel) rfl rfl (Nat.le_of_ble_eq_true rfl) d_R_init_24 (fun H locs hP hD hS => ?_)
  have hP : va_P (dC, dI) zcl [(h0, .inr (1, [.int r, .int t, .ref rc, .ref q1, .null, .int 0, .int 0, .int 0, .int 0, .int 0, .int 0])), (q1, .inl (cX, n, .inl (fun _ => 0)))] H := hP
  refine lv_aload_n S.1 S.2.1 d_R_init_27 rfl (lv_at hl 0 rfl) ?_
  refine va_get (D := (dC, dI)) (ci := 1) (v := .ref q1) (C := N_R) (T := FT_R) (N := 11) S.1 S.2.1 S.2.2.2.2 (fun w h => zwT (zi_R w h)) S.2.2.2.1 hK hP 0 rfl rfl 3 (by decide) (S.2.2.2.2 _ (zwi 27 rfl)) (fun _ h9 => h9) rfl d_R_init_28 ?_
  refine lv_sipush (v := 10000) S.1 S.2.1 d_R_init_31 (by decide) ?_
  have hne1 : h0 ≠ q1 := zD_ne hD 0 1 rfl rfl (by decide)
  have hA1 : zAn h0 s.heap.size q1 := hD.2 1 _ rfl
  refine zr_callS (A1 := fun a => a = q1) (As := [.ref q1, .int 10000]) (rest := []) S zTi_good (C_A_fill (dC := dC) (dI := dI) (cI := cX) (cZ := cZ) (cR := cR) (cA := cA) l q1 n (by omega) 10000 (fun _ => 0)) zN_fill (zwi 8 rfl) ⟨rfl, rfl⟩ ⟨Nat.le_of_ble_eq_true rfl, Nat.le_of_ble_eq_true rfl⟩ ⟨Nat.le_of_ble_eq_true rfl, by show 0 + n ≤ 12; omega⟩ hK (hP 1 _ rfl) hl.1 (Nat.le_of_ble_eq_true rfl) hS (fun q h => by have h : q = q1 := h; rw [h]; exact hA1) d_R_init_34 rfl (fun o H1 locs1 hp hsz1 hk1 hS => ?_)
  obtain ⟨rfl, hp⟩ := hp
  have hD := hD.set (p := 1) (a := q1) (e0 := .inl (cX, n, .inl (fun _ => 0))) (e := .inl (cX, n, .inl (fun _ => 10000))) rfl
  have hP : va_P (dC, dI) zcl [(h0, .inr (1, [.int r, .int t, .ref rc, .ref q1, .null, .int 0, .int 0, .int 0, .int 0, .int 0, .int 0])), (q1, .inl (cX, n, .inl (fun _ => 10000)))] H1 := zP_c ((hP 0 _ rfl).kept (hk1 h0 (hP 0 _ rfl).lt hne1)) (zP_1 hp)
  refine lv_aload_n S.1 S.2.1 d_R_init_37 rfl (lv_at hl 0 rfl) ?_
  refine lv_aload_n S.1 S.2.1 d_R_init_38 rfl (lv_at hl 3 rfl) ?_
  refine va_alen S.1 S.2.1 hK (hrk hS) 0 0 rfl rfl (v := nI n) rfl d_R_init_39 ?_
  refine va_newa (a0 := (n, .inl (fun _ => 0))) (N' := n) S.1 S.2.1 (S.2.2.2.2 _ (zwi 4 rfl)) rfl hK hP hD hS hA (fun _ => rfl) (nI_pos (by omega)) (nI_clamp (by omega)) (by show n * 1 ≤ _; omega) (Nat.le_of_ble_eq_true rfl) (by show 0 + n + n ≤ 12; omega) d_R_init_40 (fun q2 cY H hK2 hP hD hS => ?_)
  obtain rfl := zty_one (cX := cZ) (i := 1) hK rfl hK2
  have hP : va_P (dC, dI) zcl [(h0, .inr (1, [.int r, .int t, .ref rc, .ref q1, .null, .int 0, .int 0, .int 0, .int 0, .int 0, .int 0])), (q1, .inl (cX, n, .inl (fun _ => 10000))), (q2, .inl (cY, n, .inl (fun _ => 0)))] H := hP
  refine va_putF (D := (dC, dI)) (ci := 1) (v := .ref q2) (ty := .array .boolean) (C := N_R) (T := FT_R) (N := 11) S.1 S.2.1 S.2.2.2.2 (fun w h => zwT (zi_R w h)) t_R t_R_ok n_R S.2.2.2.1 hK hP hD hS 0 rfl rfl 4 (by decide) (S.2.2.2.2 _ (zwi 28 rfl)) (fun _ h9 => h9) rfl hin rfl (by decide +kernel) rfl rfl (Nat.le_of_ble_eq_true rfl) d_R_init_42 (fun H locs hP hD hS => ?_)
  have hP : va_P (dC, dI) zcl [(h0, .inr (1, [.int r, .int t, .ref rc, .ref q1, .ref q2, .int 0, .int 0, .int 0, .int 0, .int 0, .int 0])), (q1, .inl (cX, n, .inl (fun _ => 10000))), (q2, .inl (cY, n, .inl (fun _ => 0)))] H := hP
  refine lv_aload_n S.1 S.2.1 d_R_init_45 rfl (lv_at hl 0 rfl) ?_
  refine lv_iload_n S.1 S.2.1 d_R_init_46 rfl (lv_at hl 1 rfl) ?_
  refine lv_iload_n S.1 S.2.1 d_R_init_47 rfl (lv_at hl 2 rfl) ?_
  have join : ∀ d : Int32, d = zRd r t → W p l e { frames := 1, cells := 2, slots := 12, locals := 40 } s m args below meth c H locs (0 + 1 + 1) (0 + n + n) (zQi below (zAn h0 s.heap.size) (fun H => ∃ q1 q2, s.heap.size ≤ q1 ∧ s.heap.size ≤ q2 ∧ q1 ≠ q2 ∧ va_at (dC, dI) zcl (h0, .inr (1, [.int r, .int t, .ref rc, .ref q1, .ref q2, .int (zRd r t), .int (zRd r t), .int (-1), .int 0, .int 0, .int 0])) H ∧ va_at (dC, dI) zcl (q1, .inl (cX, n, .inl (fun _ => 10000))) H ∧ va_at (dC, dI) zcl (q2, .inl (cY, n, .inl (fun _ => 0))) H) args s 2 12) (F0 m 58 ls [.int d, .ref h0]) := by
    intro d hd
    subst hd
    refine va_put (D := (dC, dI)) (ci := 1) (v := .int (zRd r t)) (ty := .int) (C := N_R) (T := FT_R) (N := 11) S.1 S.2.1 S.2.2.2.2 (fun w h => zwT (zi_R w h)) t_R t_R_ok n_R S.2.2.2.1 hK hP hD hS 0 rfl rfl 5 (by decide) (S.2.2.2.2 _ (zwi 29 rfl)) (fun _ h9 => h9) rfl (by decide +kernel) rfl rfl (Nat.le_of_ble_eq_true rfl) d_R_init_58 (fun H locs hP hD hS => ?_)
    have hP : va_P (dC, dI) zcl [(h0, .inr (1, [.int r, .int t, .ref rc, .ref q1, .ref q2, .int (zRd r t), .int 0, .int 0, .int 0, .int 0, .int 0])), (q1, .inl (cX, n, .inl (fun _ => 10000))), (q2, .inl (cY, n, .inl (fun _ => 0)))] H := hP
    refine lv_aload_n S.1 S.2.1 d_R_init_61 rfl (lv_at hl 0 rfl) ?_
    refine lv_aload_n S.1 S.2.1 d_R_init_62 rfl (lv_at hl 0 rfl) ?_
    refine va_get (D := (dC, dI)) (ci := 1) (v := .int (zRd r t)) (C := N_R) (T := FT_R) (N := 11) S.1 S.2.1 S.2.2.2.2 (fun w h => zwT (zi_R w h)) S.2.2.2.1 hK hP 0 rfl rfl 5 (by decide) (S.2.2.2.2 _ (zwi 29 rfl)) (fun _ h9 => h9) rfl d_R_init_63 ?_
    refine va_put (D := (dC, dI)) (ci := 1) (v := .int (zRd r t)) (ty := .int) (C := N_R) (T := FT_R) (N := 11) S.1 S.2.1 S.2.2.2.2 (fun w h => zwT (zi_R w h)) t_R t_R_ok n_R S.2.2.2.1 hK hP hD hS 0 rfl rfl 6 (by decide) (S.2.2.2.2 _ (zwi 30 rfl)) (fun _ h9 => h9) rfl (by decide +kernel) rfl rfl (Nat.le_of_ble_eq_true rfl) d_R_init_66 (fun H locs hP hD hS => ?_)
    have hP : va_P (dC, dI) zcl [(h0, .inr (1, [.int r, .int t, .ref rc, .ref q1, .ref q2, .int (zRd r t), .int (zRd r t), .int 0, .int 0, .int 0, .int 0])), (q1, .inl (cX, n, .inl (fun _ => 10000))), (q2, .inl (cY, n, .inl (fun _ => 0)))] H := hP
    refine lv_aload_n S.1 S.2.1 d_R_init_69 rfl (lv_at hl 0 rfl) ?_
    refine lv_iconst (v := -1) S.1 S.2.1 d_R_init_70 (by decide) ?_
    refine va_put (D := (dC, dI)) (ci := 1) (v := .int (-1)) (ty := .int) (C := N_R) (T := FT_R) (N := 11) S.1 S.2.1 S.2.2.2.2 (fun w h => zwT (zi_R w h)) t_R t_R_ok n_R S.2.2.2.1 hK hP hD hS 0 rfl rfl 7 (by decide) (S.2.2.2.2 _ (zwi 31 rfl)) (fun _ h9 => h9) rfl (by decide +kernel) rfl rfl (Nat.le_of_ble_eq_true rfl) d_R_init_71 (fun H locs hP hD hS => ?_)
    refine zi_ret S hr hlk hS (Nat.le_of_ble_eq_true rfl) (by omega) d_R_init_74 ⟨q1, q2, zAn_new hD rfl 1 rfl (by decide), zAn_new hD rfl 2 rfl (by decide), zD_ne hD 1 2 rfl rfl (by decide), hP 0 _ rfl, hP 1 _ rfl, hP 2 _ rfl⟩
  refine lv_icmp_ne (tgt := 55) S.1 S.2.1 d_R_init_48 (by decide) (fun h => ?_) (fun h => ?_)
  · refine lv_sipush (v := 10000) S.1 S.2.1 d_R_init_55 (by decide) ?_
    exact join 10000 (by unfold zRd; rw [if_neg h])
  · refine lv_iconst (v := 0) S.1 S.2.1 d_R_init_51 (by decide) ?_
    refine lv_goto (tgt := 58) S.1 S.2.1 d_R_init_52 (by decide) ?_
    exact join 0 (by unfold zRd; rw [if_pos h])
end CI
