/-! The program's constructor. -/
theorem zdv : ∀ i, i < 36 → ∀ n, n < 7 → 2 ≤ n → nI i / nI n = nI (i / n) ∧ nI i - nI i / nI n * nI n = nI (i % n) := by decide +kernel
theorem zP_l {D : va_G} {cl : List vw_C} {w1 w2 : va_W} {H : Heap} (h : va_P D cl (w1 ++ w2) H) : va_P D cl w1 H := fun k q hk => h k q (by rw [List.getElem?_append_left (List.getElem?_eq_some_iff.mp hk).1]; exact hk)
theorem zP_r {D : va_G} {cl : List vw_C} {w1 : va_W} {x : Nat × va_E} {H : Heap} (h : va_P D cl (w1 ++ [x]) H) : va_at D cl x H := h w1.length x (by simp)
theorem zD_r {A : Nat → Prop} {w1 : va_W} {x : Nat × va_E} (h : va_D A (w1 ++ [x])) : A x.1 := h.2 w1.length x (by simp)
theorem zD_apart {A : Nat → Prop} {ks : List zK} {ad : zK → Nat} {ct : zK → va_E} {x : Nat × va_E} (h : va_D A (zW ks ad ct ++ [x])) {j : zK} (hj : j ∈ ks) : ad j ≠ x.1 := fun e => by
  obtain ⟨q, -, hq⟩ := zW_at (ad := ad) (ct := ct) hj
  have hlt := (List.getElem?_eq_some_iff.mp hq).1
  have := h.1 q (zW ks ad ct).length (ad j, ct j) x (by rw [List.getElem?_append_left hlt]; exact hq) (by simp) e
  omega
theorem zN_R : zN zTi y_R_init b_R_init 4 none 3 := ⟨zwi 18 rfl, zwi 17 rfl, by decide, by decide, by decide +kernel⟩
theorem zN_L : zN zTi y_L_init b_L_init 1 none 0 := ⟨zwi 23 rfl, zwi 22 rfl, by decide, by decide, by decide +kernel⟩
theorem zR_def : ∀ j, j < 11 → defaultValue (t_R j) = vp_V [.int 0, .int 0, .null, .null, .null, .int 0, .int 0, .int 0, .int 0, .int 0, .int 0] j := fun j hj => by
  match j, hj with
  | 0, _ => rfl
  | 1, _ => rfl
  | 2, _ => rfl
  | 3, _ => rfl
  | 4, _ => rfl
  | 5, _ => rfl
  | 6, _ => rfl
  | 7, _ => rfl
  | 8, _ => rfl
  | 9, _ => rfl
  | 10, _ => rfl
  | j + 11, h => exact absurd h (by omega)
theorem zL_def : ∀ j, j < 4 → defaultValue (t_L j) = vp_V [.null, .null, .int 0, .int 0] j := fun j hj => by
  match j, hj with
  | 0, _ => rfl
  | 1, _ => rfl
  | 2, _ => rfl
  | 3, _ => rfl
  | j + 4, h => exact absurd h (by omega)
abbrev rm_D_init : Room := { frames := 2, cells := 119, slots := 1937, locals := 80 }
section CD
variable {p : Program} {l : Launch} {e : Env} {s : State} {m : MethodId} {args : Array Value} {below : List Frame} {meth : Method} {c : Code}
variable {dC : Nat → ClassId} {dI : Nat → Nat → Nat} {cI cZ cR cA : ClassId} {n h0 : Nat} {x : Int32}
abbrev zPoD (dC : Nat → ClassId) (dI : Nat → Nat → Nat) (cI cZ cR cA : ClassId) (n h0 sz : Nat) (H : Heap) : Prop := ∃ ad : zK → Nat, ad (0, 0) = h0 ∧ zD (zAn h0 sz) (zKs n) ad ∧ zV (dC, dI) zcl (zKs n) ad (zcE n cI cZ cR cA ad) zIc H
set_option maxHeartbeats 4000000 in
set_option maxRecDepth 100000 in
theorem D_tail (S : CallFix p m c b_D_init 4 s args zTi N_D) (hr : meth.sig.returnType = none) (hlk : meth.locks = false) (hin : meth.name = "<init>") (hKq : zKq (dC, dI) (zty cI cZ cR cA) s) (hn : 2 ≤ n ∧ n ≤ 6) (ls : Array Slot) (H : Heap) (locs : List Loc) (ad : zK → Nat) (had : ad (0, 0) = h0) (hDi : zDi (zAn h0 s.heap.size) (zJ n (n * n)) ad) (hW : ∀ j, j ∈ zJ n (n * n) → va_at (dC, dI) zcl (ad j, zJc n cI cZ cR cA (n * n) .null ad j) H) (hS : va_S (zAn h0 s.heap.size) s.heap H locs) (hl : lv_has ls 4 [(2, .int (nI (n * n))), (0, .ref h0), (1, .int x)]) : W p l e rm_D_init s m args below meth c H locs (8 + 3 * (n * n)) (78 + 23 * (n * n)) (zQi below (zAn h0 s.heap.size) (zPoD dC dI cI cZ cR cA n h0 s.heap.size) args s 119 1937) (F0 m 100 ls []) := by
  have hK := hKq.1
  have hnn : n * n ≤ 36 := Nat.mul_le_mul hn.2 hn.2
  have hA : ∀ q : Nat, s.heap.size ≤ q → zAn h0 s.heap.size q := fun q h => Or.inr h
  refine lv_aload_n S.1 S.2.1 d_D_init_100 rfl (lv_at hl 1 rfl) ?_
  refine va_new (D := (dC, dI)) (ci := 2) (fs := [.null, .null, .int 0, .int 0]) (C := N_L) (T := FT_L) (N := 4) S.1 S.2.1 S.2.2.2.2 (fun w h => zwT (zi_L w h)) t_L t_L_ok S.2.2.2.1 (S.2.2.2.2 _ (zwi 19 rfl)) (S.2.2.2.2 _ (zwi 20 rfl)) (S.2.2.2.2 _ (zwi 23 rfl)) hK (zW_pt.mpr hW) (zD_mk (zJ_nd _) hDi _) hS hA rfl zL_def (by show 8 + 3 * (n * n) + 1 ≤ 119; omega) (by show 78 + 23 * (n * n) + 4 ≤ 1937; omega) d_D_init_101 (fun q H1 hP1 hD1 hS1 => ?_)
  have hne : ∀ j, j ∈ zJ n (n * n) → ad j ≠ q := fun j hj => zD_apart hD1 hj
  have hW1 := zW_pt.mp (zP_l hP1)
  have hq := zP_r hP1
  have hAq : zAn h0 s.heap.size q := zD_r hD1
  refine lv_dup S.1 S.2.1 d_D_init_104 rfl ?_
  refine zi_callN (A1 := zAn q H1.size) (As := []) (a := q) (rest := [.ref q, .ref h0]) S S.2.2.2.2 (C_L_init (dC := dC) (dI := dI) (cI := cI) (cZ := cZ) (cR := cR) (cA := cA) l q H1.size) zN_L rfl (zwi 21 rfl) hKq.2.2.2 ⟨rfl, rfl⟩ ⟨Nat.le_of_ble_eq_true rfl, Nat.le_of_ble_eq_true rfl⟩ ⟨by show 8 + 3 * (n * n) + 1 + 2 ≤ 119; omega, by show 78 + 23 * (n * n) + 4 + 1027 ≤ 1937; omega⟩ hKq ⟨rfl, hq⟩ hl.1 (Nat.le_of_ble_eq_true rfl) hS1 (fun a ha => ?_) d_D_init_105 rfl (fun H2 locs2 hp hsz2 hk2 hS2 => ?_)
  · rcases ha with rfl | ha
    · exact hAq
    · exact Or.inr (Nat.le_trans hS1.1 ha)
  obtain ⟨q1, q2, g1, g2, g3, v0, v1, v2⟩ := hp
  have hlt1 : ∀ j, j ∈ zJ n (n * n) → ad j < H1.size := fun j hj => (hW1 j hj).lt
  have hqlt : q < H1.size := hq.lt
  have hDi2 : zDi (zAn h0 s.heap.size) (zJk n (n * n)) (zJm ad q q1 q2) := zJk_di hDi hne (fun j hj e => by have := hlt1 j hj; omega) (fun j hj e => by have := hlt1 j hj; omega) (fun e => by omega) (fun e => by omega) g3 hAq (Or.inr (Nat.le_trans hS1.1 g1)) (Or.inr (Nat.le_trans hS1.1 g2))
  have hW2 : ∀ j, j ∈ zJk n (n * n) → va_at (dC, dI) zcl (zJm ad q q1 q2 j, zJc n cI cZ cR cA (n * n) .null (zJm ad q q1 q2) j) H2 := fun j hj => by
    rcases zJk_mem.mp hj with k | rfl | rfl | rfl
    · rw [zJm_o k, zJc_m k]
      refine (hW1 j k).kept (hk2 _ (hlt1 j k) (fun ha => ?_))
      rcases ha with ha | ha
      · exact hne j k ha
      · exact absurd (hlt1 j k) (by show ¬ ad j < H1.size; have ha : H1.size ≤ ad j := ha; omega)
    · rw [zJm_3]
      have e3 : zJc n cI cZ cR cA (n * n) .null (zJm ad q q1 q2) (3, 0) = .inr (2, [.ref q1, .ref q2, .int 0, .int 0]) := by simp only [zJc, zJm_4, zJm_5]
      rw [e3]; exact v0
    · rw [zJm_4]; exact v1
    · rw [zJm_5]; exact v2
  obtain ⟨q0, hq0, ha⟩ := zW_at (ks := zJk n (n * n)) (ad := zJm ad q q1 q2) (ct := zJc n cI cZ cR cA (n * n) .null (zJm ad q q1 q2)) (k := (0, 0)) (zJk_mem.mpr (Or.inl (zJ_mem.mpr (Or.inl (zJ0_mem.mpr (Or.inl rfl))))))
  have h00 : zJm ad q q1 q2 (0, 0) = h0 := by rw [zJm_n (by decide) (by decide) (by decide)]; exact had
  have ha' : (zW (zJk n (n * n)) (zJm ad q q1 q2) (zJc n cI cZ cR cA (n * n) .null (zJm ad q q1 q2)))[q0]? = some (h0, .inr (0, [.int (nI n), .ref (zJm ad q q1 q2 (1, 0)), .ref (zJm ad q q1 q2 (2, 0)), .null, .int 0])) := by
    rw [ha, h00]
    rfl
  refine va_putF (D := (dC, dI)) (ci := 0) (v := .ref q) (ty := .object N_L) (C := N_D) (T := FT_D) (N := 5) S.1 S.2.1 S.2.2.2.2 (fun w h => zwT (zi_D w h)) t_D t_D_ok n_D S.2.2.2.1 hK (zW_pt.mpr hW2) (zD_mk zJk_nd hDi2 _) hS2 q0 ha' rfl 3 (by decide) (S.2.2.2.2 _ (zwi 35 rfl)) (fun _ h9 => h9) rfl hin rfl (by decide +kernel) rfl rfl (Nat.le_of_ble_eq_true rfl) d_D_init_108 (fun H3 locs3 hP3 hD3 hS3 => ?_)
  rw [← h00] at hP3
  rw [zW_set (ct' := zJc n cI cZ cR cA (n * n) (.ref (zJm ad q q1 q2 (3, 0))) (zJm ad q q1 q2)) (zD_mk zJk_nd hDi2 _) hq0 (by rw [zJm_3]; rfl) (fun k hk hne => by
    obtain ⟨k1, k2⟩ := k
    match k1 with
    | 0 =>
      rcases zJk_mem.mp hk with h | h | h | h
      · rcases zJ_mem.mp h with h | ⟨t, ht, h⟩
        · rcases zJ0_mem.mp h with h | h | h | ⟨r, _, h⟩
          · exact absurd h hne
          · injection h with h1 h2; exact absurd h1 (by decide)
          · injection h with h1 h2; exact absurd h1 (by decide)
          · injection h with h1 h2; exact absurd h1 (by decide)
        · rcases h with h | h | h <;> injection h with h1 h2 <;> exact absurd h1 (by decide)
      · injection h with h1 h2; exact absurd h1 (by decide)
      · injection h with h1 h2; exact absurd h1 (by decide)
      · injection h with h1 h2; exact absurd h1 (by decide)
    | 1 => rfl
    | 2 => rfl
    | 3 => rfl
    | 4 => rfl
    | 5 => rfl
    | 6 => rfl
    | 7 => rfl
    | 8 => rfl
    | k + 9 => rfl)] at hP3
  refine zi_ret S hr hlk hS3 (by omega) (by omega) d_D_init_111 ?_
  obtain ⟨ad1, f1, f2, f3⟩ := zJ_end hn hDi2 (zW_pt.mp hP3)
  exact ⟨ad1, f1.trans h00, f2, f3⟩
end CD
