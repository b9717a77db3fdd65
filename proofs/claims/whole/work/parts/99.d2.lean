/-! The program's constructor: the loop over the routes. -/
section CE
variable {p : Program} {l : Launch} {e : Env} {s : State} {m : MethodId} {args : Array Value} {below : List Frame} {meth : Method} {c : Code}
variable {dC : Nat → ClassId} {dI : Nat → Nat → Nat} {cI cZ cR cA : ClassId} {n h0 : Nat} {x : Int32}
set_option maxHeartbeats 4000000 in
set_option maxRecDepth 100000 in
theorem D_loop (S : CallFix p m c b_D_init 4 s args zTi N_D) (hr : meth.sig.returnType = none) (hlk : meth.locks = false) (hin : meth.name = "<init>") (hKq : zKq (dC, dI) (zty cI cZ cR cA) s) (hn : 2 ≤ n ∧ n ≤ 6) : ∀ (k i : Nat), i + k = n * n → ∀ (ls : Array Slot) (H : Heap) (locs : List Loc) (ad : zK → Nat), ad (0, 0) = h0 → zDi (zAn h0 s.heap.size) (zJ n i) ad → (∀ j, j ∈ zJ n i → va_at (dC, dI) zcl (ad j, zJc n cI cZ cR cA i .null ad j) H) → va_S (zAn h0 s.heap.size) s.heap H locs → lv_has ls 4 [(2, .int (nI i)), (0, .ref h0), (1, .int x)] → W p l e rm_D_init s m args below meth c H locs (8 + 3 * i) (78 + 23 * i) (zQi below (zAn h0 s.heap.size) (zPoD dC dI cI cZ cR cA n h0 s.heap.size) args s 119 1937) (F0 m 52 ls []) := by
  have hK := hKq.1
  have hnn : n * n ≤ 36 := Nat.mul_le_mul hn.2 hn.2
  have hA : ∀ q : Nat, s.heap.size ≤ q → zAn h0 s.heap.size q := fun q h => Or.inr h
  have k00 : ∀ i, (((0 : Nat), (0 : Nat)) : zK) ∈ zJ n i := fun i => zJ_mem.mpr (Or.inl (zJ0_mem.mpr (Or.inl rfl)))
  have k10 : ∀ i, (((1 : Nat), (0 : Nat)) : zK) ∈ zJ n i := fun i => zJ_mem.mpr (Or.inl (zJ0_mem.mpr (Or.inr (Or.inl rfl))))
  have k20 : ∀ i, (((2 : Nat), (0 : Nat)) : zK) ∈ zJ n i := fun i => zJ_mem.mpr (Or.inl (zJ0_mem.mpr (Or.inr (Or.inr (Or.inl rfl)))))
  intro k
  induction k with
  | zero =>
    intro i hi ls H locs ad had hDi hW hS hl0
    have hi : i = n * n := by omega
    have hl := hl0
    rw [← had] at hl
    have hV : zV (dC, dI) zcl (zJ n i) ad (fun j _ => zJc n cI cZ cR cA i .null ad j) (fun _ _ _ => 0) H := zV_pt.mpr hW
    refine lv_iload_n S.1 S.2.1 d_D_init_52 rfl (lv_at hl 0 rfl) ?_
    refine lv_aload_n S.1 S.2.1 d_D_init_53 rfl (lv_at hl 1 rfl) ?_
    refine zr_get (C := N_D) (T := FT_D) (N := 5) S (fun w h => zwT (zi_D w h)) hK hV (k00 i) rfl rfl 2 (by decide) (zwi 34 rfl) (v := .ref (ad (2, 0))) rfl d_D_init_54 ?_
    refine zr_alen S hK hV (k20 i) rfl 2 rfl (n := n * n) rfl d_D_init_57 ?_
    refine lv_icmp_ge (tgt := 100) S.1 S.2.1 d_D_init_58 (by decide) (fun h => ?_) (fun h => absurd (nI_le (by omega) (by omega)) h)
    subst hi
    exact D_tail S hr hlk hin hKq hn ls H locs ad had hDi hW hS hl0
  | succ k ih =>
    intro i hi ls H locs ad had hDi hW hS hl
    rw [← had] at hl
    have hlt : i < n * n := by omega
    have hi36 : i < 36 := by omega
    have hdn : i / n < n := Nat.div_lt_of_lt_mul hlt
    have hmn : i % n < n := Nat.mod_lt _ (by omega)
    obtain ⟨dv1, dv2⟩ := zdv i hi36 n (by omega) hn.1
    have hn0 : ¬ nI n = 0 := nI_ne0 (by omega) (by omega)
    have hV : zV (dC, dI) zcl (zJ n i) ad (fun j _ => zJc n cI cZ cR cA i .null ad j) (fun _ _ _ => 0) H := zV_pt.mpr hW
    refine lv_iload_n S.1 S.2.1 d_D_init_52 rfl (lv_at hl 0 rfl) ?_
    refine lv_aload_n S.1 S.2.1 d_D_init_53 rfl (lv_at hl 1 rfl) ?_
    refine zr_get (C := N_D) (T := FT_D) (N := 5) S (fun w h => zwT (zi_D w h)) hK hV (k00 i) rfl rfl 2 (by decide) (zwi 34 rfl) (v := .ref (ad (2, 0))) rfl d_D_init_54 ?_
    refine zr_alen S hK hV (k20 i) rfl 2 rfl (n := n * n) rfl d_D_init_57 ?_
    refine lv_icmp_ge (tgt := 100) S.1 S.2.1 d_D_init_58 (by decide) (fun h => absurd h (nI_ge (by omega) (by omega))) (fun h => ?_)
    refine lv_iload_n S.1 S.2.1 d_D_init_61 rfl (lv_at hl 0 rfl) ?_
    refine lv_aload_n S.1 S.2.1 d_D_init_62 rfl (lv_at hl 1 rfl) ?_
    refine zr_get (C := N_D) (T := FT_D) (N := 5) S (fun w h => zwT (zi_D w h)) hK hV (k00 i) rfl rfl 0 (by decide) (zwi 32 rfl) (v := .int (nI n)) rfl d_D_init_63 ?_
    refine lv_idiv S.1 S.2.1 d_D_init_66 hn0 ?_
    refine zr_top dv1 ?_
    refine lv_istore_n S.1 S.2.1 d_D_init_67 rfl hl (by decide) rfl (fun ls hl => ?_)
    refine lv_aload_n S.1 S.2.1 d_D_init_68 rfl (lv_at hl 2 rfl) ?_
    refine zr_get (C := N_D) (T := FT_D) (N := 5) S (fun w h => zwT (zi_D w h)) hK hV (k00 i) rfl rfl 2 (by decide) (zwi 34 rfl) (v := .ref (ad (2, 0))) rfl d_D_init_69 ?_
    refine lv_iload_n S.1 S.2.1 d_D_init_72 rfl (lv_at hl 1 rfl) ?_
    refine va_new (D := (dC, dI)) (ci := 1) (fs := [.int 0, .int 0, .null, .null, .null, .int 0, .int 0, .int 0, .int 0, .int 0, .int 0]) (C := N_R) (T := FT_R) (N := 11) S.1 S.2.1 S.2.2.2.2 (fun w h => zwT (zi_R w h)) t_R t_R_ok S.2.2.2.1 (S.2.2.2.2 _ (zwi 13 rfl)) (S.2.2.2.2 _ (zwi 14 rfl)) (S.2.2.2.2 _ (zwi 18 rfl)) hK (zW_pt.mpr hW) (zD_mk (zJ_nd _) hDi _) hS hA rfl zR_def (by show 8 + 3 * i + 1 ≤ 119; omega) (by show 78 + 23 * i + 11 ≤ 1937; omega) d_D_init_73 (fun q H1 hP1 hD1 hS1 => ?_)
    have hne : ∀ j, j ∈ zJ n i → ad j ≠ q := fun j hj => zD_apart hD1 hj
    have hW1 := zW_pt.mp (zP_l hP1)
    have hq := zP_r hP1
    have hAq : zAn h0 s.heap.size q := zD_r hD1
    have hV1 : zV (dC, dI) zcl (zJ n i) ad (fun j _ => zJc n cI cZ cR cA i .null ad j) (fun _ _ _ => 0) H1 := zV_pt.mpr hW1
    refine lv_dup S.1 S.2.1 d_D_init_76 rfl ?_
    refine lv_iload_n S.1 S.2.1 d_D_init_77 rfl (lv_at hl 0 rfl) ?_
    refine lv_iload_n S.1 S.2.1 d_D_init_78 rfl (lv_at hl 1 rfl) ?_
    refine lv_aload_n S.1 S.2.1 d_D_init_79 rfl (lv_at hl 2 rfl) ?_
    refine zr_get (C := N_D) (T := FT_D) (N := 5) S (fun w h => zwT (zi_D w h)) hK hV1 (k00 i) rfl rfl 0 (by decide) (zwi 32 rfl) (v := .int (nI n)) rfl d_D_init_80 ?_
    refine lv_irem S.1 S.2.1 d_D_init_83 hn0 ?_
    refine zr_top dv2 ?_
    refine lv_aload_n S.1 S.2.1 d_D_init_84 rfl (lv_at hl 2 rfl) ?_
    refine zr_get (C := N_D) (T := FT_D) (N := 5) S (fun w h => zwT (zi_D w h)) hK hV1 (k00 i) rfl rfl 1 (by decide) (zwi 33 rfl) (v := .ref (ad (1, 0))) rfl d_D_init_85 ?_
    refine lv_iload_n S.1 S.2.1 d_D_init_88 rfl (lv_at hl 0 rfl) ?_
    refine zr_aald S hK hV1 (k10 i) rfl 3 rfl rfl (b := ad (6, i / n)) (zo_in hdn (by omega)) (by rw [zo_c (by omega)]) d_D_init_89 ?_
    have k6 : (((6 : Nat), i / n) : zK) ∈ zJ n i := zJ_mem.mpr (Or.inl (zJ0_mem.mpr (Or.inr (Or.inr (Or.inr ⟨_, hdn, rfl⟩)))))
    refine zi_callI (A1 := zAn q H1.size) (As := [.int (nI (i / n)), .int (nI (i % n)), .ref (ad (6, i / n))]) (a := q) (rest := [.ref q, .int (nI i), .ref (ad (2, 0))]) S S.2.2.2.2 (C_R_init (dC := dC) (dI := dI) (cI := cI) (cZ := cZ) (cR := cR) (cA := cA) l q (ad (6, i / n)) H1.size n hn.2 (nI (i / n)) (nI (i % n)) (fun _ => 0)) zN_R rfl (zwi 16 rfl) (S.2.2.2.2 _ (zwi 15 rfl)) ⟨rfl, rfl⟩ ⟨Nat.le_of_ble_eq_true rfl, Nat.le_of_ble_eq_true rfl⟩ ⟨by show 8 + 3 * i + 1 + 2 ≤ 119; omega, by show 78 + 23 * i + 11 + 12 ≤ 1937; omega⟩ hKq ⟨⟨rfl, (hW1 _ k6).lt, (hne _ k6).symm⟩, hq, hW1 _ k6⟩ hl.1 (Nat.le_of_ble_eq_true rfl) hS1 (fun a ha => ?_) d_D_init_90 rfl (fun H2 locs2 hp hsz2 hk2 hS2 => ?_)
    · rcases ha with rfl | ha
      · exact hAq
      · exact Or.inr (Nat.le_trans hS1.1 ha)
    obtain ⟨q1, q2, g1, g2, g3, v0, v1, v2⟩ := hp
    have hlt1 : ∀ j, j ∈ zJ n i → ad j < H1.size := fun j hj => (hW1 j hj).lt
    have hqlt : q < H1.size := hq.lt
    have hDi2 : zDi (zAn h0 s.heap.size) (zJ n (i + 1)) (zJa ad i q q1 q2) := zJ_di hDi hne (fun j hj e => by have := hlt1 j hj; omega) (fun j hj e => by have := hlt1 j hj; omega) (fun e => by omega) (fun e => by omega) g3 hAq (Or.inr (Nat.le_trans hS1.1 g1)) (Or.inr (Nat.le_trans hS1.1 g2))
    have mem : ∀ j, j ∈ zJ n (i + 1) → j ∈ zJ n i ∨ j = (7, i) ∨ j = (8, i) ∨ j = (9, i) := fun j hj => by
      rcases List.mem_append.mp (show j ∈ zJ n i ++ [(7, i), (8, i), (9, i)] from hj) with h | h
      · exact Or.inl h
      · simp only [List.mem_cons, List.not_mem_nil, or_false] at h
        exact Or.inr h
    have hW2 : ∀ j, j ∈ zJ n (i + 1) → va_at (dC, dI) zcl (zJa ad i q q1 q2 j, zJc n cI cZ cR cA i .null (zJa ad i q q1 q2) j) H2 := fun j hj => by
      rcases mem j hj with k | rfl | rfl | rfl
      · rw [zJa_o k, zJc_o k]
        refine (hW1 j k).kept (hk2 _ (hlt1 j k) (fun ha => ?_))
        rcases ha with ha | ha
        · exact hne j k ha
        · exact absurd (hlt1 j k) (by show ¬ ad j < H1.size; have ha : H1.size ≤ ad j := ha; omega)
      · rw [zJa_7]
        have e7 : zJc n cI cZ cR cA i .null (zJa ad i q q1 q2) (7, i) = .inr (1, [.int (nI (i / n)), .int (nI (i % n)), .ref (ad (6, i / n)), .ref q1, .ref q2, .int (zRd (nI (i / n)) (nI (i % n))), .int (zRd (nI (i / n)) (nI (i % n))), .int (-1), .int 0, .int 0, .int 0]) := by
          simp only [zJc, zJa_8, zJa_9]
          rw [zJa_lo (Or.inl (by decide))]
        rw [e7]; exact v0
      · rw [zJa_8]; exact v1
      · rw [zJa_9]; exact v2
    obtain ⟨q0, hq0, ha⟩ := zW_at (ks := zJ n (i + 1)) (ad := zJa ad i q q1 q2) (ct := zJc n cI cZ cR cA i .null (zJa ad i q q1 q2)) (k20 (i + 1))
    obtain ⟨qk, -, hk7⟩ := zW_at (ks := zJ n (i + 1)) (ad := zJa ad i q q1 q2) (ct := zJc n cI cZ cR cA i .null (zJa ad i q q1 q2)) (k := (7, i)) (zJ_mem.mpr (Or.inr ⟨i, by omega, Or.inl rfl⟩))
    rw [zJa_7] at hk7
    have h20 : zJa ad i q q1 q2 (2, 0) = ad (2, 0) := zJa_lo (Or.inl (by decide))
    have h00 : zJa ad i q q1 q2 (0, 0) = h0 := (zJa_lo (Or.inl (by decide))).trans had
    rw [← h20]
    refine va_astq (r := (N_R, FT_R, 11)) (f := fun t => if t < i then some (zJa ad i q q1 q2 (7, t)) else none) S.1 S.2.1 hK (zW_pt.mpr hW2) (zD_mk (zJ_nd _) hDi2 _) hS2 q0 2 qk 1 ha rfl hk7 rfl (zo_in hlt (by omega)) d_D_init_93 (fun H3 locs3 hP3 hD3 hS3 => ?_)
    rw [zo_c (by omega)] at hP3
    rw [zW_set (ct' := zJc n cI cZ cR cA (i + 1) .null (zJa ad i q q1 q2)) (zD_mk (zJ_nd _) hDi2 _) hq0 (by
      simp only [zJc]
      rw [show (fun t => if t < i + 1 then some (zJa ad i q q1 q2 (7, t)) else none) = va_up (fun t => if t < i then some (zJa ad i q q1 q2 (7, t)) else none) i (some q) from funext fun t => by
        unfold va_up
        by_cases c : t = i
        · subst c
          rw [if_pos (by omega), if_pos rfl, zJa_7]
        · rw [if_neg c]
          by_cases c2 : t < i
          · rw [if_pos (by omega)]; exact (if_pos c2).symm
          · rw [if_neg (by omega)]; exact (if_neg c2).symm]) (fun k hk hne => by
      obtain ⟨k1, k2⟩ := k
      match k1 with
      | 0 => rfl
      | 1 => rfl
      | 2 =>
        rcases mem _ hk with h | h | h | h
        · rcases zJ_mem.mp h with h | ⟨t, ht, h⟩
          · rcases zJ0_mem.mp h with h | h | h | ⟨r, _, h⟩
            · injection h with h1 h2; exact absurd h1 (by decide)
            · injection h with h1 h2; exact absurd h1 (by decide)
            · exact absurd h hne
            · injection h with h1 h2; exact absurd h1 (by decide)
          · rcases h with h | h | h <;> injection h with h1 h2 <;> exact absurd h1 (by decide)
        · injection h with h1 h2; exact absurd h1 (by decide)
        · injection h with h1 h2; exact absurd h1 (by decide)
        · injection h with h1 h2; exact absurd h1 (by decide)
      | 3 => rfl
      | 4 => rfl
      | 5 => rfl
      | 6 => rfl
      | 7 => rfl
      | 8 => rfl
      | k + 9 => rfl)] at hP3
    refine lv_iinc (k := 1) (v := nI (i + 1)) S.1 S.2.1 d_D_init_94 hl rfl (nI_succ i).symm (by decide) rfl (fun ls hl => ?_)
    refine lv_goto (tgt := 52) S.1 S.2.1 d_D_init_97 (by decide) ?_
    have hl2 := lv_sub hl [0, 2, 3] rfl
    rw [had] at hl2
    refine W.widen (k := 8 + 3 * (i + 1)) (n := 78 + 23 * (i + 1)) (by omega) (by omega) ?_
    exact ih (i + 1) (by omega) ls H3 locs3 (zJa ad i q q1 q2) h00 hDi2 (zW_pt.mp hP3) hS3 hl2
end CE
