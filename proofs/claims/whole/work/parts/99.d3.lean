/-! The program's constructor, whole. -/
theorem zmul : ∀ n, n < 7 → nI n * nI n = nI (n * n) := by decide +kernel
theorem zJ0_lay {D : va_G} {A : Nat → Prop} {n h0 q q3 : Nat} {cI cZ cR cA : ClassId} {r : Nat → Nat} {PL : va_W} {H : Heap} (hr : ∀ i j : Nat, i < n → j < n → r i = r j → i = j) (hm : ∀ t, t < n → ∃ k : Nat, PL[k]? = some ((r t, .inl (cI, n, .inl (fun _ => 0))) : Nat × va_E))
    (hP : va_P D zcl ((h0, .inr (0, [.int (nI n), .ref q, .ref q3, .null, .int 0])) :: (q, .inl (cA, n, zrefs (fun i => if i < n then some (r i) else none))) :: (PL ++ [(q3, .inl (cR, n * n, zrefs (fun _ => none)))])) H)
    (hD : va_D A ((h0, .inr (0, [.int (nI n), .ref q, .ref q3, .null, .int 0])) :: (q, .inl (cA, n, zrefs (fun i => if i < n then some (r i) else none))) :: (PL ++ [(q3, .inl (cR, n * n, zrefs (fun _ => none)))]))) :
    ∃ ad : zK → Nat, ad (0, 0) = h0 ∧ zDi A (zJ n 0) ad ∧ ∀ j, j ∈ zJ n 0 → va_at D zcl (ad j, zJc n cI cZ cR cA 0 .null ad j) H := by
  generalize hL : ((h0, .inr (0, [.int (nI n), .ref q, .ref q3, .null, .int 0])) :: (q, .inl (cA, n, zrefs (fun i => if i < n then some (r i) else none))) :: (PL ++ [(q3, .inl (cR, n * n, zrefs (fun _ => none)))]) : va_W) = L at hP hD
  have P0 : L[0]? = some (h0, .inr (0, [.int (nI n), .ref q, .ref q3, .null, .int 0])) := by rw [← hL]; rfl
  have P1 : L[1]? = some (q, .inl (cA, n, zrefs (fun i => if i < n then some (r i) else none))) := by rw [← hL]; rfl
  have P2 : L[PL.length + 2]? = some (q3, .inl (cR, n * n, zrefs (fun _ => none))) := by
    rw [← hL]
    show (PL ++ [(q3, (Sum.inl (cR, n * n, zrefs (fun _ => none)) : va_E))])[PL.length]? = _
    simp
  have P6 : ∀ t, t < n → ∃ k : Nat, k < PL.length ∧ L[k + 2]? = some (r t, .inl (cI, n, .inl (fun _ => 0))) := fun t ht => by
    obtain ⟨k, hk⟩ := hm t ht
    have hlt := (List.getElem?_eq_some_iff.mp hk).1
    refine ⟨k, hlt, ?_⟩
    rw [← hL]
    show (PL ++ [(q3, (Sum.inl (cR, n * n, zrefs (fun _ => none)) : va_E))])[k]? = _
    rw [List.getElem?_append_left hlt]
    exact hk
  obtain ⟨ad, had⟩ : ∃ ad : zK → Nat, ad = fun k => if k.1 = 0 then h0 else if k.1 = 1 then q else if k.1 = 2 then q3 else r k.2 := ⟨_, rfl⟩
  have a0 : ad (0, 0) = h0 := by rw [had]; rfl
  have a1 : ad (1, 0) = q := by rw [had]; rfl
  have a2 : ad (2, 0) = q3 := by rw [had]; rfl
  have a6 : ∀ t, ad (6, t) = r t := fun t => by rw [had]; rfl
  refine ⟨ad, a0, ⟨fun j1 m1 j2 m2 e => ?_, fun j m => ?_⟩, fun j m => ?_⟩
  · rcases zJ0_mem.mp m1 with rfl | rfl | rfl | ⟨t, ht, rfl⟩ <;> rcases zJ0_mem.mp m2 with rfl | rfl | rfl | ⟨u, hu, rfl⟩
    · rfl
    · rw [a0, a1] at e; exact absurd (hD.1 _ _ _ _ P0 P1 e) (by omega)
    · rw [a0, a2] at e; exact absurd (hD.1 _ _ _ _ P0 P2 e) (by omega)
    · rw [a0, a6] at e; obtain ⟨k, hk, P⟩ := P6 u hu; exact absurd (hD.1 _ _ _ _ P0 P e) (by omega)
    · rw [a1, a0] at e; exact absurd (hD.1 _ _ _ _ P1 P0 e) (by omega)
    · rfl
    · rw [a1, a2] at e; exact absurd (hD.1 _ _ _ _ P1 P2 e) (by omega)
    · rw [a1, a6] at e; obtain ⟨k, hk, P⟩ := P6 u hu; exact absurd (hD.1 _ _ _ _ P1 P e) (by omega)
    · rw [a2, a0] at e; exact absurd (hD.1 _ _ _ _ P2 P0 e) (by omega)
    · rw [a2, a1] at e; exact absurd (hD.1 _ _ _ _ P2 P1 e) (by omega)
    · rfl
    · rw [a2, a6] at e; obtain ⟨k, hk, P⟩ := P6 u hu; exact absurd (hD.1 _ _ _ _ P2 P e) (by omega)
    · rw [a0, a6] at e; obtain ⟨k, hk, P⟩ := P6 t ht; exact absurd (hD.1 _ _ _ _ P P0 e) (by omega)
    · rw [a1, a6] at e; obtain ⟨k, hk, P⟩ := P6 t ht; exact absurd (hD.1 _ _ _ _ P P1 e) (by omega)
    · rw [a2, a6] at e; obtain ⟨k, hk, P⟩ := P6 t ht; exact absurd (hD.1 _ _ _ _ P P2 e) (by omega)
    · rw [a6, a6] at e; rw [hr t u ht hu e]
  · rcases zJ0_mem.mp m with rfl | rfl | rfl | ⟨t, ht, rfl⟩
    · rw [a0]; exact hD.2 _ _ P0
    · rw [a1]; exact hD.2 _ _ P1
    · rw [a2]; exact hD.2 _ _ P2
    · rw [a6]; obtain ⟨k, hk, P⟩ := P6 t ht; exact hD.2 _ _ P
  · rcases zJ0_mem.mp m with rfl | rfl | rfl | ⟨t, ht, rfl⟩
    · have e0 : zJc n cI cZ cR cA 0 .null ad (0, 0) = .inr (0, [.int (nI n), .ref q, .ref q3, .null, .int 0]) := by simp only [zJc, a1, a2]
      rw [a0, e0]; exact hP _ _ P0
    · rw [a1]
      refine zat_q (hP _ _ P1) (fun i hi => ?_)
      rw [if_pos hi, a6]
    · rw [a2]
      exact zat_q (hP _ _ P2) (fun i hi => by rw [if_neg (by omega)])
    · rw [a6]; obtain ⟨k, hk, P⟩ := P6 t ht; exact hP _ _ P
section CF
variable {dC : Nat → ClassId} {dI : Nat → Nat → Nat} {cI cZ cR cA : ClassId}
set_option maxHeartbeats 4000000 in
set_option maxRecDepth 100000 in
theorem C_D_init (l : Launch) (h0 sz : Nat) (x : Int32) : zCi (dC, dI) (zty cI cZ cR cA) (zAn h0 sz) l y_D_init b_D_init 4 rm_D_init [.ref h0, .int x]
    (fun H => H.size = sz ∧ va_at (dC, dI) zcl (h0, .inr (0, [.int 0, .null, .null, .null, .int 0])) H)
    (zPoD dC dI cI cZ cR cA (zCl x) h0 sz) 119 1937 := by
  refine zCi_of (by decide) (Nat.le_of_ble_eq_true rfl) ?_
  intro p e s m args below meth c ls S hr hlk hin hKq hP hl
  obtain ⟨hsz, hP⟩ := hP
  have hK := hKq.1
  have hl : lv_has ls 4 [(0, .ref h0), (1, .int x)] := hl
  subst hsz
  have hn := zCl_b x
  have hA : ∀ q : Nat, s.heap.size ≤ q → zAn h0 s.heap.size q := fun q h => Or.inr h
  have hD : va_D (zAn h0 s.heap.size) [(h0, .inr (0, [.int 0, .null, .null, .null, .int 0]))] := zD_1 (Or.inl rfl)
  have hP := zP_1 hP
  have hS : va_S (zAn h0 s.heap.size) s.heap s.heap [] := va_S.rf
  refine lv_aload_n S.1 S.2.1 d_D_init_0 rfl (lv_at hl 0 rfl) ?_
  refine zi_obj S (zwi 6 rfl) hl.1 (Nat.le_of_ble_eq_true rfl) (Nat.le_of_ble_eq_true rfl) d_D_init_1 ?_
  refine lv_aload_n S.1 S.2.1 d_D_init_4 rfl (lv_at hl 0 rfl) ?_
  refine lv_iconst (v := 2) S.1 S.2.1 d_D_init_5 (by decide) ?_
  refine lv_bipush (v := 6) S.1 S.2.1 d_D_init_6 (by decide) ?_
  refine lv_iload_n S.1 S.2.1 d_D_init_8 rfl (lv_at hl 1 rfl) ?_
  refine va_mmin S.1 S.2.1 (S.2.2.1.trans hl.1.symm) S.2.2.2.1 (S.2.2.2.2 _ (zwT zx_89)) (S.2.2.2.2 _ (zwT zx_122)) (S.2.2.2.2 _ (zwT zx_53)) (S.2.2.2.2 _ (zwT zx_1)) (Nat.le_of_ble_eq_true rfl) (Nat.le_of_ble_eq_true rfl) (Nat.zero_le _) (Nat.zero_le _) d_D_init_9 ?_
  refine va_mmax S.1 S.2.1 (S.2.2.1.trans hl.1.symm) S.2.2.2.1 (S.2.2.2.2 _ (zwT zx_64)) (S.2.2.2.2 _ (zwT zx_121)) (S.2.2.2.2 _ (zwT zx_53)) (S.2.2.2.2 _ (zwT zx_0)) (Nat.le_of_ble_eq_true rfl) (Nat.le_of_ble_eq_true rfl) (Nat.zero_le _) (Nat.zero_le _) d_D_init_12 ?_
  refine zr_top (zCl_max x) ?_
  generalize zCl x = n at hn ⊢
  have hnn : n * n ≤ 36 := Nat.mul_le_mul hn.2 hn.2
  refine va_putF (D := (dC, dI)) (ci := 0) (v := .int (nI n)) (ty := .int) (C := N_D) (T := FT_D) (N := 5) S.1 S.2.1 S.2.2.2.2 (fun w h => zwT (zi_D w h)) t_D t_D_ok n_D S.2.2.2.1 hK hP hD hS 0 rfl rfl 0 (by decide) (S.2.2.2.2 _ (zwi 32 rfl)) (fun _ h9 => h9) rfl hin rfl (by decide +kernel) rfl rfl (Nat.le_of_ble_eq_true rfl) d_D_init_15 (fun H locs hP hD hS => ?_)
  have hP : va_P (dC, dI) zcl [(h0, .inr (0, [.int (nI n), .null, .null, .null, .int 0]))] H := hP
  have hD : va_D (zAn h0 s.heap.size) [(h0, .inr (0, [.int (nI n), .null, .null, .null, .int 0]))] := hD
  refine lv_aload_n S.1 S.2.1 d_D_init_18 rfl (lv_at hl 0 rfl) ?_
  refine lv_aload_n S.1 S.2.1 d_D_init_19 rfl (lv_at hl 0 rfl) ?_
  refine va_get (D := (dC, dI)) (ci := 0) (v := .int (nI n)) (C := N_D) (T := FT_D) (N := 5) S.1 S.2.1 S.2.2.2.2 (fun w h => zwT (zi_D w h)) S.2.2.2.1 hK hP 0 rfl rfl 0 (by decide) (S.2.2.2.2 _ (zwi 32 rfl)) (fun _ h9 => h9) rfl d_D_init_20 ?_
  refine lv_aload_n S.1 S.2.1 d_D_init_23 rfl (lv_at hl 0 rfl) ?_
  refine va_get (D := (dC, dI)) (ci := 0) (v := .int (nI n)) (C := N_D) (T := FT_D) (N := 5) S.1 S.2.1 S.2.2.2.2 (fun w h => zwT (zi_D w h)) S.2.2.2.1 hK hP 0 rfl rfl 0 (by decide) (S.2.2.2.2 _ (zwi 32 rfl)) (fun _ h9 => h9) rfl d_D_init_24 ?_
  refine va_mna (ty := .int) (cy := cI) (X := [(h0, .inr (0, [.int (nI n), .null, .null, .null, .int 0]))]) (L := []) (f := fun _ => .inr (0, [])) (N' := n) (K' := n) (z := (n, .inl (fun _ => 0))) S.1 S.2.1 S.2.2.2.1 (S.2.2.2.2 _ (zwi 12 rfl)) hKq.2.2.1 (S.2.2.2.2 _ (zwi 3 rfl)) (hK.2 0 (cI, .int) rfl).2 hK hP hD hS hA (nI_pos (by omega)) (nI_pos (by omega)) (nI_clamp (by omega)) (nI_clamp (by omega)) (by omega) (by show n * 4 ≤ _; omega) (by omega) rfl rfl (by show 0 + (1 + n) ≤ 119; omega) (by show 0 + (n + n * n) ≤ 1937; omega) (fun c => arrV_new c n (.int 0)) d_D_init_27 (fun q r cX H hri hrl hK2 hP hD hS => ?_)
  rw [zty_one (cX := cA) (i := 3) hK rfl hK2] at hP hD
  have hm : ∀ t, t < n → ∃ k : Nat, (va_pl ([] ++ (List.range n).map r) (vr_up (fun _ => .inr (0, [])) ((List.range n).map r) (.inl (cI, (n, .inl (fun _ => 0))))))[k]? = some ((r t, .inl (cI, n, .inl (fun _ => 0))) : Nat × va_E) := fun t ht => by
    have hmem : r t ∈ (List.range n).map r := List.mem_map.mpr ⟨t, List.mem_range.mpr ht, rfl⟩
    obtain ⟨k, hk⟩ := va_pl_get (X := []) (f := vr_up (fun _ => .inr (0, [])) ((List.range n).map r) (.inl (cI, (n, .inl (fun _ => 0))))) (L := [] ++ (List.range n).map r) (a := r t) hmem
    rw [vr_up_in hmem] at hk
    exact ⟨k, hk⟩
  generalize va_pl ([] ++ (List.range n).map r) (vr_up (fun _ => .inr (0, [])) ((List.range n).map r) (.inl (cI, (n, .inl (fun _ => 0))))) = PL at hP hD hm
  have hP : va_P (dC, dI) zcl ((h0, .inr (0, [.int (nI n), .null, .null, .null, .int 0])) :: (q, .inl (cA, n, zrefs (fun i => if i < n then some (r i) else none))) :: PL) H := hP
  refine va_putF (D := (dC, dI)) (ci := 0) (v := .ref q) (ty := .array (.array .int)) (C := N_D) (T := FT_D) (N := 5) S.1 S.2.1 S.2.2.2.2 (fun w h => zwT (zi_D w h)) t_D t_D_ok n_D S.2.2.2.1 hK hP hD hS 0 rfl rfl 1 (by decide) (S.2.2.2.2 _ (zwi 33 rfl)) (fun _ h9 => h9) rfl hin rfl (by decide +kernel) rfl rfl (Nat.le_of_ble_eq_true rfl) d_D_init_31 (fun H locs hP hD hS => ?_)
  have hP : va_P (dC, dI) zcl ((h0, .inr (0, [.int (nI n), .ref q, .null, .null, .int 0])) :: (q, .inl (cA, n, zrefs (fun i => if i < n then some (r i) else none))) :: PL) H := hP
  refine lv_aload_n S.1 S.2.1 d_D_init_34 rfl (lv_at hl 0 rfl) ?_
  refine lv_aload_n S.1 S.2.1 d_D_init_35 rfl (lv_at hl 0 rfl) ?_
  refine va_get (D := (dC, dI)) (ci := 0) (v := .int (nI n)) (C := N_D) (T := FT_D) (N := 5) S.1 S.2.1 S.2.2.2.2 (fun w h => zwT (zi_D w h)) S.2.2.2.1 hK hP 0 rfl rfl 0 (by decide) (S.2.2.2.2 _ (zwi 32 rfl)) (fun _ h9 => h9) rfl d_D_init_36 ?_
  refine lv_aload_n S.1 S.2.1 d_D_init_39 rfl (lv_at hl 0 rfl) ?_
  refine va_get (D := (dC, dI)) (ci := 0) (v := .int (nI n)) (C := N_D) (T := FT_D) (N := 5) S.1 S.2.1 S.2.2.2.2 (fun w h => zwT (zi_D w h)) S.2.2.2.1 hK hP 0 rfl rfl 0 (by decide) (S.2.2.2.2 _ (zwi 32 rfl)) (fun _ h9 => h9) rfl d_D_init_40 ?_
  refine lv_imul S.1 S.2.1 d_D_init_43 ?_
  refine zr_top (zmul n (by omega)) ?_
  refine va_newq (N' := n * n) S.1 S.2.1 S.2.2.2.1 (S.2.2.2.2 _ (zwi 13 rfl)) hKq.2.1 hK hP hD hS hA (nI_pos (by omega)) (nI_clamp (by omega)) (by omega) (by show 0 + 1 + n + 1 ≤ 119; omega) (by show 0 + n + n * n + n * n ≤ 1937; omega) d_D_init_44 (fun q3 cY H hK3 hP hD hS => ?_)
  rw [zty_one (cX := cR) (i := 2) hK rfl hK3] at hP hD
  have hP : va_P (dC, dI) zcl ((h0, .inr (0, [.int (nI n), .ref q, .null, .null, .int 0])) :: (q, .inl (cA, n, zrefs (fun i => if i < n then some (r i) else none))) :: (PL ++ [(q3, .inl (cR, n * n, zrefs (fun _ => none)))])) H := hP
  refine va_putF (D := (dC, dI)) (ci := 0) (v := .ref q3) (ty := .array (.object N_R)) (C := N_D) (T := FT_D) (N := 5) S.1 S.2.1 S.2.2.2.2 (fun w h => zwT (zi_D w h)) t_D t_D_ok n_D S.2.2.2.1 hK hP hD hS 0 rfl rfl 2 (by decide) (S.2.2.2.2 _ (zwi 34 rfl)) (fun _ h9 => h9) rfl hin rfl (by decide +kernel) rfl rfl (Nat.le_of_ble_eq_true rfl) d_D_init_47 (fun H locs hP hD hS => ?_)
  obtain ⟨ad, had, hDi, hW⟩ := zJ0_lay (cI := cI) (cZ := cZ) (cR := cR) (cA := cA) (h0 := h0) (q := q) (q3 := q3) (PL := PL) hri hm hP hD
  refine lv_iconst (v := 0) S.1 S.2.1 d_D_init_50 (by decide) ?_
  refine lv_istore_n S.1 S.2.1 d_D_init_51 rfl hl (by decide) rfl (fun ls hl => ?_)
  refine W.widen (k := 8 + 3 * 0) (n := 78 + 23 * 0) (by omega) (by omega) ?_
  exact D_loop S hr hlk hin hKq hn (n * n) 0 (by omega) ls H locs ad had hDi hW hS hl
end CF
