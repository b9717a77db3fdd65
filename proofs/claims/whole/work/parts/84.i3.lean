/-! The invariant kept by every call; both sides step alike. -/
def zGd (n : Nat) (C : Nat → Nat → Int32) (M : zM) (lk : Int32) : Prop := zCc n C ∧ zIv n (fun a _ => C a) C M ∧ M.2.2.length ≤ 421 ∧ lk = nI (zLc C 36 / 2)
def zG1 (C : Nat → Nat → Int32) (k : Nat) : Nat := if 0 < C (k / 6) (k % 6) then 1 else 0
theorem zLc_bz (C : Nat → Nat → Int32) : ∀ i, zLc C i = zBz (zG1 C) i
  | 0 => rfl
  | i + 1 => by
    show (if 0 < C (i / 6) (i % 6) then zLc C i + 1 else zLc C i) = zBz (zG1 C) i + zG1 C i
    rw [zLc_bz C i]
    unfold zG1
    by_cases c : 0 < C (i / 6) (i % 6)
    · rw [if_pos c, if_pos c]
    · rw [if_neg c, if_neg c]; rfl
theorem zBz_up (g : Nat → Nat) (k v : Nat) : ∀ m, (k < m → zBz (va_up g k v) m + g k = zBz g m + v) ∧ (m ≤ k → zBz (va_up g k v) m = zBz g m)
  | 0 => ⟨fun h => by omega, fun _ => rfl⟩
  | m + 1 => by
    obtain ⟨h1, h2⟩ := zBz_up g k v m
    have e1 : zBz (va_up g k v) (m + 1) = zBz (va_up g k v) m + va_up g k v m := rfl
    have e2 : zBz g (m + 1) = zBz g m + g m := rfl
    refine ⟨fun h => ?_, fun h => ?_⟩
    · by_cases e : m = k
      · subst e
        have := h2 (Nat.le_refl _)
        rw [e1, e2, zUp_s]; omega
      · have := h1 (by omega)
        rw [e1, e2, zUp_n _ _ e]; omega
    · have := h2 (by omega)
      rw [e1, e2, zUp_n _ _ (by omega), this]
theorem zLc_cu (C : Nat → Nat → Int32) {a b : Nat} (ha : a < 6) (hb : b < 6) (c : Int32) : zLc (zCu C a b c) 36 + (if 0 < C a b then 1 else 0) = zLc C 36 + (if 0 < c then 1 else 0) := by
  rw [zLc_bz, zLc_bz]
  have e : zBz (zG1 (zCu C a b c)) 36 = zBz (va_up (zG1 C) (6 * a + b) (if 0 < c then 1 else 0)) 36 := zBz_congr 36 (fun k hk => by
    by_cases e : k = 6 * a + b
    · subst e
      have e6 := z6 (r := a) (t := b) hb
      rw [zUp_s]
      unfold zG1 zCu
      rw [e6.1, e6.2, if_pos (show a = a ∧ b = b from ⟨rfl, rfl⟩)]
    · rw [zUp_n _ _ e]
      unfold zG1 zCu
      rw [if_neg (show ¬ (k / 6 = a ∧ k % 6 = b) by omega)])
  have h := (zBz_up (zG1 C) (6 * a + b) (if 0 < c then 1 else 0) 36).1 (by omega)
  have e2 : zG1 C (6 * a + b) = if 0 < C a b then 1 else 0 := by
    have e6 := z6 (r := a) (t := b) hb
    unfold zG1
    rw [e6.1, e6.2]
  rw [e, ← e2]; exact h
theorem zC2_at (C : Nat → Nat → Int32) (a b : Nat) (c : Int32) (i j : Nat) : zC2 C a b c i j = if (i = a ∧ j = b) ∨ (i = b ∧ j = a) then c else C i j := by
  unfold zC2 zCu
  by_cases h1 : i = b ∧ j = a
  · rw [if_pos h1, if_pos (Or.inr h1)]
  · rw [if_neg h1]
    by_cases h2 : i = a ∧ j = b
    · rw [if_pos h2, if_pos (Or.inl h2)]
    · rw [if_neg h2, if_neg (fun h => h.elim h2 h1)]
section ZI
variable {n : Nat} {C : Nat → Nat → Int32} {M : zM} {lk : Int32} {sc sm : zS}
theorem zLc_c2 (hC : zCc n C) {a b : Nat} (ha : a < 6) (hb : b < 6) (hab : a ≠ b) (c : Int32) : zLc (zC2 C a b c) 36 + (if 0 < C a b then 2 else 0) = zLc C 36 + (if 0 < c then 2 else 0) := by
  have h1 := zLc_cu C ha hb c
  have h2 := zLc_cu (zCu C a b c) hb ha c
  have e : zCu C a b c b a = C a b := by
    unfold zCu
    rw [if_neg (fun h => hab h.2), hC.2.1 b a hb ha]
  rw [e] at h2
  by_cases c1 : 0 < C a b
  · rw [if_pos c1] at h1 h2 ⊢
    by_cases c2 : 0 < c
    · rw [if_pos c2] at h1 h2 ⊢; show zLc (zCu (zCu C a b c) b a c) 36 + 2 = _; omega
    · rw [if_neg c2] at h1 h2 ⊢; show zLc (zCu (zCu C a b c) b a c) 36 + 2 = _; omega
  · rw [if_neg c1] at h1 h2 ⊢
    by_cases c2 : 0 < c
    · rw [if_pos c2] at h1 h2 ⊢; show zLc (zCu (zCu C a b c) b a c) 36 + 0 = _; omega
    · rw [if_neg c2] at h1 h2 ⊢; show zLc (zCu (zCu C a b c) b a c) 36 + 0 = _; omega
theorem zCc_c2 (hn : n ≤ 6) (hC : zCc n C) {a b c0 : Nat} (ha : a < n) (hb : b < n) (hab : a ≠ b) (hc : c0 ≤ 100) : zCc n (zC2 C a b (nI c0)) := by
  obtain ⟨h1, h2, h3, h4⟩ := hC
  refine ⟨fun i j hi hj => ?_, fun i j hi hj => ?_, fun i hi => ?_, fun i j hi hj hno => ?_⟩
  · rw [zC2_at]
    by_cases e : (i = a ∧ j = b) ∨ (i = b ∧ j = a)
    · rw [if_pos e]; exact ⟨c0, hc, rfl⟩
    · rw [if_neg e]; exact h1 i j hi hj
  · rw [zC2_at, zC2_at]
    by_cases e : (i = a ∧ j = b) ∨ (i = b ∧ j = a)
    · rw [if_pos e, if_pos (e.elim (fun h => Or.inr ⟨h.2, h.1⟩) (fun h => Or.inl ⟨h.2, h.1⟩))]
    · rw [if_neg e, if_neg (fun h => e (h.elim (fun h => Or.inr ⟨h.2, h.1⟩) (fun h => Or.inl ⟨h.2, h.1⟩)))]; exact h2 i j hi hj
  · rw [zC2_at, if_neg (by omega)]; exact h3 i hi
  · rw [zC2_at, if_neg (by omega)]; exact h4 i j hi hj hno
theorem zLoHi {a b : Nat} (hab : a ≠ b) : (zLo a b = a ∧ zHi a b = b) ∨ (zLo a b = b ∧ zHi a b = a) := by
  unfold zLo zHi
  by_cases h : b < a
  · rw [if_pos h, if_neg (by omega)]; exact Or.inr ⟨rfl, rfl⟩
  · rw [if_neg h, if_pos (by omega)]; exact Or.inl ⟨rfl, rfl⟩
theorem zGd_con (hn : n ≤ 6) (h : zGd n C M lk) {a b c0 : Nat} (ha : a < n) (hb : b < n) (hab : a ≠ b) (h1 : 1 ≤ c0) (h2 : c0 ≤ 100) (hL : M.2.2.length ≤ 100) : zGd n (zC2 C a b (nI c0)) (zCo C n a b (nI c0) M) (if C a b = 0 then lk + 1 else lk) := by
  obtain ⟨hC, hI, -, hlk⟩ := h
  have hC' := zCc_c2 hn hC ha hb hab h2
  have hc0 : 0 < nI c0 := (nI_ltI (a := 0) (b := c0) (by omega) (by omega)).mpr h1
  have mono : ∀ r j, 0 < C r j → 0 < zC2 C a b (nI c0) r j := fun r j hp => by
    rw [zC2_at]
    by_cases e : (r = a ∧ j = b) ∨ (r = b ∧ j = a)
    · rw [if_pos e]; exact hc0
    · rw [if_neg e]; exact hp
  have hI' : zIv n (fun r _ => zC2 C a b (nI c0) r) (zC2 C a b (nI c0)) M := zIv_C (zIv_K hI (fun r _ _ _ _ j _ hp => mono r j hp)) (fun x _ _ hp => mono _ _ hp)
  have hlo := zLo_lt ha hb
  have hhi := zHi_lt ha hb
  have hab' : 0 < zC2 C a b (nI c0) (zLo a b) (zHi a b) ∧ 0 < zC2 C a b (nI c0) (zHi a b) (zLo a b) := by
    rw [zC2_at, zC2_at]
    rcases zLoHi hab with e | e
    · rw [e.1, e.2, if_pos (Or.inl ⟨rfl, rfl⟩), if_pos (Or.inr ⟨rfl, rfl⟩)]; exact ⟨hc0, hc0⟩
    · rw [e.1, e.2, if_pos (Or.inr ⟨rfl, rfl⟩), if_pos (Or.inl ⟨rfl, rfl⟩)]; exact ⟨hc0, hc0⟩
  have hl := zLc_c2 hC (show a < 6 by omega) (show b < 6 by omega) hab (nI c0)
  rw [if_pos hc0] at hl
  unfold zCo
  refine ⟨hC', ?_, ?_, ?_⟩
  · by_cases c : C a b = 0
    · rw [if_pos c]
      refine zIt_iv (fun i M hi h => zGrS_iv hn h hhi hlo hi hab'.2) ?_ n (Nat.le_refl _)
      exact zIt_iv (fun i M hi h => zGrS_iv hn h hlo hhi hi hab'.1) hI' n (Nat.le_refl _)
    · rw [if_neg c]
      refine zIt_iv (fun i M hi h => zWgS_iv hn hC' h hhi hi) ?_ n (Nat.le_refl _)
      exact zIt_iv (fun i M hi h => zWgS_iv hn hC' h hlo hi) hI' n (Nat.le_refl _)
  · have hd : 3 * (n + 1) * n ≤ 126 := by
      have : 3 * (n + 1) ≤ 21 := by omega
      calc 3 * (n + 1) * n ≤ 21 * 6 := Nat.mul_le_mul this hn
        _ = 126 := rfl
    by_cases c : C a b = 0
    · rw [if_pos c]
      have l1 := zIt_len (fun i M => zGrS_len (zLo a b) (zHi a b) i M) M n
      have l2 := zIt_len (fun i M => zGrS_len (zHi a b) (zLo a b) i M) (zIt (zGrS (zLo a b) (zHi a b)) n M) n
      omega
    · rw [if_neg c]
      have l1 := zIt_len (fun i M => zWgS_len (zC2 C a b (nI c0)) n (zLo a b) (zHi a b) i M) M n
      have l2 := zIt_len (fun i M => zWgS_len (zC2 C a b (nI c0)) n (zHi a b) (zLo a b) i M) (zIt (zWgS (zC2 C a b (nI c0)) n (zLo a b) (zHi a b)) n M) n
      omega
  · by_cases c : C a b = 0
    · rw [if_pos c, hlk, nI_1]
      rw [if_neg (by rw [c]; decide)] at hl
      congr 1
      omega
    · rw [if_neg c, hlk]
      rw [if_pos (zCok_0 (hC.ok hn ha) hb c)] at hl
      congr 1
      omega
theorem zGd_cut (hn : n ≤ 6) (h : zGd n C M lk) {a b : Nat} (ha : a < n) (hb : b < n) (hab : a ≠ b) (hc : 0 < C a b) (hL : M.2.2.length ≤ 100) : zGd n (zC2 C a b 0) (zCt C n a b M) (lk - 1) := by
  obtain ⟨hC, hI, -, hlk⟩ := h
  have hC' : zCc n (zC2 C a b 0) := zCc_c2 (c0 := 0) hn hC ha hb hab (by omega)
  have hlo := zLo_lt ha hb
  have hhi := zHi_lt ha hb
  have hl := zLc_c2 hC (show a < 6 by omega) (show b < 6 by omega) hab 0
  rw [if_pos hc, if_neg (by decide)] at hl
  have hf : ∀ x ∈ zL2 M.2.2 a b, x ∈ M.2.2 ∧ ¬ ((x.1 = a ∧ x.2.1 = b) ∨ (x.1 = b ∧ x.2.1 = a)) := fun x hx => by
    have h1 := List.mem_filter.mp hx
    have h2 := List.mem_filter.mp h1.1
    refine ⟨h2.1, fun h => ?_⟩
    have e1 := h1.2
    have e2 := h2.2
    simp [zFT] at e1 e2
    rcases h with h | h
    · exact e2.elim (fun g => g h.1) (fun g => g h.2)
    · exact e1.elim (fun g => g h.1) (fun g => g h.2)
  have keep : ∀ r j, ¬ ((r = a ∧ j = b) ∨ (r = b ∧ j = a)) → 0 < C r j → 0 < zC2 C a b 0 r j := fun r j e hp => by
    rw [zC2_at, if_neg e]; exact hp
  have hI1 : zIv n (fun r _ => C r) (zC2 C a b 0) (M.1, M.2.1, zL2 M.2.2 a b) := zIv_C (zIv_sub hI (fun x hx => (hf x hx).1)) (fun x hx _ hp => keep _ _ (hf x hx).2 hp)
  have lh := zLoHi hab
  have hI2 := zLoIt_iv hn hC' hI1 hlo hhi (fun i _ _ j _ hjo hp => keep _ _ (by omega) hp) n (Nat.le_refl _)
  have hI3 := zLoIt_iv hn hC' hI2 hhi hlo (fun i hi _ j _ hjo hp => by
    have hp : 0 < (if zHi a b = zLo a b ∧ i < n then zC2 C a b 0 (zLo a b) else C (zHi a b)) j := hp
    rw [if_neg (by omega)] at hp
    exact keep _ _ (by omega) hp) n (Nat.le_refl _)
  unfold zCt
  refine ⟨hC', ?_, ?_, ?_⟩
  · refine zIv_K hI3 (fun r t hr ht _ j hj hp => ?_)
    have hp : 0 < (if r = zHi a b ∧ t < n then zC2 C a b 0 (zHi a b) else if r = zLo a b ∧ t < n then zC2 C a b 0 (zLo a b) else C r) j := hp
    show 0 < zC2 C a b 0 r j
    by_cases c1 : r = zHi a b ∧ t < n
    · rw [if_pos c1] at hp; rw [c1.1]; exact hp
    · rw [if_neg c1] at hp
      by_cases c2 : r = zLo a b ∧ t < n
      · rw [if_pos c2] at hp; rw [c2.1]; exact hp
      · rw [if_neg c2] at hp
        exact keep _ _ (by omega) hp
  · have hd : 3 * (n + 1) * n ≤ 126 := by
      have : 3 * (n + 1) ≤ 21 := by omega
      calc 3 * (n + 1) * n ≤ 21 * 6 := Nat.mul_le_mul this hn
        _ = 126 := rfl
    have f1 := List.length_filter_le (fun x => !zFT a b x) M.2.2
    have f2 := List.length_filter_le (fun x => !zFT b a x) (M.2.2.filter (fun x => !zFT a b x))
    have f3 : (zL2 M.2.2 a b).length ≤ M.2.2.length := Nat.le_trans f2 f1
    have l1 := zIt_len (fun i M => zLoS_len (zC2 C a b 0) n (zLo a b) (zHi a b) i M) (M.1, M.2.1, zL2 M.2.2 a b) n
    have l1 : _ ≤ (zL2 M.2.2 a b).length + 3 * (n + 1) * n := l1
    have l2 := zIt_len (fun i M => zLoS_len (zC2 C a b 0) n (zHi a b) (zLo a b) i M) (zIt (zLoS (zC2 C a b 0) n (zLo a b) (zHi a b)) n (M.1, M.2.1, zL2 M.2.2 a b)) n
    omega
  · rw [hlk]
    have e : nI (zLc C 36 / 2) - 1 = nI (zLc C 36 / 2 - 1) := pk_sub (a := zLc C 36 / 2) (b := 1) (by omega)
    rw [e]
    congr 1
    omega
def zSt (n : Nat) (C : Nat → Nat → Int32) (M : zM) (lk : Int32) (sc sm : zS) : Prop := zGd n C M lk ∧ zRC n C M.1 M.2.1 M.2.2 lk sc ∧ zRM C M.1 M.2.1 M.2.2 sm
def zPr (n : Nat) (sc sm : zS) : Prop := ∃ C M lk, zSt n C M lk sc sm
/-- both sides answer alike, and belong together afterwards -/
def zBo (n : Nat) (f g : Option (Int32 × zS)) : Prop := ∃ o sc sm, f = some (o, sc) ∧ g = some (o, sm) ∧ zPr n sc sm
theorem zBo_ans {f g : Option (Int32 × zS)} (hp : zPr n sc sm) (h : zAns f g sc sm) : zBo n f g := by
  obtain ⟨o, h1, h2⟩ := h
  exact ⟨o, sc, sm, h1, h2, hp⟩
theorem zGd_jx (h : zGd n C M lk) : zJx n M.1 := fun k h1 h2 => by
  have e : 6 * (k / 6) + k % 6 = k := by omega
  rw [← e]
  by_cases c : k / 6 = k % 6
  · have := (h.2.1.1 (k / 6) h1).2.1
    rw [← c]; exact this
  · exact zNe_ix (h.2.1.2.1 _ _ h1 h2 c).1.nx
theorem zGd_qw (h : zGd n C M lk) : ∀ k, k / 6 < n → k % 6 < n → zQw n (C (k / 6)) (M.1 k) := fun k h1 h2 => by
  have e : 6 * (k / 6) + k % 6 = k := by omega
  by_cases c : k / 6 = k % 6
  · have := (h.2.1.1 (k / 6) h1).2.2.2
    rw [show 6 * (k / 6) + k / 6 = k by omega] at this
    exact fun j hj _ => this j hj
  · have := (h.2.1.2.1 _ _ h1 h2 c).1.w
    rw [e] at this
    exact this
theorem zGd_ln (h : zGd n C M lk) : ∀ x ∈ M.2.2, zLn n x := fun x hx => (h.2.1.2.2.2 x hx).1
theorem zGd_cr (hn : n ≤ 6) (h : zGd n C M lk) : ∀ r, r < n → ∀ j, j < n → ¬ C r j < 0 := fun r hr j hj => zCok_nn (h.1.ok hn hr) hj
theorem zGd_d (h : zGd n C M lk) : ∀ k, k / 6 < n → k % 6 < n → M.1 k 0 ≤ 10000 := fun k h1 h2 => by
  have e : 6 * (k / 6) + k % 6 = k := by omega
  have := zDok_le (zIv_dok h.2.1 h1 h2)
  rw [e] at this
  exact this
theorem s_con (hn : 2 ≤ n ∧ n ≤ 6) (h : zPr n sc sm) (v1 v2 v3 : Int32) : zBo n (F_D_connect n v1 v2 v3 sc) (F_M_connect n v1 v2 v3 sm) := by
  obtain ⟨C, M, lk, hG, hR, hM⟩ := id h
  by_cases hno : ¬ zIsR n v1 ∨ ¬ zIsR n v2 ∨ v1 = v2 ∨ v3 < 1 ∨ ¬ v3 ≤ 100
  · exact zBo_ans h ⟨-1, f_con_no hno, m_con_no hno⟩
  · have i1 : zIsR n v1 := Classical.byContradiction (fun c => hno (Or.inl c))
    have i2 : zIsR n v2 := Classical.byContradiction (fun c => hno (Or.inr (Or.inl c)))
    have i3 : ¬ v1 = v2 := fun c => hno (Or.inr (Or.inr (Or.inl c)))
    have i4 : ¬ v3 < 1 := fun c => hno (Or.inr (Or.inr (Or.inr (Or.inl c))))
    have i5 : v3 ≤ 100 := Classical.byContradiction (fun c => hno (Or.inr (Or.inr (Or.inr (Or.inr c)))))
    obtain ⟨a, ha, rfl⟩ := zIsR_nI hn.2 i1
    obtain ⟨b, hb, rfl⟩ := zIsR_nI hn.2 i2
    have hab : a ≠ b := fun e => i3 (by rw [e])
    have hl := hG.2.2.1
    by_cases hL : M.2.2.length ≤ 100
    · obtain ⟨c0, hc0, rfl⟩ : ∃ c0 : Nat, c0 ≤ 100 ∧ v3 = nI c0 := by
        rcases pk_ix v3 (n := 101) (by decide) with q | q | ⟨j, hj, q⟩
        · exact absurd (Int32.lt_trans q (by decide)) i4
        · exact absurd (Int32.le_trans q i5) (by decide)
        · exact ⟨j, by omega, q⟩
      have hc1 : 1 ≤ c0 := by
        rcases Nat.eq_zero_or_pos c0 with e | e
        · subst e; exact absurd (show nI 0 < 1 by decide) i4
        · exact e
      have hG' := zGd_con hn.2 hG ha hb hab hc1 hc0 hL
      obtain ⟨s1, e1, r1⟩ := f_con hn.2 hR (zGd_jx hG) ha hb hab i4 i5 hL
      have hI' := zIv_K (K' := fun r _ => zC2 C a b (nI c0) r) hG.2.1 (fun r t _ _ _ j _ hp => by
        show 0 < zC2 C a b (nI c0) r j
        rw [zC2_at]
        by_cases e : (r = a ∧ j = b) ∨ (r = b ∧ j = a)
        · rw [if_pos e]; exact (nI_ltI (a := 0) (b := c0) (by omega) (by omega)).mpr hc1
        · rw [if_neg e]; exact hp)
      obtain ⟨s2, e2, r2⟩ := m_con hn.2 (by omega) hM ha hb hab i4 i5 hL (zGd_cr hn.2 hG a ha b hb) (zGd_cr hn.2 hG') (zGd_d hG) (fun r hr j hj hne => ⟨zNe_ix (hI'.2.1 r j hr hj hne).1.nx, (hI'.2.1 r j hr hj hne).1.w, (hI'.2.1 r j hr hj hne).2⟩)
      rw [← hG'.2.2.2] at e2
      exact ⟨_, s1, s2, e1, e2, _, _, _, hG', r1, r2⟩
    · exact zBo_ans h ⟨-2, f_con_full hn.2 hR ha hb hab i4 i5 (by omega) (by omega), m_con_full hn.2 hM ha hb hab i4 i5 (by omega) (by omega)⟩
theorem s_cut (hn : 2 ≤ n ∧ n ≤ 6) (h : zPr n sc sm) (v1 v2 : Int32) : zBo n (F_D_cut n v1 v2 sc) (F_M_cut n v1 v2 sm) := by
  obtain ⟨C, M, lk, hG, hR, hM⟩ := id h
  have hl := hG.2.2.1
  by_cases hr : zIsR n v1 ∧ zIsR n v2
  · obtain ⟨a, ha, rfl⟩ := zIsR_nI hn.2 hr.1
    obtain ⟨b, hb, rfl⟩ := zIsR_nI hn.2 hr.2
    by_cases hc : 0 < C a b
    · have hab : a ≠ b := fun e => by
        subst e
        rw [hG.1.2.2.1 a (by omega)] at hc
        exact absurd hc (by decide)
      by_cases hL : M.2.2.length ≤ 100
      · have hG' := zGd_cut hn.2 hG ha hb hab hc hL
        have hlo := zLo_lt ha hb
        have hhi := zHi_lt ha hb
        have lh := zLoHi hab
        have keep : ∀ r j, ¬ ((r = a ∧ j = b) ∨ (r = b ∧ j = a)) → 0 < C r j → 0 < zC2 C a b 0 r j := fun r j e hp => by
          rw [zC2_at, if_neg e]; exact hp
        obtain ⟨s1, e1, r1⟩ := f_cut hn.2 hR (zGd_jx hG) (fun x hx => (zGd_ln hG x hx).ok hn.2) ha hb hc hL
        obtain ⟨s2, e2, r2⟩ := m_cut hn.2 (by omega) hM (zGd_ln hG) ha hb hab hc hL (zGd_cr hn.2 hG') (fun j hj hne => by
            have q := (hG.2.1.2.1 _ j hlo hj hne).1
            exact ⟨zNe_ix q.nx, (zForget_ok (cr' := zC2 C a b 0 (zLo a b)) hn.2 q hhi (fun i _ hio hp => keep _ _ (by omega) hp)).w, q.b4, q.b5, zDok_le q.d⟩) (fun j hj hne => by
            have q := (hG.2.1.2.1 _ j hhi hj hne).1
            exact ⟨zNe_ix q.nx, (zForget_ok (cr' := zC2 C a b 0 (zHi a b)) hn.2 q hlo (fun i _ hio hp => keep _ _ (by omega) hp)).w, q.b4, q.b5, zDok_le q.d⟩)
        exact ⟨_, s1, s2, e1, e2, _, _, _, hG', r1, r2⟩
      · exact zBo_ans h ⟨-2, f_cut_full hn.2 hR ha hb hc (by omega) (by omega), m_cut_full hn.2 hM ha hb hc (by omega) (by omega)⟩
    · exact zBo_ans h ⟨-1, f_cut_no (fL_n hn.2 hR ha hb hc), m_cut_no (mL_n hn.2 hM ha hb hc)⟩
  · exact zBo_ans h ⟨-1, f_cut_no (f_isLk_no hr), m_cut_no (m_isLk_no hr)⟩
theorem zGd_br (hn : n ≤ 6) (h : zGd n C M lk) {x : zL} (hx : x ∈ M.2.2) {L : List zL} (hL : ∀ y ∈ L, y ∈ M.2.2) (hlen : L.length ≤ 400) : zGd n C (zBr C n x (M.1, M.2.1, L)) lk := by
  have hxx := h.2.1.2.2.2 x hx
  have := zBr_len (C := C) hn x (M.1, M.2.1, L)
  have : _ ≤ L.length + 21 := this
  exact ⟨h.1, zBr_iv hn h.1 (zIv_sub h.2.1 hL) hxx.1 hxx.2, by omega, h.2.2.2⟩
theorem s_del (hn : 2 ≤ n ∧ n ≤ 6) (h : zPr n sc sm) (v1 v2 : Int32) : zBo n (F_D_deliver n v1 v2 sc) (F_M_deliver n v1 v2 sm) := by
  obtain ⟨C, M, lk, hG, hR, hM⟩ := id h
  have hl := hG.2.2.1
  by_cases hr : zIsR n v1 ∧ zIsR n v2
  · obtain ⟨a, ha, rfl⟩ := zIsR_nI hn.2 hr.1
    obtain ⟨b, hb, rfl⟩ := zIsR_nI hn.2 hr.2
    by_cases hc : 0 < C a b
    · by_cases hL : M.2.2.length ≤ 400
      · cases e : zFi a b 0 M.2.2 0 0 with
        | none => exact zBo_ans h ⟨0, f_del_none hn.2 hR (zGd_ln hG) ha hb hc hL e, m_del_none hn.2 hM (zGd_ln hG) ha hb hc hL e⟩
        | some i =>
          obtain ⟨j, x, e1, e2, -, -⟩ := zFi_in a b 0 M.2.2 0 0 i e
          rw [Nat.zero_add] at e1
          subst e1
          obtain ⟨s1, f1, r1⟩ := f_del_some hn.2 hR (zGd_jx hG) (zGd_ln hG) ha hb hc hL e e2
          obtain ⟨s2, f2, r2⟩ := m_del_some hn.2 (by omega) hM (zGd_cr hn.2 hG) (zGd_jx hG) (zGd_qw hG) (zGd_ln hG) ha hb hc hL e e2
          have hle : (M.2.2.eraseIdx i).length ≤ M.2.2.length := List.length_eraseIdx_le _ _
          exact ⟨_, s1, s2, f1, f2, _, _, _, zGd_br hn.2 hG (List.mem_of_getElem? e2) (fun y hy => List.mem_of_mem_eraseIdx hy) (by omega), r1, r2⟩
      · exact zBo_ans h ⟨-2, f_del_full hn.2 hR ha hb hc (by omega) (by omega), m_del_full hn.2 hM ha hb hc (by omega) (by omega)⟩
    · exact zBo_ans h ⟨-1, f_del_no (fL_n hn.2 hR ha hb hc), m_del_no (mL_n hn.2 hM ha hb hc)⟩
  · exact zBo_ans h ⟨-1, f_del_no (f_isLk_no hr), m_del_no (m_isLk_no hr)⟩
theorem s_run (hn : 2 ≤ n ∧ n ≤ 6) (h : zPr n sc sm) (v : Int32) : zBo n (F_D_run n v sc) (F_M_run n v sm) := by
  obtain ⟨C, M, lk, hG, hR, hM⟩ := id h
  unfold F_D_run F_M_run
  rcases pk_ix v (n := 201) (by decide) with q | q | ⟨N, hN, q⟩
  · rw [if_pos q, if_pos q]; exact zBo_ans h ⟨-1, rfl, rfl⟩
  · have q1 : ¬ v < 0 := fun c => absurd (Int32.lt_of_le_of_lt q c) (by decide)
    have q2 : ¬ v ≤ 200 := fun c => absurd (Int32.le_trans q c) (by decide)
    rw [if_neg q1, if_neg q1, if_neg q2, if_neg q2]; exact zBo_ans h ⟨-1, rfl, rfl⟩
  · subst q
    have q1 : ¬ nI N < 0 := nI_pos (by omega)
    have q2 : nI N ≤ 200 := nI_le (a := N) (b := 200) (by omega) (by decide)
    rw [if_neg q1, if_neg q1, if_pos q2, if_pos q2]
    have hI2 : ∀ (M : zM) x T, zGd n C M lk → M.2.2 = x :: T → M.2.2.length ≤ 400 → zGd n C (zBr C n x (M.1, M.2.1, T)) lk := fun M x T hG e hlen => zGd_br hn.2 hG (by rw [e]; exact List.mem_cons_self) (fun y hy => by rw [e]; exact List.mem_cons_of_mem _ hy) (by rw [e] at hlen; simp only [List.length_cons] at hlen; omega)
    obtain ⟨s1, f1, r1, g1⟩ := f_run1 (lk := lk) hn.2 (fun M => zGd n C M lk) (fun M hG => ⟨zGd_jx hG, zGd_ln hG, by have := hG.2.2.1; omega⟩) hI2 N (by omega) N zFuel 0 M sc (by omega) (by unfold zFuel; omega) hG hR
    obtain ⟨s2, f2, r2⟩ := m_run1 hn.2 (by omega) (zGd_cr hn.2 hG) (fun M => zGd n C M lk) (fun M hG => ⟨zGd_jx hG, zGd_ln hG, by have := hG.2.2.1; omega, zGd_qw hG⟩) hI2 N (by omega) N zFuel 0 M sm (by omega) (by unfold zFuel; omega) hG hM
    have f1 : F_D_run_L15 n zFuel (nI N) 0 sc = _ := f1
    have f2 : F_M_run_L15 n zFuel (nI N) 0 sm = _ := f2
    exact ⟨_, s1, s2, f1, f2, _, _, _, g1, r1, r2⟩
theorem zGd_nx (hn : n ≤ 6) (h : zGd n C M lk) : zNx n C M.1 := fun r t hr ht hne => by
  rcases (h.2.1.2.1 r t hr ht hne).1.nx with e | ⟨j, hj, e, hp⟩
  · exact Or.inl e
  · exact Or.inr ⟨j, hj, e, fun c => by
      have hp : 0 < C r j := hp
      rw [c] at hp
      exact absurd hp (by decide)⟩
theorem s_cost (hn : 2 ≤ n ∧ n ≤ 6) (h : zPr n sc sm) (v w : Int32) : zBo n (F_D_cost n v w sc) (F_M_cost n v w sm) := by
  obtain ⟨C, M, lk, hG, hR, hM⟩ := id h
  exact zBo_ans h (q_cost hn.2 hR hM v w)
theorem s_dist (hn : 2 ≤ n ∧ n ≤ 6) (h : zPr n sc sm) (v w : Int32) : zBo n (F_D_distance n v w sc) (F_M_distance n v w sm) := by
  obtain ⟨C, M, lk, hG, hR, hM⟩ := id h
  exact zBo_ans h (q_dist hn.2 hR hM v w)
theorem s_limit (hn : 2 ≤ n ∧ n ≤ 6) (h : zPr n sc sm) (v w : Int32) : zBo n (F_D_limit n v w sc) (F_M_limit n v w sm) := by
  obtain ⟨C, M, lk, hG, hR, hM⟩ := id h
  exact zBo_ans h (q_limit hn.2 hR hM v w)
theorem s_next (hn : 2 ≤ n ∧ n ≤ 6) (h : zPr n sc sm) (v w : Int32) : zBo n (F_D_next n v w sc) (F_M_next n v w sm) := by
  obtain ⟨C, M, lk, hG, hR, hM⟩ := id h
  exact zBo_ans h (q_next hn.2 hR hM v w)
theorem s_state (hn : 2 ≤ n ∧ n ≤ 6) (h : zPr n sc sm) (v w : Int32) : zBo n (F_D_state n v w sc) (F_M_state n v w sm) := by
  obtain ⟨C, M, lk, hG, hR, hM⟩ := id h
  exact zBo_ans h (q_state hn.2 hR hM v w)
theorem s_told (hn : 2 ≤ n ∧ n ≤ 6) (h : zPr n sc sm) (v w x : Int32) : zBo n (F_D_told n v w x sc) (F_M_told n v w x sm) := by
  obtain ⟨C, M, lk, hG, hR, hM⟩ := id h
  exact zBo_ans h (q_told hn.2 hR hM v w x)
theorem s_waits (hn : 2 ≤ n ∧ n ≤ 6) (h : zPr n sc sm) (v w x : Int32) : zBo n (F_D_waits n v w x sc) (F_M_waits n v w x sm) := by
  obtain ⟨C, M, lk, hG, hR, hM⟩ := id h
  exact zBo_ans h (q_waits hn.2 hR hM v w x)
theorem s_flight (hn : 2 ≤ n ∧ n ≤ 6) (h : zPr n sc sm) (v w : Int32) : zBo n (F_D_flight n v w sc) (F_M_flight n v w sm) := by
  obtain ⟨C, M, lk, hG, hR, hM⟩ := id h
  exact zBo_ans h (q_flight hn.2 hR hM (zGd_ln hG) v w)
theorem s_mess (hn : 2 ≤ n ∧ n ≤ 6) (h : zPr n sc sm) (v w k u : Int32) : zBo n (F_D_message n v w k u sc) (F_M_message n v w k u sm) := by
  obtain ⟨C, M, lk, hG, hR, hM⟩ := id h
  exact zBo_ans h (q_mess hn.2 hR hM (zGd_ln hG) (fun x hx => (hG.2.1.2.2.2 x hx).2) v w k u)
theorem s_hops (hn : 2 ≤ n ∧ n ≤ 6) (h : zPr n sc sm) (v w : Int32) : zBo n (F_D_hops n v w sc) (F_M_hops n v w sm) := by
  obtain ⟨C, M, lk, hG, hR, hM⟩ := id h
  exact zBo_ans h (q_hops hn.2 hR hM (zGd_nx hn.2 hG) v w)
theorem s_total (hn : 2 ≤ n ∧ n ≤ 6) (h : zPr n sc sm) (v : Int32) : zBo n (F_D_total n v sc) (F_M_total n v sm) := by
  obtain ⟨C, M, lk, hG, hR, hM⟩ := id h
  exact zBo_ans h (q_total hn.1 hn.2 hR hM hG.2.2.2 hG.2.1.2.2.1 v)
end ZI
