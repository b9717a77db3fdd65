/-! The reference: what its state stands for, and its small functions. -/
def zRM (C : Nat → Nat → Int32) (P : Nat → zR) (S : Nat → Int32) (L : List zL) (st : zS) : Prop :=
  (∀ a b, a < 6 → b < 6 → st 1 0 (6 * a + b) = C a b) ∧
  (∀ k, k < 36 → (∀ f, f < 6 → st (2 + f) 0 k = P k f) ∧ ∀ j, j < 6 → st 8 0 (36 * j + k) = P k (10 + j) ∧ st 9 0 (36 * j + k) = P k (20 + j)) ∧
  (∀ i, i < 3 → st 15 0 i = S i) ∧ L.length ≤ 1024 ∧ st 0 0 0 = nI L.length ∧
  ∀ (i : Nat) (x : zL), L[i]? = some x → st 10 0 i = nI x.1 ∧ st 11 0 i = nI x.2.1 ∧ st 12 0 i = nI x.2.2.1 ∧ st 13 0 i = nI x.2.2.2.1 ∧ st 14 0 i = x.2.2.2.2
theorem i6 (r t : Nat) : 6 * nI r + nI t = nI (6 * r + t) := by rw [show (6 : Int32) = nI 6 from rfl, pk_mul, nI_add]
theorem i36 (j r t : Nat) : 36 * nI j + 6 * nI r + nI t = nI (36 * j + (6 * r + t)) := by rw [show (6 : Int32) = nI 6 from rfl, show (36 : Int32) = nI 36 from rfl, pk_mul, pk_mul, nI_add, nI_add, Nat.add_assoc]
theorem i36' (j k : Nat) : 36 * nI j + nI k = nI (36 * j + k) := by rw [show (36 : Int32) = nI 36 from rfl, pk_mul, nI_add]
abbrev zSu (cr : Nat → Int32) (q : zR) (far : Int32) (j : Nat) : Prop := 0 < cr j ∧ q (10 + j) < q 1 ∧ zThr cr q j = far
def zSuX (cr : Nat → Int32) (q : zR) (far x : Int32) : Prop := ∃ j : Nat, j < 6 ∧ x = nI j ∧ zSu cr q far j
section ZM
variable {n r t : Nat} {C : Nat → Nat → Int32} {P : Nat → zR} {q : zR} {S : Nat → Int32} {L : List zL} {st : zS}
theorem rm_c (hR : zRM C P S L st) {a b : Nat} (ha : a < 6) (hb : b < 6) : st 1 0 (6 * a + b) = C a b := hR.1 a b ha hb
theorem rm_f {k : Nat} (hR : zRM C (va_up P k q) S L st) (hk : k < 36) {f : Nat} (hf : f < 6) : st (2 + f) 0 k = q f := by
  have h := (hR.2.1 k hk).1 f hf
  rw [zUp_s] at h
  exact h
theorem rm_t {k : Nat} (hR : zRM C (va_up P k q) S L st) (hk : k < 36) {j : Nat} (hj : j < 6) : st 8 0 (36 * j + k) = q (10 + j) := by
  have h := ((hR.2.1 k hk).2 j hj).1
  rw [zUp_s] at h
  exact h
theorem rm_w {k : Nat} (hR : zRM C (va_up P k q) S L st) (hk : k < 36) {j : Nat} (hj : j < 6) : st 9 0 (36 * j + k) = q (20 + j) := by
  have h := ((hR.2.1 k hk).2 j hj).2
  rw [zUp_s] at h
  exact h
theorem rm_pf {k : Nat} (hR : zRM C (va_up P k q) S L st) {f : Nat} (hf : f < 6) (v : Int32) : zRM C (va_up P k (va_up q f v)) S L (zs st (2 + f) 0 k v) := by
  obtain ⟨h1, h2, h3, h4, h5, h6⟩ := hR
  have ne : ∀ a, a ≠ 2 + f → ∀ j, zs st (2 + f) 0 k v a 0 j = st a 0 j := fun a h j => zs_a _ _ _ _ _ _ _ h
  refine ⟨fun a b ha hb => ?_, fun k' hk' => ?_, fun i hi => ?_, h4, ?_, fun i x hx => ?_⟩
  · rw [ne 1 (by omega)]; exact h1 a b ha hb
  · obtain ⟨g1, g2⟩ := h2 k' hk'
    by_cases hk : k' = k
    · subst hk
      rw [zUp_s] at g1 g2
      rw [zUp_s]
      refine ⟨fun f' hf' => ?_, fun j hj => ?_⟩
      · by_cases e : f' = f
        · subst e; rw [zs_same, zUp_s]
        · rw [ne (2 + f') (by omega), zUp_n _ _ e]; exact g1 f' hf'
      · rw [ne 8 (by omega), ne 9 (by omega), zUp_n _ _ (by omega), zUp_n _ _ (by omega)]; exact g2 j hj
    · rw [zUp_n _ _ hk] at g1 g2
      rw [zUp_n _ _ hk]
      refine ⟨fun f' hf' => ?_, fun j hj => ?_⟩
      · by_cases e : f' = f
        · subst e; rw [zs_idx _ _ _ _ _ hk]; exact g1 f' hf'
        · rw [ne (2 + f') (by omega)]; exact g1 f' hf'
      · rw [ne 8 (by omega), ne 9 (by omega)]; exact g2 j hj
  · rw [ne 15 (by omega)]; exact h3 i hi
  · rw [ne 0 (by omega)]; exact h5
  · rw [ne 10 (by omega), ne 11 (by omega), ne 12 (by omega), ne 13 (by omega), ne 14 (by omega)]; exact h6 i x hx
theorem rm_pt {k : Nat} (hk0 : k < 36) (hR : zRM C (va_up P k q) S L st) {j : Nat} (hj : j < 6) (v : Int32) : zRM C (va_up P k (va_up q (10 + j) v)) S L (zs st 8 0 (36 * j + k) v) := by
  obtain ⟨h1, h2, h3, h4, h5, h6⟩ := hR
  have ne : ∀ a, a ≠ 8 → ∀ i, zs st 8 0 (36 * j + k) v a 0 i = st a 0 i := fun a h i => zs_a _ _ _ _ _ _ _ h
  refine ⟨fun a b ha hb => ?_, fun k' hk' => ?_, fun i hi => ?_, h4, ?_, fun i x hx => ?_⟩
  · rw [ne 1 (by omega)]; exact h1 a b ha hb
  · obtain ⟨g1, g2⟩ := h2 k' hk'
    by_cases hk : k' = k
    · subst hk
      rw [zUp_s] at g1 g2
      rw [zUp_s]
      refine ⟨fun f' hf' => ?_, fun i hi => ?_⟩
      · rw [ne (2 + f') (by omega), zUp_n _ _ (by omega)]; exact g1 f' hf'
      · rw [ne 9 (by omega), zUp_n q v (show 20 + i ≠ 10 + j by omega)]
        refine ⟨?_, (g2 i hi).2⟩
        by_cases e : i = j
        · subst e; rw [zs_same, zUp_s]
        · rw [zs_idx _ _ _ _ _ (by omega), zUp_n _ _ (by omega)]; exact (g2 i hi).1
    · rw [zUp_n _ _ hk] at g1 g2
      rw [zUp_n _ _ hk]
      refine ⟨fun f' hf' => ?_, fun i hi => ?_⟩
      · rw [ne (2 + f') (by omega)]; exact g1 f' hf'
      · rw [ne 9 (by omega), zs_idx _ _ _ _ _ (by omega)]; exact g2 i hi
  · rw [ne 15 (by omega)]; exact h3 i hi
  · rw [ne 0 (by omega)]; exact h5
  · rw [ne 10 (by omega), ne 11 (by omega), ne 12 (by omega), ne 13 (by omega), ne 14 (by omega)]; exact h6 i x hx
theorem rm_pw {k : Nat} (hk0 : k < 36) (hR : zRM C (va_up P k q) S L st) {j : Nat} (hj : j < 6) (v : Int32) : zRM C (va_up P k (va_up q (20 + j) v)) S L (zs st 9 0 (36 * j + k) v) := by
  obtain ⟨h1, h2, h3, h4, h5, h6⟩ := hR
  have ne : ∀ a, a ≠ 9 → ∀ i, zs st 9 0 (36 * j + k) v a 0 i = st a 0 i := fun a h i => zs_a _ _ _ _ _ _ _ h
  refine ⟨fun a b ha hb => ?_, fun k' hk' => ?_, fun i hi => ?_, h4, ?_, fun i x hx => ?_⟩
  · rw [ne 1 (by omega)]; exact h1 a b ha hb
  · obtain ⟨g1, g2⟩ := h2 k' hk'
    by_cases hk : k' = k
    · subst hk
      rw [zUp_s] at g1 g2
      rw [zUp_s]
      refine ⟨fun f' hf' => ?_, fun i hi => ?_⟩
      · rw [ne (2 + f') (by omega), zUp_n _ _ (by omega)]; exact g1 f' hf'
      · rw [ne 8 (by omega), zUp_n q v (show 10 + i ≠ 20 + j by omega)]
        refine ⟨(g2 i hi).1, ?_⟩
        by_cases e : i = j
        · subst e; rw [zs_same, zUp_s]
        · rw [zs_idx _ _ _ _ _ (by omega), zUp_n _ _ (by omega)]; exact (g2 i hi).2
    · rw [zUp_n _ _ hk] at g1 g2
      rw [zUp_n _ _ hk]
      refine ⟨fun f' hf' => ?_, fun i hi => ?_⟩
      · rw [ne (2 + f') (by omega)]; exact g1 f' hf'
      · rw [ne 8 (by omega), zs_idx _ _ _ _ _ (by omega)]; exact g2 i hi
  · rw [ne 15 (by omega)]; exact h3 i hi
  · rw [ne 0 (by omega)]; exact h5
  · rw [ne 10 (by omega), ne 11 (by omega), ne 12 (by omega), ne 13 (by omega), ne 14 (by omega)]; exact h6 i x hx
theorem m_through (hr : r < 6) (ht : t < 6) (hR : zRM C (va_up P (6 * r + t) q) S L st) {x : Int32} (hx : zIx 6 x) : F_M_through n (nI r) (nI t) x st = some (zThrX (C r) q x, st) := by
  rcases hx with rfl | ⟨j, hj, rfl⟩
  · unfold F_M_through zThrX
    rw [if_pos (by decide), if_pos (by decide)]
  · have g := zo_in (show 6 * r + j < 36 by omega) (by decide)
    have g2 := zo_in (show 36 * j + (6 * r + t) < 216 by omega) (by decide)
    have ec : Int32.toNatClampNeg (nI (6 * r + j)) = 6 * r + j := zo_c (by omega)
    have ec2 : Int32.toNatClampNeg (nI (36 * j + (6 * r + t))) = 36 * j + (6 * r + t) := zo_c (by omega)
    rw [zThrX_nI _ _ (by omega)]
    unfold F_M_through zThr
    rw [if_neg (nI_pos (by omega)), i6, i36, if_neg g, if_neg g2, if_neg g]
    simp only [ec, ec2, rm_c hR hr hj, rm_t hR (show 6 * r + t < 36 by omega) hj]
    by_cases h : C r j = 0
    · rw [if_pos h, if_pos h]
    · rw [if_neg h, if_neg h]
      by_cases h1 : q (10 + j) + C r j < 10000
      · rw [if_pos h1, if_pos (Int32.le_of_lt h1)]
      · rw [if_neg h1]
        by_cases h2 : q (10 + j) + C r j ≤ 10000
        · rw [if_pos h2, Int32.le_antisymm h2 (Int32.not_lt.mp h1)]
        · rw [if_neg h2]
theorem m_least1 (hn : n ≤ 6) (hr : r < 6) (ht : t < 6) (hR : zRM C (va_up P (6 * r + t) q) S L st) : ∀ (f i : Nat), i ≤ n → n - i < f → F_M_least_L7 n f (nI r) (nI t) (zLst (C r) q i) (nI i) st = some (zLst (C r) q n, st)
  | 0, i, h1, h2 => by omega
  | f + 1, i, h1, h2 => by
    rw [F_M_least_L7]
    by_cases hi : i = n
    · subst hi
      rw [if_pos (nI_le (Nat.le_refl _) (by omega))]
    · have hlt : i < n := by omega
      rw [if_neg (nI_ge hlt (by omega)), m_through hr ht hR (Or.inr ⟨i, by omega, rfl⟩), zThrX_nI _ _ (by omega), zbs]
      dsimp only
      unfold F_M_least_L7_s1 F_M_least_L38
      rw [nI_1]
      have ih := m_least1 hn hr ht hR f (i + 1) hlt (by omega)
      have e0 : zLst (C r) q (i + 1) = if zThr (C r) q i < zLst (C r) q i then zThr (C r) q i else zLst (C r) q i := rfl
      by_cases h : zLst (C r) q i ≤ zThr (C r) q i
      · rw [if_pos h]
        rw [e0, if_neg (fun c => Int32.not_lt.mpr h c)] at ih
        exact ih
      · rw [if_neg h]
        rw [e0, if_pos (Int32.not_le.mp h)] at ih
        exact ih
theorem m_least (hn : n ≤ 6) (hr : r < 6) (ht : t < 6) (hR : zRM C (va_up P (6 * r + t) q) S L st) : F_M_least n (nI r) (nI t) st = some (zLst (C r) q n, st) := by
  unfold F_M_least
  exact m_least1 hn hr ht hR zFuel 0 (Nat.zero_le _) (by unfold zFuel; omega)
theorem m_sure (hr : r < 6) (ht : t < 6) (hR : zRM C (va_up P (6 * r + t) q) S L st) {j : Nat} (hj : j < 6) (far : Int32) : F_M_isSure n (nI r) (nI t) (nI j) far st = some (if zSu (C r) q far j then 1 else 0, st) := by
  have g := zo_in (show 6 * r + j < 36 by omega) (by decide)
  have gk := zo_in (show 6 * r + t < 36 by omega) (by decide)
  have g2 := zo_in (show 36 * j + (6 * r + t) < 216 by omega) (by decide)
  have ec : Int32.toNatClampNeg (nI (6 * r + j)) = 6 * r + j := zo_c (by omega)
  have eck : Int32.toNatClampNeg (nI (6 * r + t)) = 6 * r + t := zo_c (by omega)
  have ec2 : Int32.toNatClampNeg (nI (36 * j + (6 * r + t))) = 36 * j + (6 * r + t) := zo_c (by omega)
  have e3 : st 3 0 (6 * r + t) = q 1 := rm_f hR (show 6 * r + t < 36 by omega) (show 1 < 6 by decide)
  unfold F_M_isSure
  rw [if_neg (nI_pos (by omega)), i6, i6, i36, if_neg g, if_neg g2, if_neg gk]
  simp only [ec, ec2, eck, rm_c hR hr hj, rm_t hR (show 6 * r + t < 36 by omega) hj, e3]
  by_cases h : C r j ≤ 0
  · rw [if_pos h, if_neg (fun c => Int32.not_lt.mpr h c.1)]
  · rw [if_neg h]
    by_cases h1 : q 1 ≤ q (10 + j)
    · rw [if_pos h1, if_neg (fun c => Int32.not_lt.mpr h1 c.2.1)]
    · rw [if_neg h1, m_through hr ht hR (Or.inr ⟨j, hj, rfl⟩), zThrX_nI _ _ (by omega), zbs]
      dsimp only
      unfold F_M_isSure_s1
      by_cases h2 : zThr (C r) q j = far
      · rw [if_pos h2, if_pos ⟨Int32.not_le.mp h, Int32.not_le.mp h1, h2⟩]
      · rw [if_neg h2, if_neg (fun c => h2 c.2.2)]
theorem m_sureN (far : Int32) : F_M_isSure n (nI r) (nI t) (-1) far st = some (0, st) := by
  unfold F_M_isSure
  rw [if_pos (by decide)]
theorem m_send (hr : r < 6) (ht : t < 6) (hR : zRM C (va_up P (6 * r + t) q) S L st) {to kd : Nat} (hkd : kd < 3) (hL : L.length < 1024) : ∃ st', F_M_send n (nI r) (nI to) (nI kd) (nI t) st = some (0, st') ∧ zRM C (va_up P (6 * r + t) q) (zCnt [(to, kd, q 0)] S) (zPush (6 * r + t) [(to, kd, q 0)] L) st' := by
  have e6 := z6 (r := r) (t := t) ht
  have e0 : st 2 0 (6 * r + t) = q 0 := rm_f hR (show 6 * r + t < 36 by omega) (show 0 < 6 by decide)
  obtain ⟨h1, h2, h3, h4, h5, h6⟩ := hR
  have g := zo_in hL (by decide)
  have ec : Int32.toNatClampNeg (nI L.length) = L.length := zo_c (by omega)
  have gk := zo_in (show 6 * r + t < 36 by omega) (by decide)
  have eck : Int32.toNatClampNeg (nI (6 * r + t)) = 6 * r + t := zo_c (by omega)
  have g3 := zo_in hkd (by decide)
  have ec3 : Int32.toNatClampNeg (nI kd) = kd := zo_c (by omega)
  refine ⟨zs (zs (zs (zs (zs (zs (zs st 10 0 L.length (nI r)) 11 0 L.length (nI to)) 12 0 L.length (nI kd)) 13 0 L.length (nI t)) 14 0 L.length (q 0)) 0 0 0 (nI L.length + 1)) 15 0 kd (st 15 0 kd + 1), ?_, ?_⟩
  · unfold F_M_send F_M_send_s1 F_M_send_s2 F_M_send_s3 F_M_send_s4 F_M_send_s5 F_M_send_s6 F_M_send_s7
    simp only [zs_a (a' := 0) _ _ _ _ _ _ _ (show (0 : Nat) ≠ 10 by decide), zs_a (a' := 0) _ _ _ _ _ _ _ (show (0 : Nat) ≠ 11 by decide), zs_a (a' := 0) _ _ _ _ _ _ _ (show (0 : Nat) ≠ 12 by decide), zs_a (a' := 0) _ _ _ _ _ _ _ (show (0 : Nat) ≠ 13 by decide), zs_a (a' := 0) _ _ _ _ _ _ _ (show (0 : Nat) ≠ 14 by decide), h5, i6, if_neg g, if_neg gk, if_neg g3, ec, eck, ec3,
      zs_a (a' := 2) _ _ _ _ _ _ _ (show (2 : Nat) ≠ 10 by decide), zs_a (a' := 2) _ _ _ _ _ _ _ (show (2 : Nat) ≠ 11 by decide), zs_a (a' := 2) _ _ _ _ _ _ _ (show (2 : Nat) ≠ 12 by decide), zs_a (a' := 2) _ _ _ _ _ _ _ (show (2 : Nat) ≠ 13 by decide), e0,
      zs_a (a' := 15) _ _ _ _ _ _ _ (show (15 : Nat) ≠ 0 by decide), zs_a (a' := 15) _ _ _ _ _ _ _ (show (15 : Nat) ≠ 10 by decide), zs_a (a' := 15) _ _ _ _ _ _ _ (show (15 : Nat) ≠ 11 by decide), zs_a (a' := 15) _ _ _ _ _ _ _ (show (15 : Nat) ≠ 12 by decide), zs_a (a' := 15) _ _ _ _ _ _ _ (show (15 : Nat) ≠ 13 by decide), zs_a (a' := 15) _ _ _ _ _ _ _ (show (15 : Nat) ≠ 14 by decide)]
  · refine ⟨fun a b ha hb => ?_, fun k hk => ?_, fun i hi => ?_, ?_, ?_, fun i x hx => ?_⟩
    · simp [zs]; exact h1 a b ha hb
    · obtain ⟨g1, g2⟩ := h2 k hk
      refine ⟨fun f hf => ?_, fun j hj => ?_⟩
      · rw [zs_a _ _ _ _ _ _ _ (by omega), zs_a _ _ _ _ _ _ _ (by omega), zs_a _ _ _ _ _ _ _ (by omega), zs_a _ _ _ _ _ _ _ (by omega), zs_a _ _ _ _ _ _ _ (by omega), zs_a _ _ _ _ _ _ _ (by omega), zs_a _ _ _ _ _ _ _ (by omega)]; exact g1 f hf
      · simp [zs]; exact g2 j hj
    · show _ = va_up S kd (S kd + 1) i
      by_cases e : i = kd
      · subst e; rw [zs_same, zUp_s, h3 i hi]
      · rw [zs_idx _ _ _ _ _ e, zUp_n _ _ e]; simp [zs]; exact h3 i hi
    · rw [zPush_len]; simp only [List.length_singleton]; omega
    · rw [zs_a _ _ _ _ _ _ _ (by decide), zs_same, nI_1, zPush_len]; rfl
    · have hx' : (L ++ [(r, to, kd, t, q 0)])[i]? = some x := by
        have : zPush (6 * r + t) [(to, kd, q 0)] L = L ++ [(r, to, kd, t, q 0)] := by
          show L ++ [((6 * r + t) / 6, to, kd, (6 * r + t) % 6, q 0)] = _
          rw [e6.1, e6.2]
        rw [← this]; exact hx
      by_cases hl : i < L.length
      · rw [List.getElem?_append_left hl] at hx'
        have := h6 i x hx'
        have hne : i ≠ L.length := by omega
        simp [zs, hne]
        exact this
      · rw [List.getElem?_append_right (by omega)] at hx'
        have hz : i - L.length < 1 := (List.getElem?_eq_some_iff.mp hx').1
        rw [show i - L.length = 0 by omega] at hx'
        cases hx'
        have e : i = L.length := by omega
        subst e
        simp [zs]
end ZM
