/-! What the functions of a route do, over the mathematics of part 10. zRC: the state st stands for costs C, routes P, counts S, letters L, links lk. -/
abbrev zIx (n : Nat) (x : Int32) : Prop := x = -1 ∨ ∃ j : Nat, j < n ∧ x = nI j
def zPack (x : zL) : Int32 := ((((nI x.1 <<< (22 &&& 31)) ||| (nI x.2.1 <<< (19 &&& 31))) ||| (nI x.2.2.1 <<< (17 &&& 31))) ||| (nI x.2.2.2.1 <<< (14 &&& 31))) ||| x.2.2.2.2
def zRC (n : Nat) (C : Nat → Nat → Int32) (P : Nat → zR) (S : Nat → Int32) (L : List zL) (lk : Int32) (st : zS) : Prop :=
  (∀ a b, a < n → b < n → st 6 a b = C a b) ∧
  (∀ k, k / 6 < n → k % 6 < n → (∀ f, f < 6 → st 7 k f = P k f) ∧ (∀ j, j < n → st 8 k j = P k (10 + j)) ∧ (∀ j, j < n → st 9 k j = P k (20 + j))) ∧
  (∀ i, i < 3 → st 5 0 i = S i) ∧ st 0 0 0 = lk ∧
  ∃ fi : Nat, fi + L.length ≤ 1024 ∧ st 3 0 0 = nI fi ∧ st 3 0 1 = nI (fi + L.length) ∧ ∀ (i : Nat) (x : zL), L[i]? = some x → st 4 0 (fi + i) = zPack x
theorem zo_in {j n : Nat} (h : j < n) (hn : n < 2 ^ 31) : ¬ zOut (nI j) n := vp_in_nI h hn
theorem zo_c {j : Nat} (h : j < 2 ^ 31) : Int32.toNatClampNeg (nI j) = j := nI_clamp h
theorem zo_m1 {j : Nat} (h : j < 2 ^ 31) : ¬ nI j = -1 := by
  intro e
  have h1 := nI_toInt h
  rw [e] at h1
  have h2 : (-1 : Int32).toInt = -1 := by decide
  omega
theorem zo_i0 : (0 : Int32) = nI 0 := rfl
theorem zs_same (st : zS) (a k i : Nat) (v : Int32) : zs st a k i v a k i = v := by simp [zs]
theorem zs_idx (st : zS) (a k i : Nat) (v : Int32) {j : Nat} (h : j ≠ i) : zs st a k i v a k j = st a k j := by simp [zs, h]
theorem zs_a (st : zS) (a k i : Nat) (v : Int32) {a' : Nat} (k' j : Nat) (h : a' ≠ a) : zs st a k i v a' k' j = st a' k' j := by simp [zs, h]
theorem zs_k (st : zS) (a k i : Nat) (v : Int32) {k' : Nat} (j : Nat) (h : k' ≠ k) : zs st a k i v a k' j = st a k' j := by simp [zs, h]
section ZP
variable {n k : Nat} {C : Nat → Nat → Int32} {P : Nat → zR} {q : zR} {S : Nat → Int32} {L : List zL} {lk : Int32} {st : zS}
theorem rc_c (hR : zRC n C P S L lk st) {a b : Nat} (ha : a < n) (hb : b < n) : st 6 a b = C a b := hR.1 a b ha hb
theorem rc_f (hR : zRC n C (va_up P k q) S L lk st) (hk : k / 6 < n ∧ k % 6 < n) {f : Nat} (hf : f < 6) : st 7 k f = q f := by
  have h := (hR.2.1 k hk.1 hk.2).1 f hf
  rw [zUp_s] at h
  exact h
theorem rc_t (hR : zRC n C (va_up P k q) S L lk st) (hk : k / 6 < n ∧ k % 6 < n) {j : Nat} (hj : j < n) : st 8 k j = q (10 + j) := by
  have h := (hR.2.1 k hk.1 hk.2).2.1 j hj
  rw [zUp_s] at h
  exact h
theorem rc_w (hR : zRC n C (va_up P k q) S L lk st) (hk : k / 6 < n ∧ k % 6 < n) {j : Nat} (hj : j < n) : st 9 k j = q (20 + j) := by
  have h := (hR.2.1 k hk.1 hk.2).2.2 j hj
  rw [zUp_s] at h
  exact h
theorem rc_pf (hR : zRC n C (va_up P k q) S L lk st) {f : Nat} (hf : f < 6) (v : Int32) : zRC n C (va_up P k (va_up q f v)) S L lk (zs st 7 k f v) := by
  obtain ⟨h1, h2, h3, h4, fi, h5, h6, h7, h8⟩ := hR
  refine ⟨fun a b ha hb => ?_, fun k' ha hb => ?_, fun i hi => ?_, ?_, fi, h5, ?_, ?_, fun i x hx => ?_⟩
  · rw [zs_a _ _ _ _ _ _ _ (by decide)]; exact h1 a b ha hb
  · obtain ⟨g1, g2, g3⟩ := h2 k' ha hb
    by_cases hk : k' = k
    · subst hk
      rw [zUp_s] at g1 g2 g3
      rw [zUp_s]
      refine ⟨fun f' hf' => ?_, fun j hj => ?_, fun j hj => ?_⟩
      · by_cases e : f' = f
        · subst e; rw [zs_same, zUp_s]
        · rw [zs_idx _ _ _ _ _ e, zUp_n _ _ e]; exact g1 f' hf'
      · rw [zs_a _ _ _ _ _ _ _ (by decide), zUp_n _ _ (by omega)]; exact g2 j hj
      · rw [zs_a _ _ _ _ _ _ _ (by decide), zUp_n _ _ (by omega)]; exact g3 j hj
    · rw [zUp_n _ _ hk] at g1 g2 g3
      rw [zUp_n _ _ hk]
      refine ⟨fun f' hf' => ?_, fun j hj => ?_, fun j hj => ?_⟩
      · rw [zs_k _ _ _ _ _ _ hk]; exact g1 f' hf'
      · rw [zs_a _ _ _ _ _ _ _ (by decide)]; exact g2 j hj
      · rw [zs_a _ _ _ _ _ _ _ (by decide)]; exact g3 j hj
  · rw [zs_a _ _ _ _ _ _ _ (by decide)]; exact h3 i hi
  · rw [zs_a _ _ _ _ _ _ _ (by decide)]; exact h4
  · rw [zs_a _ _ _ _ _ _ _ (by decide)]; exact h6
  · rw [zs_a _ _ _ _ _ _ _ (by decide)]; exact h7
  · rw [zs_a _ _ _ _ _ _ _ (by decide)]; exact h8 i x hx
theorem rc_pt (hn : n ≤ 6) (hR : zRC n C (va_up P k q) S L lk st) {j : Nat} (hj : j < n) (v : Int32) : zRC n C (va_up P k (va_up q (10 + j) v)) S L lk (zs st 8 k j v) := by
  obtain ⟨h1, h2, h3, h4, fi, h5, h6, h7, h8⟩ := hR
  refine ⟨fun a b ha hb => ?_, fun k' ha hb => ?_, fun i hi => ?_, ?_, fi, h5, ?_, ?_, fun i x hx => ?_⟩
  · rw [zs_a _ _ _ _ _ _ _ (by decide)]; exact h1 a b ha hb
  · obtain ⟨g1, g2, g3⟩ := h2 k' ha hb
    by_cases hk : k' = k
    · subst hk
      rw [zUp_s] at g1 g2 g3
      rw [zUp_s]
      refine ⟨fun f' hf' => ?_, fun i hi => ?_, fun i hi => ?_⟩
      · rw [zs_a _ _ _ _ _ _ _ (by decide), zUp_n _ _ (by omega)]; exact g1 f' hf'
      · by_cases e : i = j
        · subst e; rw [zs_same, zUp_s]
        · rw [zs_idx _ _ _ _ _ e, zUp_n _ _ (by omega)]; exact g2 i hi
      · rw [zs_a _ _ _ _ _ _ _ (by decide), zUp_n _ _ (by omega)]; exact g3 i hi
    · rw [zUp_n _ _ hk] at g1 g2 g3
      rw [zUp_n _ _ hk]
      refine ⟨fun f' hf' => ?_, fun i hi => ?_, fun i hi => ?_⟩
      · rw [zs_a _ _ _ _ _ _ _ (by decide)]; exact g1 f' hf'
      · rw [zs_k _ _ _ _ _ _ hk]; exact g2 i hi
      · rw [zs_a _ _ _ _ _ _ _ (by decide)]; exact g3 i hi
  · rw [zs_a _ _ _ _ _ _ _ (by decide)]; exact h3 i hi
  · rw [zs_a _ _ _ _ _ _ _ (by decide)]; exact h4
  · rw [zs_a _ _ _ _ _ _ _ (by decide)]; exact h6
  · rw [zs_a _ _ _ _ _ _ _ (by decide)]; exact h7
  · rw [zs_a _ _ _ _ _ _ _ (by decide)]; exact h8 i x hx
theorem rc_pw (hn : n ≤ 6) (hR : zRC n C (va_up P k q) S L lk st) {j : Nat} (hj : j < n) (v : Int32) : zRC n C (va_up P k (va_up q (20 + j) v)) S L lk (zs st 9 k j v) := by
  obtain ⟨h1, h2, h3, h4, fi, h5, h6, h7, h8⟩ := hR
  refine ⟨fun a b ha hb => ?_, fun k' ha hb => ?_, fun i hi => ?_, ?_, fi, h5, ?_, ?_, fun i x hx => ?_⟩
  · rw [zs_a _ _ _ _ _ _ _ (by decide)]; exact h1 a b ha hb
  · obtain ⟨g1, g2, g3⟩ := h2 k' ha hb
    by_cases hk : k' = k
    · subst hk
      rw [zUp_s] at g1 g2 g3
      rw [zUp_s]
      refine ⟨fun f' hf' => ?_, fun i hi => ?_, fun i hi => ?_⟩
      · rw [zs_a _ _ _ _ _ _ _ (by decide), zUp_n _ _ (by omega)]; exact g1 f' hf'
      · rw [zs_a _ _ _ _ _ _ _ (by decide), zUp_n _ _ (by omega)]; exact g2 i hi
      · by_cases e : i = j
        · subst e; rw [zs_same, zUp_s]
        · rw [zs_idx _ _ _ _ _ e, zUp_n _ _ (by omega)]; exact g3 i hi
    · rw [zUp_n _ _ hk] at g1 g2 g3
      rw [zUp_n _ _ hk]
      refine ⟨fun f' hf' => ?_, fun i hi => ?_, fun i hi => ?_⟩
      · rw [zs_a _ _ _ _ _ _ _ (by decide)]; exact g1 f' hf'
      · rw [zs_a _ _ _ _ _ _ _ (by decide)]; exact g2 i hi
      · rw [zs_k _ _ _ _ _ _ hk]; exact g3 i hi
  · rw [zs_a _ _ _ _ _ _ _ (by decide)]; exact h3 i hi
  · rw [zs_a _ _ _ _ _ _ _ (by decide)]; exact h4
  · rw [zs_a _ _ _ _ _ _ _ (by decide)]; exact h6
  · rw [zs_a _ _ _ _ _ _ _ (by decide)]; exact h7
  · rw [zs_a _ _ _ _ _ _ _ (by decide)]; exact h8 i x hx
theorem f_through (hn : n ≤ 6) (hk : k / 6 < n ∧ k % 6 < n) (hR : zRC n C (va_up P k q) S L lk st) {x : Int32} (hx : zIx n x) : F_R_through n k x st = some (zThrX (C (k / 6)) q x, st) := by
  rcases hx with rfl | ⟨j, hj, rfl⟩
  · unfold F_R_through zThrX
    rw [if_pos rfl, if_pos (by decide)]
  · have hj' : j < 2 ^ 31 := by omega
    have g := zo_in hj (show n < 2 ^ 31 by omega)
    have g0 := zo_m1 hj'
    have g1 := nI_pos hj'
    have e1 := rc_c hR hk.1 hj
    have e2 := rc_t hR hk hj
    have ec := zo_c hj'
    unfold F_R_through zThrX zThr
    by_cases h : C (k / 6) j = 0
    · simp only [if_neg g0, if_neg g, if_neg g1, ec, e1, if_pos h]
    · simp only [if_neg g0, if_neg g, if_neg g1, ec, e1, e2, if_neg h]
theorem zThrX_nI (cr : Nat → Int32) (q : zR) {j : Nat} (hj : j < 2 ^ 31) : zThrX cr q (nI j) = zThr cr q j := by
  unfold zThrX
  rw [if_neg (nI_pos hj), zo_c hj]
theorem f_least1 (hn : n ≤ 6) (hk : k / 6 < n ∧ k % 6 < n) (hR : zRC n C (va_up P k q) S L lk st) : ∀ (f i : Nat), i ≤ n → n - i < f → F_R_least_L6 n f k (zLst (C (k / 6)) q i) (nI i) st = some (zLst (C (k / 6)) q n, st)
  | 0, i, h1, h2 => by omega
  | f + 1, i, h1, h2 => by
    rw [F_R_least_L6]
    by_cases hi : i = n
    · subst hi
      rw [if_pos (nI_le (Nat.le_refl _) (by omega))]
    · have hlt : i < n := by omega
      rw [if_neg (nI_ge hlt (by omega)), f_through hn hk hR (Or.inr ⟨i, hlt, rfl⟩), zThrX_nI _ _ (by omega)]
      show F_R_least_L6_s1 n (F_R_least_L6 n f) k (nI i) (zLst (C (k / 6)) q i) (zThr (C (k / 6)) q i) st = _
      unfold F_R_least_L6_s1
      rw [nI_1]
      exact f_least1 hn hk hR f (i + 1) hlt (by omega)
theorem f_least (hn : n ≤ 6) (hk : k / 6 < n ∧ k % 6 < n) (hR : zRC n C (va_up P k q) S L lk st) : F_R_least n k st = some (zLst (C (k / 6)) q n, st) := by
  unfold F_R_least
  exact f_least1 hn hk hR zFuel 0 (Nat.zero_le _) (by unfold zFuel; omega)
theorem f_best1 (hn : n ≤ 6) (hk : k / 6 < n ∧ k % 6 < n) (hR : zRC n C (va_up P k q) S L lk st) (far : Int32) : ∀ (f i : Nat), i ≤ n → n - i < f → F_R_best_L4 n f k far (zBst (C (k / 6)) q far i) (nI i) st = some (zBst (C (k / 6)) q far n, st)
  | 0, i, h1, h2 => by omega
  | f + 1, i, h1, h2 => by
    rw [F_R_best_L4]
    by_cases hi : i = n
    · subst hi
      rw [if_pos (nI_le (Nat.le_refl _) (by omega))]
    · have hlt : i < n := by omega
      have hi' : i < 2 ^ 31 := by omega
      have ih := f_best1 hn hk hR far f (i + 1) hlt (by omega)
      rw [if_neg (nI_ge hlt (by omega)), if_neg (zo_in hlt (by omega))]
      simp only [zo_c hi', rc_t hR hk hlt, rc_f hR hk (show 1 < 6 by decide)]
      have e0 : zBst (C (k / 6)) q far (i + 1) = if (q (10 + i) < q 1 ∧ zThr (C (k / 6)) q i = far) ∧ (zBst (C (k / 6)) q far i = -1 ∨ nI i = q 2) then nI i else zBst (C (k / 6)) q far i := rfl
      by_cases h1 : q 1 ≤ q (10 + i)
      · rw [if_pos h1]
        unfold F_R_best_L39 F_R_best_L40 F_R_best_L62
        rw [if_pos rfl, nI_1]
        rw [e0, if_neg (fun c => Int32.not_lt.mpr h1 c.1.1)] at ih
        exact ih
      · rw [if_neg h1, f_through hn hk hR (Or.inr ⟨i, hlt, rfl⟩), zThrX_nI _ _ hi']
        show F_R_best_L4_s1 n (F_R_best_L4 n f) k far (zBst (C (k / 6)) q far i) (nI i) (zThr (C (k / 6)) q i) st = _
        unfold F_R_best_L4_s1
        have hl : q (10 + i) < q 1 := Int32.not_le.mp h1
        by_cases h2 : zThr (C (k / 6)) q i = far
        · rw [if_pos h2]
          unfold F_R_best_L40 F_R_best_L60 F_R_best_L62
          rw [if_neg (by decide)]
          simp only [nI_1, rc_f hR hk (show 2 < 6 by decide)]
          by_cases h3 : zBst (C (k / 6)) q far i = -1
          · rw [if_pos h3]
            rw [e0, if_pos ⟨⟨hl, h2⟩, Or.inl h3⟩] at ih
            exact ih
          · rw [if_neg h3]
            by_cases h4 : nI i = q 2
            · rw [if_pos h4]
              rw [e0, if_pos ⟨⟨hl, h2⟩, Or.inr h4⟩] at ih
              exact ih
            · rw [if_neg h4]
              rw [e0, if_neg (fun c => c.2.elim h3 h4)] at ih
              exact ih
        · rw [if_neg h2]
          unfold F_R_best_L39 F_R_best_L40 F_R_best_L62
          rw [if_pos rfl, nI_1]
          rw [e0, if_neg (fun c => h2 c.1.2)] at ih
          exact ih
theorem f_best (hn : n ≤ 6) (hk : k / 6 < n ∧ k % 6 < n) (hR : zRC n C (va_up P k q) S L lk st) (far : Int32) : F_R_best n k far st = some (zBst (C (k / 6)) q far n, st) := by
  unfold F_R_best
  exact f_best1 hn hk hR far zFuel 0 (Nat.zero_le _) (by unfold zFuel; omega)
end ZP
