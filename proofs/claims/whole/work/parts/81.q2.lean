/-! hops and total: both sides answer alike. -/
theorem zPig : ∀ (n : Nat) (w : Nat → Nat), (∀ i, i ≤ n → w i < n) → ∃ j k, j < k ∧ k ≤ n ∧ w j = w k
  | 0, w, h => absurd (h 0 (Nat.le_refl _)) (by omega)
  | n + 1, w, h => by
    by_cases c : ∃ j, j ≤ n ∧ w j = w (n + 1)
    · obtain ⟨j, hj, e⟩ := c
      exact ⟨j, n + 1, by omega, by omega, e⟩
    · have hne : ∀ j, j ≤ n → w j ≠ w (n + 1) := fun j hj e => c ⟨j, hj, e⟩
      have hm := h (n + 1) (by omega)
      obtain ⟨j, k, h1, h2, h3⟩ := zPig n (fun i => if w i < w (n + 1) then w i else w i - 1) (fun i hi => by
        have a := h i (by omega)
        have b := hne i hi
        show (if w i < w (n + 1) then w i else w i - 1) < n
        by_cases d : w i < w (n + 1)
        · rw [if_pos d]; omega
        · rw [if_neg d]; omega)
      refine ⟨j, k, h1, by omega, ?_⟩
      have h3 : (if w j < w (n + 1) then w j else w j - 1) = (if w k < w (n + 1) then w k else w k - 1) := h3
      have b1 := hne j (by omega)
      have b2 := hne k h2
      by_cases d1 : w j < w (n + 1)
      · by_cases d2 : w k < w (n + 1)
        · rw [if_pos d1, if_pos d2] at h3; exact h3
        · rw [if_pos d1, if_neg d2] at h3; omega
      · by_cases d2 : w k < w (n + 1)
        · rw [if_neg d1, if_pos d2] at h3; omega
        · rw [if_neg d1, if_neg d2] at h3; omega
def zWk (nx : Nat → Nat) (a : Nat) : Nat → Nat
  | 0 => a
  | i + 1 => nx (zWk nx a i)
theorem zWk_add (nx : Nat → Nat) (a : Nat) {i j : Nat} (h : zWk nx a i = zWk nx a j) : ∀ d, zWk nx a (i + d) = zWk nx a (j + d)
  | 0 => h
  | d + 1 => congrArg nx (zWk_add nx a h d)
theorem zWk_n {nx : Nat → Nat} {a n t : Nat} (h : ∀ i, i ≤ n → zWk nx a i < n) (hne : ∀ i, i < n → zWk nx a i ≠ t) : zWk nx a n ≠ t := by
  intro e
  obtain ⟨j, k, h1, h2, h3⟩ := zPig n (zWk nx a) h
  have := zWk_add nx a h3 (n - k)
  rw [show k + (n - k) = n by omega, e] at this
  exact hne _ (by omega) this
/-- the next of every route to another router is NONE or a neighbour -/
def zNx (n : Nat) (C : Nat → Nat → Int32) (P : Nat → zR) : Prop := ∀ r t, r < n → t < n → r ≠ t → P (6 * r + t) 2 = -1 ∨ ∃ j, j < n ∧ P (6 * r + t) 2 = nI j ∧ ¬ C r j = 0
def zBz (g : Nat → Nat) : Nat → Nat
  | 0 => 0
  | i + 1 => zBz g i + g i
theorem zBz_congr {g g' : Nat → Nat} : ∀ m, (∀ i, i < m → g i = g' i) → zBz g m = zBz g' m
  | 0, _ => rfl
  | m + 1, h => by
    show zBz g m + g m = zBz g' m + g' m
    rw [zBz_congr m (fun i hi => h i (by omega)), h m (by omega)]
theorem zBz_le {g : Nat → Nat} (h : ∀ i, g i ≤ 1) : ∀ m, zBz g m ≤ m
  | 0 => Nat.le_refl _
  | m + 1 => by
    have := zBz_le h m
    have := h m
    show zBz g m + g m ≤ m + 1
    omega
theorem zBz_sq {n : Nat} (h2 : 2 ≤ n) (hn : n ≤ 6) {g : Nat → Nat} (h : ∀ k, k < 36 → ¬ (k / 6 < n ∧ k % 6 < n) → g k = 0) : zBz (fun i => g (6 * (i / n) + i % n)) (n * n) = zBz g 36 := by
  have e : zBz g 36 = zBz (fun k => if k / 6 < n ∧ k % 6 < n then g k else 0) 36 := zBz_congr 36 (fun k hk => by
    by_cases c : k / 6 < n ∧ k % 6 < n
    · show _ = (if k / 6 < n ∧ k % 6 < n then g k else 0)
      rw [if_pos c]
    · show _ = (if k / 6 < n ∧ k % 6 < n then g k else 0)
      rw [if_neg c]; exact h k hk c)
  rw [e]
  have : n = 2 ∨ n = 3 ∨ n = 4 ∨ n = 5 ∨ n = 6 := by omega
  rcases this with rfl | rfl | rfl | rfl | rfl <;> simp [zBz]
section ZQ
variable {n : Nat} {C : Nat → Nat → Int32} {P : Nat → zR} {S : Nat → Int32} {L : List zL} {lk : Int32} {sc sm : zS}
theorem q_hops1 (hn : n ≤ 6) (hC : zRC n C P S L lk sc) (hM : zRM C P S L sm) (hN : zNx n C P) {t a : Nat} (ht : t < n) : ∀ (f i : Nat), i ≤ n → n - i < f → (∀ j, j ≤ i → zWk (fun r => (P (6 * r + t) 2).toNatClampNeg) a j < n) → (∀ j, j < i → zWk (fun r => (P (6 * r + t) 2).toNatClampNeg) a j ≠ t) →
    zAns (F_D_hops_L16 n f (nI t) (nI (zWk (fun r => (P (6 * r + t) 2).toNatClampNeg) a i)) (nI i) sc) (F_M_hops_L23 n f (nI t) (nI (zWk (fun r => (P (6 * r + t) 2).toNatClampNeg) a i)) (nI i) sm) sc sm
  | 0, i, _, h, _, _ => by omega
  | f + 1, i, h1, h2, hlt, hne => by
    have hr := hlt i (Nat.le_refl _)
    rw [F_D_hops_L16, F_M_hops_L23]
    unfold F_M_hops_L81
    by_cases e : zWk (fun r => (P (6 * r + t) 2).toNatClampNeg) a i = t
    · rw [e, if_pos (show nI t = nI t from rfl), if_pos (show nI t = nI t from rfl), if_pos (show nI t = nI t from rfl)]
      by_cases hi : i = n
      · subst hi
        exact absurd e (zWk_n hlt hne)
      · rw [if_neg (nI_ge (show i < n by omega) (by omega))]
        exact ⟨_, rfl, rfl⟩
    · have en : ¬ nI (zWk (fun r => (P (6 * r + t) 2).toNatClampNeg) a i) = nI t := fun c => e ((nI_eq (by omega) (by omega)).mp c)
      rw [if_neg en, if_neg en, if_neg en]
      by_cases hi : i = n
      · subst hi
        rw [if_pos (nI_le (Nat.le_refl _) (by omega)), if_pos (nI_le (Nat.le_refl _) (by omega))]
        exact ⟨_, rfl, rfl⟩
      · have hin : ¬ nI n ≤ nI i := nI_ge (show i < n by omega) (by omega)
        have ih := q_hops1 hn hC hM hN (a := a) ht f (i + 1) (by omega) (by omega)
        generalize hz : zWk (fun r => (P (6 * r + t) 2).toNatClampNeg) a i = r at hr e en ih ⊢
        have g := zo_in (show 6 * r + t < 36 by omega) (by decide)
        have ec : Int32.toNatClampNeg (nI (6 * r + t)) = 6 * r + t := zo_c (by omega)
        have e2 := zm_f hM (f := 2) (show r < 6 by omega) (show t < 6 by omega) (by decide)
        have e2 : sm 4 0 (6 * r + t) = _ := e2
        rw [if_neg hin, if_neg hin, f_route hn hr ht, zbs, i6, if_neg g]
        dsimp only
        unfold F_D_hops_L16_s1
        have e1 := zc_f hn hC hr ht (show 2 < 6 by decide)
        simp only [ec, e1, e2]
        rcases hN r t hr ht e with q | ⟨j, hj, q, hc⟩
        · rw [q, if_pos rfl, if_pos (by decide)]
          exact ⟨_, rfl, rfl⟩
        · have ej : (P (6 * r + t) 2).toNatClampNeg = j := by rw [q]; exact zo_c (by omega)
          have g3 := zo_in (show 6 * r + j < 36 by omega) (by decide)
          have ec3 : Int32.toNatClampNeg (nI (6 * r + j)) = 6 * r + j := zo_c (by omega)
          have es : zWk (fun r => (P (6 * r + t) 2).toNatClampNeg) a (i + 1) = j := by
            show (P (6 * (zWk (fun r => (P (6 * r + t) 2).toNatClampNeg) a i) + t) 2).toNatClampNeg = j
            rw [hz]; exact ej
          rw [q, if_neg (zo_m1 (by omega)), if_neg (nI_pos (by omega)), i6, if_neg g3]
          simp only [ec3, rm_c hM (show r < 6 by omega) (show j < 6 by omega)]
          rw [if_neg hc, nI_1]
          rw [es] at ih
          refine ih (fun k hk => ?_) (fun k hk => ?_)
          · rcases Nat.lt_or_ge i k with c | c
            · have : k = i + 1 := by omega
              subst this
              rw [es]; exact hj
            · exact hlt k c
          · rcases Nat.lt_or_ge k i with c | c
            · exact hne k c
            · have : k = i := by omega
              subst this
              rw [hz]; exact e
theorem q_hops (hn : n ≤ 6) (hC : zRC n C P S L lk sc) (hM : zRM C P S L sm) (hN : zNx n C P) (v w : Int32) : zAns (F_D_hops n v w sc) (F_M_hops n v w sm) sc sm := by
  unfold F_D_hops F_M_hops
  by_cases h1 : zIsR n v
  · by_cases h2 : zIsR n w
    · rw [fRt_y h1 h2, mR_y h1, zbs, zbs]
      dsimp only
      unfold F_D_hops_s1 F_M_hops_s1
      rw [if_neg z10, if_neg z10, mR_y h2, zbs]
      dsimp only
      unfold F_M_hops_s2
      rw [if_neg z10]
      obtain ⟨a, ha, rfl⟩ := zIsR_nI hn h1
      obtain ⟨b, hb, rfl⟩ := zIsR_nI hn h2
      exact q_hops1 hn hC hM hN (a := a) hb zFuel 0 (by omega) (by unfold zFuel; omega) (fun j hj => by
        have : j = 0 := by omega
        subst this
        exact ha) (fun j hj => by omega)
    · rw [fRt_n (fun c => h2 c.2), mR_y h1, zbs, zbs]
      dsimp only
      unfold F_D_hops_s1 F_M_hops_s1
      rw [if_neg z10, mR_n h2, zbs]
      exact ⟨-1, rfl, rfl⟩
  · rw [fRt_n (fun c => h1 c.1), mR_n h1, zbs, zbs]
    exact ⟨-1, rfl, rfl⟩
def zB1 (P : Nat → zR) (k : Nat) : Nat := if P k 3 = 0 then 0 else 1
theorem zB1_le (P : Nat → zR) (k : Nat) : zB1 P k ≤ 1 := by
  unfold zB1
  by_cases c : P k 3 = 0
  · rw [if_pos c]; omega
  · rw [if_neg c]; omega
theorem f_busy1 (h2n : 2 ≤ n) (hn : n ≤ 6) (hC : zRC n C P S L lk sc) : ∀ (f i : Nat), i ≤ n * n → n * n - i < f → F_D_countBusy_L13 n f (nI (zBz (fun i => zB1 P (6 * (i / n) + i % n)) i)) (nI (n * n)) (nI i) sc = some (nI (zBz (fun i => zB1 P (6 * (i / n) + i % n)) (n * n)), sc)
  | 0, i, _, h => by omega
  | f + 1, i, h1, h2 => by
    have hnn : n * n ≤ 36 := Nat.mul_le_mul hn hn
    rw [F_D_countBusy_L13]
    by_cases hi : i = n * n
    · subst hi
      rw [if_pos (nI_le (Nat.le_refl _) (by omega))]
    · have hlt : i < n * n := by omega
      have g := zo_in hlt (show n * n < 2 ^ 31 by omega)
      have ec : Int32.toNatClampNeg (nI i) = i := zo_c (by omega)
      have d1 : i / n < n := Nat.div_lt_of_lt_mul hlt
      have d2 : i % n < n := Nat.mod_lt _ (by omega)
      have e3 := zc_f hn hC d1 d2 (show 3 < 6 by decide)
      rw [if_neg (nI_ge hlt (by omega)), if_neg g]
      simp only [ec, e3]
      have ih := f_busy1 h2n hn hC f (i + 1) (by omega) (by omega)
      have es : zBz (fun i => zB1 P (6 * (i / n) + i % n)) (i + 1) = zBz (fun i => zB1 P (6 * (i / n) + i % n)) i + zB1 P (6 * (i / n) + i % n) := rfl
      rw [es] at ih
      unfold F_D_countBusy_L36
      unfold zB1 at ih ⊢
      by_cases c : P (6 * (i / n) + i % n) 3 = 0
      · rw [if_pos c, nI_1]
        rw [if_pos c] at ih
        exact ih
      · rw [if_neg c, nI_1, nI_1]
        rw [if_neg c] at ih
        exact ih
theorem m_tot1 (hM : zRM C P S L sm) (v : Int32) : ∀ (f i : Nat), i ≤ 36 → 36 - i < f → F_M_total_L15 n f v (nI (zBz (zB1 P) i)) (nI i) sm = if 3 ≤ v then (if v = 3 then some (nI L.length, sm) else if v = 4 then some (nI (zBz (zB1 P) 36), sm) else some (nI (zLc C 36 / 2), sm)) else (if zOut v 3 then none else some (sm 15 0 (Int32.toNatClampNeg v), sm))
  | 0, i, _, h => by omega
  | f + 1, i, h1, h2 => by
    rw [F_M_total_L15]
    by_cases hi : i = 36
    · subst hi
      rw [if_pos (show (36 : Int32) ≤ nI 36 by decide), m_links hM, zbs, hM.2.2.2.2.1]
      rfl
    · have hlt : i < 36 := by omega
      have g := zo_in hlt (by decide)
      have ec : Int32.toNatClampNeg (nI i) = i := zo_c (by omega)
      have e3 := (hM.2.1 i hlt).1 3 (by decide)
      have e3 : sm 5 0 i = _ := e3
      rw [if_neg (show ¬ (36 : Int32) ≤ nI i from nI_ge (a := i) (b := 36) hlt (by decide)), if_neg g]
      simp only [ec, e3]
      have ih := m_tot1 hM v f (i + 1) (by omega) (by omega)
      have es : zBz (zB1 P) (i + 1) = zBz (zB1 P) i + (if P i 3 = 0 then 0 else 1) := rfl
      rw [es] at ih
      unfold F_M_total_L37
      by_cases c : P i 3 = 0
      · rw [if_pos c, nI_1]
        rw [if_pos c] at ih
        exact ih
      · rw [if_neg c, nI_1, nI_1]
        rw [if_neg c] at ih
        exact ih
theorem q_total (h2n : 2 ≤ n) (hn : n ≤ 6) (hC : zRC n C P S L lk sc) (hM : zRM C P S L sm) (hlk : lk = nI (zLc C 36 / 2)) (hb : ∀ k, k < 36 → ¬ (k / 6 < n ∧ k % 6 < n) → P k 3 = 0) (v : Int32) : zAns (F_D_total n v sc) (F_M_total n v sm) sc sm := by
  have hr : ∀ v, F_M_total_L15 n zFuel v 0 0 sm = _ := fun v => m_tot1 (n := n) hM v zFuel 0 (by omega) (by unfold zFuel; omega)
  have hnn : n * n ≤ 36 := Nat.mul_le_mul hn hn
  have hB : F_D_countBusy n sc = some (nI (zBz (zB1 P) 36), sc) := by
    have e := f_busy1 h2n hn hC zFuel 0 (by omega) (by unfold zFuel; omega)
    have e : F_D_countBusy n sc = _ := e
    rw [e, zBz_sq h2n hn (g := zB1 P) (fun k hk h => by unfold zB1; rw [if_pos (hb k hk h)])]
  unfold F_D_total F_M_total
  rw [hr v]
  rcases pk_ix v (n := 6) (by decide) with q | q | ⟨j, hj, q⟩
  · rw [if_pos q]
    refine ⟨-1, ?_, rfl⟩
    have d : ∀ x : Int32, ¬ x < 0 → ¬ v = x := fun x hx e => hx (e ▸ q)
    rw [if_neg (d 0 (by decide)), if_neg (d 1 (by decide)), if_neg (d 2 (by decide)), if_neg (d 3 (by decide)), if_neg (d 4 (by decide)), if_neg (d 5 (by decide))]
  · have q5 : ¬ v ≤ 5 := fun c => absurd (Int32.le_trans q c) (by decide)
    rw [if_neg q5, ite_self]
    refine ⟨-1, ?_, rfl⟩
    have d : ∀ x : Int32, ¬ 6 ≤ x → ¬ v = x := fun x hx e => hx (e ▸ q)
    rw [if_neg (d 0 (by decide)), if_neg (d 1 (by decide)), if_neg (d 2 (by decide)), if_neg (d 3 (by decide)), if_neg (d 4 (by decide)), if_neg (d 5 (by decide))]
  · have hS : ∀ i, i < 3 → sc 5 0 i = sm 15 0 i := fun i hi => (hC.2.2.1 i hi).trans (hM.2.2.1 i hi).symm
    match j, hj with
    | 0, _ =>
      have q : v = 0 := q
      subst q
      exact ⟨sc 5 0 0, rfl, by rw [hS 0 (by decide)]; rfl⟩
    | 1, _ =>
      have q : v = 1 := q
      subst q
      exact ⟨sc 5 0 1, rfl, by rw [hS 1 (by decide)]; rfl⟩
    | 2, _ =>
      have q : v = 2 := q
      subst q
      exact ⟨sc 5 0 2, rfl, by rw [hS 2 (by decide)]; rfl⟩
    | 3, _ =>
      have q : v = 3 := q
      subst q
      rw [f_size hC, zbs]
      exact ⟨_, rfl, rfl⟩
    | 4, _ =>
      have q : v = 4 := q
      subst q
      rw [hB, zbs]
      exact ⟨_, rfl, rfl⟩
    | 5, _ =>
      have q : v = 5 := q
      subst q
      rw [hC.2.2.2.1, hlk]
      exact ⟨_, rfl, rfl⟩
end ZQ
