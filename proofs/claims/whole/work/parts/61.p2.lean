/-! takeBest, measureAnew, growIfFarther, calmDown, forget, isWaiting, and what is sent. -/
abbrev zFn (cr : Nat → Int32) (q : zR) (n : Nat) : Prop := (zLst cr q n = 10000 ∧ q 1 = 10000) ∨ (¬ zLst cr q n = 10000 ∧ ¬ zBest cr q n = -1)
theorem zThr_up (cr : Nat → Int32) (q : zR) {f : Nat} (hf : f < 10) (v : Int32) (j : Nat) : zThr cr (va_up q f v) j = zThr cr q j := by
  unfold zThr
  rw [zUp_n q v (show 10 + j ≠ f by omega)]
theorem zThrX_up (cr : Nat → Int32) (q : zR) {f : Nat} (hf : f < 10) (v x : Int32) : zThrX cr (va_up q f v) x = zThrX cr q x := by
  unfold zThrX
  rw [zThr_up cr q hf]
def zForget (q : zR) (j : Nat) : zR := if nI j = q 2 then (if q 3 = 0 then va_up (va_up (va_up q (10 + j) 10000) (20 + j) 0) 2 (-1) else va_up (va_up (va_up (va_up (va_up q (10 + j) 10000) (20 + j) 0) 2 (-1)) 4 0) 5 (if q 5 = 0 ∧ q 0 = 10000 then 0 else 1)) else va_up (va_up q (10 + j) 10000) (20 + j) 0
def zWt (q : zR) : Nat → Int32
  | 0 => 0
  | i + 1 => if q (20 + i) = 0 then zWt q i else 1
theorem zWt_mono (q : zR) {i : Nat} (h : zWt q i = 1) : ∀ d, zWt q (i + d) = 1
  | 0 => h
  | d + 1 => by
    show (if q (20 + (i + d)) = 0 then zWt q (i + d) else 1) = 1
    by_cases c : q (20 + (i + d)) = 0
    · rw [if_pos c]; exact zWt_mono q h d
    · rw [if_neg c]
section ZP
variable {n k : Nat} {C : Nat → Nat → Int32} {P : Nat → zR} {q : zR} {S : Nat → Int32} {L : List zL} {lk : Int32} {st : zS}
theorem f_take57 (hk : k / 6 < n ∧ k % 6 < n) (hR : zRC n C (va_up P k q) S L lk st) (v1 v2 : Int32) : ∃ st', F_R_takeBest_L57 n k v1 v2 1 st = some (1, st') ∧ zRC n C (va_up P k (va_up (va_up (va_up q 2 v2) 0 v1) 1 (if v1 < q 1 then v1 else q 1))) S L lk st' := by
  have r1 := rc_pf (rc_pf hR (show 2 < 6 by decide) v2) (show 0 < 6 by decide) v1
  have e := rc_f r1 hk (show 1 < 6 by decide)
  rw [zUp_n _ _ (by decide), zUp_n _ _ (by decide)] at e
  refine ⟨_, ?_, rc_pf r1 (show 1 < 6 by decide) (if v1 < q 1 then v1 else q 1)⟩
  unfold F_R_takeBest_L57 F_R_takeBest_L57_s1 F_R_takeBest_L57_s2 F_R_takeBest_L57_s3
  rw [if_neg (by decide), if_neg (by decide), e]
theorem f_takeBest (hn : n ≤ 6) (hk : k / 6 < n ∧ k % 6 < n) (hR : zRC n C (va_up P k q) S L lk st) : ∃ st', F_R_takeBest n k st = some (if zFn (C (k / 6)) q n then 1 else 0, st') ∧ zRC n C (va_up P k (if zFn (C (k / 6)) q n then zTake (C (k / 6)) q n else q)) S L lk st' := by
  have key : F_R_takeBest n k st = F_R_takeBest_L21 n k (zLst (C (k / 6)) q n) (zBest (C (k / 6)) q n) st := by
    unfold F_R_takeBest
    rw [f_least hn hk hR]
    show F_R_takeBest_s1 n k (zLst (C (k / 6)) q n) st = _
    unfold F_R_takeBest_s1 zBest
    by_cases h : zLst (C (k / 6)) q n = 10000
    · simp only [if_pos h]
    · simp only [if_neg h]
      rw [f_best hn hk hR]
      rfl
  have z0 : ∀ v2, F_R_takeBest_L57 n k (zLst (C (k / 6)) q n) v2 0 st = some (0, st) := fun v2 => by
    unfold F_R_takeBest_L57
    rw [if_pos rfl, if_neg (by decide)]
  rw [key]
  unfold F_R_takeBest_L21
  have e1 := rc_f hR hk (show 1 < 6 by decide)
  by_cases h : zLst (C (k / 6)) q n = 10000
  · by_cases g : q 1 = 10000
    · have hf : zFn (C (k / 6)) q n := Or.inl ⟨h, g⟩
      simp only [if_pos h, e1, if_pos g, if_pos hf]
      obtain ⟨st', a, b⟩ := f_take57 hk hR (zLst (C (k / 6)) q n) (zBest (C (k / 6)) q n)
      exact ⟨st', a, b⟩
    · have hf : ¬ zFn (C (k / 6)) q n := fun c => c.elim (fun c => g c.2) (fun c => c.1 h)
      simp only [if_pos h, e1, if_neg g, if_neg hf]
      exact ⟨st, z0 _, hR⟩
  · by_cases g : zBest (C (k / 6)) q n = -1
    · have hf : ¬ zFn (C (k / 6)) q n := fun c => c.elim (fun c => h c.1) (fun c => c.2 g)
      simp only [if_neg h, if_pos g, if_neg hf]
      exact ⟨st, z0 _, hR⟩
    · have hf : zFn (C (k / 6)) q n := Or.inr ⟨h, g⟩
      simp only [if_neg h, if_neg g, if_pos hf]
      obtain ⟨st', a, b⟩ := f_take57 hk hR (zLst (C (k / 6)) q n) (zBest (C (k / 6)) q n)
      exact ⟨st', a, b⟩
theorem f_measure (hn : n ≤ 6) (hk : k / 6 < n ∧ k % 6 < n) (hR : zRC n C (va_up P k q) S L lk st) (hx : zIx n (q 2)) : ∃ st', F_R_measureAnew n k st = some (0, st') ∧ zRC n C (va_up P k (zMeas (C (k / 6)) q)) S L lk st' := by
  have r1 := rc_pf hR (show 5 < 6 by decide) 0
  have e2 : zs st 7 k 5 0 7 k 2 = q 2 := by
    rw [rc_f r1 hk (show 2 < 6 by decide), zUp_n _ _ (by decide)]
  refine ⟨_, ?_, rc_pf r1 (show 0 < 6 by decide) (zThrX (C (k / 6)) q (q 2))⟩
  unfold F_R_measureAnew F_R_measureAnew_s1
  rw [e2, f_through hn hk r1 hx, zThrX_up _ _ (by decide)]
  rfl
theorem f_grow (hn : n ≤ 6) (hk : k / 6 < n ∧ k % 6 < n) (hR : zRC n C (va_up P k q) S L lk st) {x : Int32} (hx : zIx n x) : ∃ st', F_R_growIfFarther n k x st = some (0, st') ∧ zRC n C (va_up P k (zGrow (C (k / 6)) q x)) S L lk st' := by
  have e2 := rc_f hR hk (show 2 < 6 by decide)
  have e0 := rc_f hR hk (show 0 < 6 by decide)
  unfold F_R_growIfFarther zGrow
  by_cases h : x = q 2
  · simp only [e2, if_pos h]
    rw [f_through hn hk hR hx]
    by_cases g : q 0 < zThrX (C (k / 6)) q x
    · refine ⟨_, ?_, by rw [if_pos ⟨h, g⟩]; exact rc_pf hR (show 5 < 6 by decide) 1⟩
      show F_R_growIfFarther_s1 n k (zThrX (C (k / 6)) q x) st = _
      unfold F_R_growIfFarther_s1
      rw [e0, if_neg (fun c => Int32.not_le.mpr g c)]
      rfl
    · refine ⟨st, ?_, by rw [if_neg (fun c => g c.2)]; exact hR⟩
      show F_R_growIfFarther_s1 n k (zThrX (C (k / 6)) q x) st = _
      unfold F_R_growIfFarther_s1
      rw [e0, if_pos (Int32.not_lt.mp g)]
  · refine ⟨st, ?_, by rw [if_neg (fun c => h c.1)]; exact hR⟩
    simp only [e2, if_neg h]
theorem f_calm (hR : zRC n C (va_up P k q) S L lk st) : ∃ st', F_R_calmDown n k st = some (0, st') ∧ zRC n C (va_up P k (zCalm q)) S L lk st' :=
  ⟨_, rfl, rc_pf (rc_pf (rc_pf hR (show 3 < 6 by decide) 0) (show 4 < 6 by decide) 0) (show 5 < 6 by decide) 0⟩
theorem f_forget (hn : n ≤ 6) (hk : k / 6 < n ∧ k % 6 < n) (hR : zRC n C (va_up P k q) S L lk st) {j : Nat} (hj : j < n) : ∃ st', F_R_forget n k (nI j) st = some (0, st') ∧ zRC n C (va_up P k (zForget q j)) S L lk st' := by
  have g := zo_in hj (show n < 2 ^ 31 by omega)
  have ec : Int32.toNatClampNeg (nI j) = j := zo_c (show j < 2 ^ 31 by omega)
  have r2 := rc_pw hn (rc_pt hn hR hj 10000) hj 0
  have e2 : zs (zs st 8 k j 10000) 9 k j 0 7 k 2 = q 2 := by
    rw [rc_f r2 hk (show 2 < 6 by decide), zUp_n _ _ (by omega), zUp_n _ _ (by omega)]
  unfold F_R_forget F_R_forget_s1 F_R_forget_s2
  simp only [if_neg g, ec, e2]
  unfold zForget
  by_cases h : nI j = q 2
  · simp only [if_pos h]
    have r3 := rc_pf r2 (show 2 < 6 by decide) (-1)
    have e3 : zs (zs (zs st 8 k j 10000) 9 k j 0) 7 k 2 (-1) 7 k 3 = q 3 := by
      rw [rc_f r3 hk (show 3 < 6 by decide), zUp_n _ _ (by omega), zUp_n _ _ (by omega), zUp_n _ _ (by omega)]
    unfold F_R_forget_s3
    rw [e3]
    by_cases h3 : q 3 = 0
    · simp only [if_pos h3]
      exact ⟨_, rfl, r3⟩
    · simp only [if_neg h3]
      have r4 := rc_pf r3 (show 4 < 6 by decide) 0
      have e5 := rc_f r4 hk (show 5 < 6 by decide)
      rw [zUp_n _ _ (by omega), zUp_n _ _ (by omega), zUp_n _ _ (by omega), zUp_n _ _ (by omega)] at e5
      have e0 := rc_f r4 hk (show 0 < 6 by decide)
      rw [zUp_n _ _ (by omega), zUp_n _ _ (by omega), zUp_n _ _ (by omega), zUp_n _ _ (by omega)] at e0
      unfold F_R_forget_s4 F_R_forget_L60 F_R_forget_L65
      rw [e5, e0]
      by_cases h5 : q 5 = 0
      · by_cases h0 : q 0 = 10000
        · rw [if_pos h5, if_pos h0, if_neg (by decide), if_pos ⟨h5, h0⟩]
          exact ⟨_, rfl, rc_pf r4 (show 5 < 6 by decide) 0⟩
        · rw [if_pos h5, if_neg h0, if_neg (by decide), if_neg (fun c => h0 c.2)]
          exact ⟨_, rfl, rc_pf r4 (show 5 < 6 by decide) 1⟩
      · rw [if_neg h5, if_neg (by decide), if_neg (fun c => h5 c.1)]
        exact ⟨_, rfl, rc_pf r4 (show 5 < 6 by decide) 1⟩
  · simp only [if_neg h]
    exact ⟨_, rfl, r2⟩
theorem f_isOwn (hk : k / 6 < 6 ∧ k % 6 < 6) : F_R_isOwn n k st = some (if k / 6 = k % 6 then 1 else 0, st) := by
  unfold F_R_isOwn
  by_cases h : k / 6 = k % 6
  · rw [if_pos (by rw [h]), if_pos h]
  · rw [if_neg (fun c => h ((nI_eq (by omega) (by omega)).mp c)), if_neg h]
theorem f_isNb (hn : n ≤ 6) (hk : k / 6 < n ∧ k % 6 < n) (hR : zRC n C P S L lk st) {j : Nat} (hj : j < n) : F_R_isNeighbour n k (nI j) st = some (if 0 < C (k / 6) j then 1 else 0, st) := by
  have g := zo_in hj (show n < 2 ^ 31 by omega)
  have ec : Int32.toNatClampNeg (nI j) = j := zo_c (show j < 2 ^ 31 by omega)
  unfold F_R_isNeighbour
  simp only [if_neg g, ec, rc_c hR hk.1 hj]
  by_cases h : 0 < C (k / 6) j
  · rw [if_neg (fun c => Int32.not_le.mpr h c), if_pos h]
  · rw [if_pos (Int32.not_lt.mp h), if_neg h]
theorem f_wait1 (hn : n ≤ 6) (hk : k / 6 < n ∧ k % 6 < n) (hR : zRC n C (va_up P k q) S L lk st) : ∀ (f i : Nat), i ≤ n → n - i < f → zWt q i = 0 → F_R_isWaiting_L10 n f k (nI n) (nI i) st = some (zWt q n, st)
  | 0, i, h1, h2, _ => by omega
  | f + 1, i, h1, h2, h3 => by
    rw [F_R_isWaiting_L10]
    by_cases hi : i = n
    · subst hi
      rw [if_pos (nI_le (Nat.le_refl _) (by omega)), h3]
    · have hlt : i < n := by omega
      have g := zo_in hlt (show n < 2 ^ 31 by omega)
      have ec : Int32.toNatClampNeg (nI i) = i := zo_c (show i < 2 ^ 31 by omega)
      rw [if_neg (nI_ge hlt (by omega)), if_neg g]
      simp only [ec, rc_w hR hk hlt]
      have e0 : zWt q (i + 1) = if q (20 + i) = 0 then zWt q i else 1 := rfl
      by_cases h : q (20 + i) = 0
      · rw [if_pos h, nI_1]
        exact f_wait1 hn hk hR f (i + 1) hlt (by omega) (by rw [e0, if_pos h]; exact h3)
      · rw [if_neg h]
        have h1 := zWt_mono q (i := i + 1) (by rw [e0, if_neg h]) (n - (i + 1))
        rw [show i + 1 + (n - (i + 1)) = n by omega] at h1
        rw [h1]
theorem f_wait (hn : n ≤ 6) (hk : k / 6 < n ∧ k % 6 < n) (hR : zRC n C (va_up P k q) S L lk st) : F_R_isWaiting n k st = some (zWt q n, st) := by
  unfold F_R_isWaiting
  exact f_wait1 hn hk hR zFuel 0 (Nat.zero_le _) (by unfold zFuel; omega) rfl
end ZP
