/-! The reference: end, look, endIfDone. -/
def zEn (cr : Nat → Int32) (q : zR) (n : Nat) : zR × List zO :=
  if zFn cr (if q 5 = 0 then va_up q 1 10000 else q) n ∨ ¬ (zNb cr (-1) n).length = 0 then zE1 cr q n
  else ((zE1 cr (zE1 cr q n).1 n).1, (zE1 cr q n).2 ++ (zE1 cr (zE1 cr q n).1 n).2)
theorem zNb_nil {cr : Nat → Int32} : ∀ {n : Nat}, n < 2 ^ 31 → ((zNb cr (-1) n).length = 0 ↔ ∀ j, j < n → ¬ 0 < cr j)
  | 0, _ => ⟨fun _ j hj => by omega, fun _ => rfl⟩
  | i + 1, hi => by
    have ih := zNb_nil (cr := cr) (n := i) (by omega)
    have e0 : zNb cr (-1) (i + 1) = if 0 < cr i ∧ ¬ nI i = -1 then zNb cr (-1) i ++ [i] else zNb cr (-1) i := rfl
    rw [e0]
    by_cases c : 0 < cr i
    · rw [if_pos ⟨c, zo_m1 (by omega)⟩]
      refine ⟨fun h => ?_, fun h => absurd c (h i (by omega))⟩
      simp at h
    · rw [if_neg (fun x => c x.1), ih]
      refine ⟨fun h j hj => ?_, fun h j hj => h j (by omega)⟩
      by_cases e : j = i
      · subst e; exact c
      · exact h j (by omega)
theorem zLst_far {cr : Nat → Int32} {q : zR} : ∀ {n : Nat}, (∀ j, j < n → cr j = 0) → zLst cr q n = 10000
  | 0, _ => rfl
  | i + 1, h => by
    have ih := zLst_far (cr := cr) (q := q) (n := i) (fun j hj => h j (by omega))
    show (if zThr cr q i < zLst cr q i then zThr cr q i else zLst cr q i) = 10000
    have : zThr cr q i = 10000 := by unfold zThr; rw [if_pos (h i (by omega))]
    rw [this, ih, if_neg (by decide)]
theorem zE1_5 (cr : Nat → Int32) (q : zR) (n : Nat) (hf : ¬ zFn cr (if q 5 = 0 then va_up q 1 10000 else q) n) : (zE1 cr q n).1 5 = 0 ∧ (zE1 cr q n).1 3 = q 3 := by
  unfold zE1
  rw [if_neg hf]
  show zAwait cr (zMeas cr (if q 5 = 0 then va_up q 1 10000 else q)) n 5 = 0 ∧ zAwait cr (zMeas cr (if q 5 = 0 then va_up q 1 10000 else q)) n 3 = q 3
  rw [zAwait_lo _ _ (by decide), zAwait_lo _ _ (by decide)]
  unfold zMeas
  rw [zUp_n _ _ (by decide), zUp_s, zUp_n _ _ (by decide), zUp_n _ _ (by decide)]
  refine ⟨rfl, ?_⟩
  by_cases h5 : q 5 = 0
  · rw [if_pos h5, zUp_n _ _ (by decide)]
  · rw [if_neg h5]
theorem zFn_lone {cr : Nat → Int32} {q : zR} {n : Nat} (hn : n < 2 ^ 31) (hcr : ∀ j, j < n → ¬ cr j < 0) (h0 : (zNb cr (-1) n).length = 0) (h5 : q 5 = 0) : zFn cr (if q 5 = 0 then va_up q 1 10000 else q) n := by
  rw [if_pos h5]
  refine Or.inl ⟨zLst_far (fun j hj => ?_), zUp_s _ _ _⟩
  have h1 := (zNb_nil hn).mp h0 j hj
  have h2 := hcr j hj
  exact Int32.le_antisymm (Int32.not_lt.mp h1) (Int32.not_lt.mp h2)
section ZM
variable {n r t : Nat} {C : Nat → Nat → Int32} {P : Nat → zR} {q : zR} {S : Nat → Int32} {L : List zL} {st : zS}
theorem m_sendX (hr : r < 6) (ht : t < 6) (hR : zRM C (va_up P (6 * r + t) q) S L st) {x : Int32} (hx : zIx n x) (hne : ¬ x = -1) (hn : n ≤ 6) (hL : L.length < 1024) : ∃ st', F_M_send n (nI r) x 2 (nI t) st = some (0, st') ∧ zRM C (va_up P (6 * r + t) q) (zCnt (zOne x 2 (q 0)) S) (zPush (6 * r + t) (zOne x 2 (q 0)) L) st' := by
  rcases hx with h | ⟨j, hj, rfl⟩
  · exact absurd h hne
  · have e : zOne (nI j) 2 (q 0) = [(j, 2, q 0)] := by
      unfold zOne
      rw [if_neg hne, zo_c (by omega)]
    rw [e]
    exact m_send (to := j) (kd := 2) hr ht hR (by decide) hL
theorem zIx_neg {x : Int32} (hn : n ≤ 6) (hx : zIx n x) : x < 0 ↔ x = -1 := by
  rcases hx with rfl | ⟨j, hj, rfl⟩
  · exact ⟨fun _ => rfl, fun _ => by decide⟩
  · exact ⟨fun h => absurd h (nI_pos (by omega)), fun h => absurd h (zo_m1 (by omega))⟩
theorem zIx_6 {x : Int32} (hn : n ≤ 6) (hx : zIx n x) : zIx 6 x := hx.imp id (fun ⟨j, hj, e⟩ => ⟨j, by omega, e⟩)
/-- one round of end: c10 goes on with 0 where it is over, else with 1 -/
theorem m_e41 (hn : n ≤ 6) (h1n : 1 ≤ n) (hr : r < 6) (ht : t < 6) (hcr : ∀ j, j < n → ¬ C r j < 0) (hR : zRM C (va_up P (6 * r + t) q) S L st) (hq : zIx n (q 2)) (hw : ∀ j, j < n → ¬ 0 < C r j → q (20 + j) = 0) (hL : L.length + 7 ≤ 1024) (c10 : Int32 → Int32 → Int32 → Int32 → zS → Option (Int32 × zS)) :
    ∃ st', F_M_end_L41_s1 n c10 (nI r) (nI t) (nI (6 * r + t)) st = c10 (nI r) (nI t) (nI (6 * r + t)) (if zFn (C r) q n ∨ ¬ (zNb (C r) (-1) n).length = 0 then 0 else 1) st' ∧
      zRM C (va_up P (6 * r + t) (if zFn (C r) q n then zCalm (zTake (C r) q n) else zAwait (C r) (zMeas (C r) q) n))
      (zCnt (if zFn (C r) q n then zOne (if q 4 = 0 then -1 else q 2) 2 (zLst (C r) q n) ++ zTell (zNb (C r) (if q 4 = 0 then -1 else q 2) n) 0 (zLst (C r) q n) else zTell (zNb (C r) (-1) n) 1 (zThrX (C r) q (q 2))) S)
      (zPush (6 * r + t) (if zFn (C r) q n then zOne (if q 4 = 0 then -1 else q 2) 2 (zLst (C r) q n) ++ zTell (zNb (C r) (if q 4 = 0 then -1 else q 2) n) 0 (zLst (C r) q n) else zTell (zNb (C r) (-1) n) 1 (zThrX (C r) q (q 2))) L) st' := by
  have g := zo_in (show 6 * r + t < 36 by omega) (by decide)
  have ec : Int32.toNatClampNeg (nI (6 * r + t)) = 6 * r + t := zo_c (by omega)
  have e4 : st 4 0 (6 * r + t) = q 2 := rm_f hR (show 6 * r + t < 36 by omega) (show 2 < 6 by decide)
  have e6 : st 6 0 (6 * r + t) = q 4 := rm_f hR (show 6 * r + t < 36 by omega) (show 4 < 6 by decide)
  unfold F_M_end_L41_s1
  rw [m_fine hn hr ht hcr hR, zbs]
  dsimp only
  unfold F_M_end_L41_s2
  by_cases hf : zFn (C r) q n
  · simp only [if_pos hf, if_pos (Or.inl hf : zFn (C r) q n ∨ ¬ (zNb (C r) (-1) n).length = 0)]
    rw [if_neg (by decide), if_neg g, if_neg g]
    simp only [ec, e4, e6]
    have e70 : (if q 4 = 0 then F_M_end_L70 n c10 (nI r) (nI t) (nI (6 * r + t)) (-1) st else F_M_end_L70 n c10 (nI r) (nI t) (nI (6 * r + t)) (q 2) st) = F_M_end_L70 n c10 (nI r) (nI t) (nI (6 * r + t)) (if q 4 = 0 then -1 else q 2) st := by
      by_cases h4 : q 4 = 0
      · rw [if_pos h4, if_pos h4]
      · rw [if_neg h4, if_neg h4]
    rw [e70]
    have hx : zIx n (if q 4 = 0 then -1 else q 2) := by
      by_cases h4 : q 4 = 0
      · rw [if_pos h4]; exact Or.inl rfl
      · rw [if_neg h4]; exact hq
    generalize (if q 4 = 0 then -1 else q 2) = x at hx ⊢
    unfold F_M_end_L70
    obtain ⟨st1, a1, r1⟩ := m_settle hn h1n hr ht hcr hq hf hR
    rw [a1, zbs]
    dsimp only
    unfold F_M_end_L70_s1 F_M_end_L70_s2 F_M_end_L70_s3
    simp only [if_neg g, ec]
    have r2 : zRM C (va_up P (6 * r + t) (zCalm (zTake (C r) q n))) S L (zs (zs (zs st1 5 0 (6 * r + t) 0) 6 0 (6 * r + t) 0) 7 0 (6 * r + t) 0) := rm_pf (rm_pf (rm_pf r1 (show 3 < 6 by decide) 0) (show 4 < 6 by decide) 0) (show 5 < 6 by decide) 0
    have ez : zCalm (zTake (C r) q n) 0 = zLst (C r) q n := by
      unfold zCalm
      rw [zUp_n _ _ (by decide), zUp_n _ _ (by decide), zUp_n _ _ (by decide), zTake_0]
    have tail : ∀ (st3 : zS) (S2 : Nat → Int32) (L2 : List zL), L2.length + 6 ≤ 1024 → zRM C (va_up P (6 * r + t) (zCalm (zTake (C r) q n))) S2 L2 st3 → ∃ st', F_M_end_L113 n c10 (nI r) (nI t) (nI (6 * r + t)) x st3 = c10 (nI r) (nI t) (nI (6 * r + t)) 0 st' ∧ zRM C (va_up P (6 * r + t) (zCalm (zTake (C r) q n))) (zCnt (zTell (zNb (C r) x n) 0 (zLst (C r) q n)) S2) (zPush (6 * r + t) (zTell (zNb (C r) x n) 0 (zLst (C r) q n)) L2) st' := by
      intro st3 S2 L2 hl r3
      unfold F_M_end_L113
      obtain ⟨st4, a4, r4⟩ := m_tell (kd := 0) hn hr ht (by decide) r3 x hl
      rw [ez] at r4
      have a4 : F_M_tellAll n (nI r) (nI t) 0 x st3 = _ := a4
      rw [a4, zbs]
      exact ⟨st4, rfl, r4⟩
    unfold F_M_end_L70_s4
    by_cases hx1 : x = -1
    · have eo : zOne x 2 (zLst (C r) q n) = [] := by unfold zOne; rw [if_pos hx1]
      rw [if_pos ((zIx_neg hn hx).mpr hx1), eo, List.nil_append]
      exact tail _ S L (by omega) r2
    · rw [if_neg (fun c => hx1 ((zIx_neg hn hx).mp c))]
      obtain ⟨st3, a3, r3⟩ := m_sendX hr ht r2 hx hx1 hn (by omega)
      rw [ez] at r3
      rw [a3, zbs]
      dsimp only
      unfold F_M_end_L70_s5
      rw [zCnt_app, zPush_app]
      exact tail st3 _ _ (by have := zOne_len x 2 (zLst (C r) q n); rw [zPush_len]; omega) r3
  · simp only [if_neg hf]
    rw [if_pos trivial, if_neg g]
    simp only [ec]
    have r2 : zRM C (va_up P (6 * r + t) (va_up q 5 0)) S L (zs st 7 0 (6 * r + t) 0) := rm_pf hR (show 5 < 6 by decide) 0
    unfold F_M_end_L41_s3
    obtain ⟨st3, a3, r3⟩ := m_ask hn hr ht r2 (by rw [zUp_n _ _ (by decide)]; exact zIx_6 hn hq) (by omega)
    rw [zThrX_up _ _ (by decide), zUp_n q 0 (show 2 ≠ 5 by decide)] at r3
    rw [zAw2_eq n (fun j hj h => by rw [zUp_n _ _ (by omega), zUp_n _ _ (by omega)]; exact hw j hj h)] at r3
    rw [a3, zbs]
    dsimp only
    unfold F_M_end_L41_s4 F_M_end_L155
    refine ⟨st3, ?_, r3⟩
    by_cases c : (zNb (C r) (-1) n).length = 0
    · rw [if_pos c, if_pos rfl, if_neg]
      rintro (h | h)
      · exact hf h
      · exact h c
    · rw [if_neg c, if_neg (by decide), if_pos (Or.inr c)]
theorem m_e10 (hn : n ≤ 6) (h1n : 1 ≤ n) (hr : r < 6) (ht : t < 6) (hcr : ∀ j, j < n → ¬ C r j < 0) (hR : zRM C (va_up P (6 * r + t) q) S L st) (hq : zIx n (q 2)) (hw : ∀ j, j < n → ¬ 0 < C r j → q (20 + j) = 0) (hL : L.length + 7 ≤ 1024) (f : Nat) :
    ∃ st', F_M_end_L10 n (f + 1) (nI r) (nI t) (nI (6 * r + t)) 1 st = F_M_end_L10 n f (nI r) (nI t) (nI (6 * r + t)) (if zFn (C r) (if q 5 = 0 then va_up q 1 10000 else q) n ∨ ¬ (zNb (C r) (-1) n).length = 0 then 0 else 1) st' ∧
      zRM C (va_up P (6 * r + t) (zE1 (C r) q n).1) (zCnt (zE1 (C r) q n).2 S) (zPush (6 * r + t) (zE1 (C r) q n).2 L) st' := by
  have g := zo_in (show 6 * r + t < 36 by omega) (by decide)
  have ec : Int32.toNatClampNeg (nI (6 * r + t)) = 6 * r + t := zo_c (by omega)
  have e7 : st 7 0 (6 * r + t) = q 5 := rm_f hR (show 6 * r + t < 36 by omega) (show 5 < 6 by decide)
  have e3 : st 3 0 (6 * r + t) = q 1 := rm_f hR (show 6 * r + t < 36 by omega) (show 1 < 6 by decide)
  rw [F_M_end_L10, if_neg (by decide), if_neg g, if_neg g]
  simp only [ec, e7, e3]
  have rl : ∀ v, zRM C (va_up P (6 * r + t) (va_up q 1 v)) S L (zs st 3 0 (6 * r + t) v) := fun v => rm_pf hR (show 1 < 6 by decide) v
  unfold zE1
  by_cases h5 : q 5 = 0
  · simp only [if_pos h5]
    unfold F_M_end_L41
    rw [if_neg g]
    simp only [ec]
    obtain ⟨st', a, b⟩ := m_e41 hn h1n hr ht hcr (rl 10000) (by rw [zUp_n _ _ (by decide)]; exact hq) (fun j hj h => by rw [zUp_n _ _ (by omega)]; exact hw j hj h) hL (F_M_end_L10 n f)
    refine ⟨st', a, ?_⟩
    rw [zUp_n q 10000 (show 4 ≠ 1 by decide), zUp_n q 10000 (show 2 ≠ 1 by decide), zThrX_up _ _ (by decide)] at b
    by_cases hf : zFn (C r) (va_up q 1 10000) n
    · simp only [if_pos hf] at b ⊢; exact b
    · simp only [if_neg hf] at b ⊢; exact b
  · simp only [if_neg h5]
    unfold F_M_end_L41
    rw [if_neg g]
    simp only [ec]
    have rq : zRM C (va_up P (6 * r + t) q) S L (zs st 3 0 (6 * r + t) (q 1)) := by
      have := rl (q 1)
      rw [zUp_eta] at this
      exact this
    obtain ⟨st', a, b⟩ := m_e41 hn h1n hr ht hcr rq hq hw hL (F_M_end_L10 n f)
    refine ⟨st', a, ?_⟩
    by_cases hf : zFn (C r) q n
    · simp only [if_pos hf] at b ⊢; exact b
    · simp only [if_neg hf] at b ⊢; exact b
theorem m_end (hn : n ≤ 6) (h1n : 1 ≤ n) (hr : r < 6) (ht : t < 6) (hcr : ∀ j, j < n → ¬ C r j < 0) (hR : zRM C (va_up P (6 * r + t) q) S L st) (hq : zIx n (q 2)) (hw : ∀ j, j < n → ¬ 0 < C r j → q (20 + j) = 0) (hL : L.length + 14 ≤ 1024) : ∃ st', F_M_end n (nI r) (nI t) st = some (0, st') ∧ zRM C (va_up P (6 * r + t) (zEn (C r) q n).1) (zCnt (zEn (C r) q n).2 S) (zPush (6 * r + t) (zEn (C r) q n).2 L) st' := by
  unfold F_M_end
  rw [i6, show zFuel = 2997 + 1 + 1 + 1 from rfl]
  obtain ⟨st1, a1, r1⟩ := m_e10 hn h1n hr ht hcr hR hq hw (by omega) (2997 + 1 + 1)
  rw [a1]
  unfold zEn
  by_cases c : zFn (C r) (if q 5 = 0 then va_up q 1 10000 else q) n ∨ ¬ (zNb (C r) (-1) n).length = 0
  · rw [if_pos c, if_pos c]
    refine ⟨st1, ?_, r1⟩
    rw [F_M_end_L10, if_pos rfl]
  · rw [if_neg c, if_neg c]
    have hf : ¬ zFn (C r) (if q 5 = 0 then va_up q 1 10000 else q) n := fun h => c (Or.inl h)
    have h0 : (zNb (C r) (-1) n).length = 0 := Classical.byContradiction (fun h => c (Or.inr h))
    have hl := zE1_len (C r) q n
    have h5 := zE1_5 (C r) q n hf
    have hno := (zNb_nil (show n < 2 ^ 31 by omega)).mp h0
    have hw' : ∀ j, j < n → ¬ 0 < C r j → (zE1 (C r) q n).1 (20 + j) = 0 := by
      intro j hj hc
      unfold zE1
      rw [if_neg hf]
      show zAwait (C r) (zMeas (C r) (if q 5 = 0 then va_up q 1 10000 else q)) n (20 + j) = 0
      have key : ∀ m, m ≤ n → ∀ q' : zR, zAwait (C r) q' m = q' := by
        intro m
        induction m with
        | zero => intro _ _; rfl
        | succ m im =>
          intro hm q'
          show (if 0 < C r m then va_up (zAwait (C r) q' m) (20 + m) 1 else zAwait (C r) q' m) = q'
          rw [if_neg (hno m (by omega))]
          exact im (by omega) q'
      rw [key n (Nat.le_refl _), zMeas_n _ _ (by omega) (by omega)]
      by_cases g5 : q 5 = 0
      · rw [if_pos g5, zUp_n _ _ (by omega)]; exact hw j hj hc
      · rw [if_neg g5]; exact hw j hj hc
    obtain ⟨st2, a2, r2⟩ := m_e10 hn h1n hr ht hcr r1 (zE1_ix _ _ _ hq) hw' (by rw [zPush_len]; omega) (2997 + 1)
    rw [a2]
    refine ⟨st2, ?_, by rw [zCnt_app, zPush_app]; exact r2⟩
    rw [if_pos (Or.inl (zFn_lone (by omega) hcr h0 h5.1)), F_M_end_L10, if_pos rfl]
theorem m_wait1 (hn : n ≤ 6) (hr : r < 6) (ht : t < 6) (hR : zRM C (va_up P (6 * r + t) q) S L st) : ∀ (f i : Nat), i ≤ n → n - i < f → ∃ f', n - i ≤ f' + n ∧ F_M_endIfDone_L5 n f (nI r) (nI t) (zWt q i) (nI i) st = (if zWt q n = 0 then (F_M_end n (nI r) (nI t) st).bind (fun u => F_M_endIfDone_L5_s1 n (F_M_endIfDone_L5 n f') u.2) else some (0, st))
  | 0, i, h1, h2 => by omega
  | f + 1, i, h1, h2 => by
    rw [F_M_endIfDone_L5]
    by_cases hi : i = n
    · subst hi
      rw [if_pos (nI_le (Nat.le_refl _) (by omega))]
      exact ⟨f, by omega, rfl⟩
    · have hlt : i < n := by omega
      have g2 := zo_in (show 36 * i + (6 * r + t) < 216 by omega) (by decide)
      have ec2 : Int32.toNatClampNeg (nI (36 * i + (6 * r + t))) = 36 * i + (6 * r + t) := zo_c (by omega)
      rw [if_neg (nI_ge hlt (by omega)), i36, if_neg g2]
      simp only [ec2, rm_w hR (show 6 * r + t < 36 by omega) (show i < 6 by omega)]
      obtain ⟨f', h3, ih⟩ := m_wait1 hn hr ht hR f (i + 1) hlt (by omega)
      refine ⟨f', by omega, ?_⟩
      have e0 : zWt q (i + 1) = if q (20 + i) = 0 then zWt q i else 1 := rfl
      rw [← ih]
      unfold F_M_endIfDone_L38 F_M_endIfDone_L43
      rw [nI_1, e0]
      by_cases c : zWt q i = 0
      · rw [if_pos c]
        by_cases c2 : q (20 + i) = 0
        · rw [if_pos c2, if_pos c2, c]
        · rw [if_neg c2, if_neg c2]
      · rw [if_neg c]
        have h1 : zWt q i = 1 := (zWt_01 q i).resolve_left c
        by_cases c2 : q (20 + i) = 0
        · rw [if_pos c2, h1]
        · rw [if_neg c2]
theorem m_endIf (hn : n ≤ 6) (h1n : 1 ≤ n) (hr : r < 6) (ht : t < 6) (hcr : ∀ j, j < n → ¬ C r j < 0) (hR : zRM C (va_up P (6 * r + t) q) S L st) (hq : zIx n (q 2)) (hw : ∀ j, j < n → ¬ 0 < C r j → q (20 + j) = 0) (hL : L.length + 14 ≤ 1024) : ∃ st', F_M_endIfDone n (nI r) (nI t) st = some (0, st') ∧ zRM C (va_up P (6 * r + t) (if zWt q n = 0 then zEn (C r) q n else (q, [])).1) (zCnt (if zWt q n = 0 then zEn (C r) q n else (q, [])).2 S) (zPush (6 * r + t) (if zWt q n = 0 then zEn (C r) q n else (q, [])).2 L) st' := by
  unfold F_M_endIfDone
  obtain ⟨f', -, e⟩ := m_wait1 hn hr ht hR zFuel 0 (Nat.zero_le _) (by unfold zFuel; omega)
  have e : F_M_endIfDone_L5 n zFuel (nI r) (nI t) 0 0 st = _ := e
  rw [e]
  by_cases c : zWt q n = 0
  · rw [if_pos c, if_pos c]
    obtain ⟨st1, a1, r1⟩ := m_end hn h1n hr ht hcr hR hq hw hL
    rw [a1, zbs]
    exact ⟨st1, rfl, r1⟩
  · rw [if_neg c, if_neg c]
    exact ⟨st, rfl, by rw [zPush_nil]; exact hR⟩
end ZM
