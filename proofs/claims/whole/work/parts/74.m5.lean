/-! The reference: look and hear do what the program's do. -/
theorem zWt_0 (q : zR) : ∀ n, zWt q n = 0 ↔ ∀ j, j < n → q (20 + j) = 0
  | 0 => ⟨fun _ j hj => by omega, fun _ => rfl⟩
  | i + 1 => by
    have ih := zWt_0 q i
    show (if q (20 + i) = 0 then zWt q i else 1) = 0 ↔ _
    by_cases c : q (20 + i) = 0
    · rw [if_pos c, ih]
      refine ⟨fun h j hj => ?_, fun h j hj => h j (by omega)⟩
      by_cases e : j = i
      · subst e; exact c
      · exact h j (by omega)
    · rw [if_neg c]
      exact ⟨fun h => absurd h (by decide), fun h => absurd (h i (by omega)) c⟩
theorem zAwait_at (cr : Nat → Int32) (q : zR) (j : Nat) : ∀ n, zAwait cr q n (20 + j) = if j < n ∧ 0 < cr j then 1 else q (20 + j)
  | 0 => by rw [if_neg (fun c => by omega)]; rfl
  | i + 1 => by
    have ih := zAwait_at cr q j i
    show (if 0 < cr i then va_up (zAwait cr q i) (20 + i) 1 else zAwait cr q i) (20 + j) = _
    by_cases e : j = i
    · subst e
      by_cases c : 0 < cr j
      · rw [if_pos c, zUp_s, if_pos ⟨by omega, c⟩]
      · rw [if_neg c, ih, if_neg (fun x => c x.2), if_neg (fun x => c x.2)]
    · have h1 : (if 0 < cr i then va_up (zAwait cr q i) (20 + i) 1 else zAwait cr q i) (20 + j) = zAwait cr q i (20 + j) := by
        by_cases c : 0 < cr i
        · rw [if_pos c, zUp_n _ _ (by omega)]
        · rw [if_neg c]
      rw [h1, ih]
      by_cases c : j < i ∧ 0 < cr j
      · rw [if_pos c, if_pos ⟨by omega, c.2⟩]
      · rw [if_neg c, if_neg (fun x => c ⟨by omega, x.2⟩)]
theorem zWt_await {cr : Nat → Int32} {q : zR} {n : Nat} (hn : n < 2 ^ 31) (hw : ∀ j, j < n → ¬ 0 < cr j → q (20 + j) = 0) : zWt (zAwait cr q n) n = 0 ↔ (zNb cr (-1) n).length = 0 := by
  rw [zWt_0, zNb_nil hn]
  refine ⟨fun h j hj c => ?_, fun h j hj => ?_⟩
  · have := h j hj
    rw [zAwait_at, if_pos ⟨hj, c⟩] at this
    exact absurd this (by decide)
  · rw [zAwait_at, if_neg (fun x => h j hj x.2)]
    exact hw j hj (h j hj)
theorem zEd_En {cr : Nat → Int32} {q : zR} {n : Nat} (hn : n < 2 ^ 31) (h3 : ¬ q 3 = 0) (hz : zWt q n = 0) (hw : ∀ j, j < n → ¬ 0 < cr j → q (20 + j) = 0) : zEd cr q n = zEn cr q n := by
  unfold zEd zEn
  rw [if_neg h3, if_pos hz]
  by_cases hf : zFn cr (if q 5 = 0 then va_up q 1 10000 else q) n
  · rw [if_pos (Or.inl hf)]
    have : (zE1 cr q n).1 3 = 0 := by
      unfold zE1
      rw [if_pos hf]
      show zCalm (zTake cr (if q 5 = 0 then va_up q 1 10000 else q) n) 3 = 0
      unfold zCalm
      rw [zUp_n _ _ (by decide), zUp_n _ _ (by decide), zUp_s]
    rw [if_pos this]
  · have h5 := zE1_5 cr q n hf
    rw [if_neg (by rw [h5.2]; exact h3)]
    have hq : zWt (zE1 cr q n).1 n = 0 ↔ (zNb cr (-1) n).length = 0 := by
      have e : (zE1 cr q n).1 = zAwait cr (zMeas cr (if q 5 = 0 then va_up q 1 10000 else q)) n := by
        unfold zE1; rw [if_neg hf]
      rw [e]
      refine zWt_await hn (fun j hj hc => ?_)
      rw [zMeas_n _ _ (by omega) (by omega)]
      by_cases g5 : q 5 = 0
      · rw [if_pos g5, zUp_n _ _ (by omega)]; exact hw j hj hc
      · rw [if_neg g5]; exact hw j hj hc
    by_cases c : (zNb cr (-1) n).length = 0
    · rw [if_pos (hq.mpr c), if_neg]
      rintro (h | h)
      · exact hf h
      · exact h c
    · rw [if_neg (fun x => c (hq.mp x)), if_pos (Or.inr c)]
theorem zEd_If {cr : Nat → Int32} {q : zR} {n : Nat} (hn : n < 2 ^ 31) (h3 : ¬ q 3 = 0) (hw : ∀ j, j < n → ¬ 0 < cr j → q (20 + j) = 0) : (if zWt q n = 0 then zEn cr q n else (q, [])) = zEd cr q n := by
  by_cases c : zWt q n = 0
  · rw [if_pos c, zEd_En hn h3 c hw]
  · rw [if_neg c]
    unfold zEd
    rw [if_neg h3, if_neg c]
theorem zThrX_w (cr : Nat → Int32) (q : zR) (j : Nat) (v : Int32) {x : Int32} (hx : zIx 6 x) : zThrX cr (va_up q (20 + j) v) x = zThrX cr q x := by
  rcases hx with rfl | ⟨i, hi, rfl⟩
  · unfold zThrX
    rw [if_pos (by decide), if_pos (by decide)]
  · rw [zThrX_nI _ _ (by omega), zThrX_nI _ _ (by omega)]
    unfold zThr
    rw [zUp_n q v (show 10 + i ≠ 20 + j by omega)]
theorem zGrow_w (cr : Nat → Int32) (q : zR) (j : Nat) (v : Int32) {x : Int32} (hx : zIx 6 x) : zGrow cr (va_up q (20 + j) v) x = va_up (zGrow cr q x) (20 + j) v := by
  unfold zGrow
  rw [zUp_n q v (show 2 ≠ 20 + j by omega), zUp_n q v (show 0 ≠ 20 + j by omega), zThrX_w cr q j v hx]
  by_cases c : x = q 2 ∧ q 0 < zThrX cr q x
  · rw [if_pos c, if_pos c, zUp_comm _ _ _ (by omega)]
  · rw [if_neg c, if_neg c]
theorem zq4 (q : zR) (d a : Int32) : va_up (va_up (va_up (va_up (va_up q 0 d) 3 1) 5 0) 4 a) 0 d = va_up (va_up (va_up (va_up q 3 1) 4 a) 5 0) 0 d := by
  funext x
  unfold va_up
  by_cases h0 : x = 0
  · simp [h0]
  · by_cases h3 : x = 3
    · simp [h3]
    · by_cases h4 : x = 4
      · simp [h4]
      · by_cases h5 : x = 5
        · simp [h5]
        · simp [h0, h3, h4, h5]
theorem zLE_fine {cr : Nat → Int32} {q : zR} {n : Nat} {x : Int32} (h3 : q 3 = 0) (hf : zFn cr q n) : zLE cr q n x = zLk cr q n x := by
  have e : (zLk cr q n x).1 3 = 0 := by
    unfold zLk
    rw [if_pos hf]
    show zTake cr q n 3 = 0
    unfold zTake
    rw [zUp_n _ _ (by decide), zUp_n _ _ (by decide), zUp_n _ _ (by decide)]
    exact h3
  unfold zLE zEd
  rw [if_pos e]
  simp
section ZM
variable {n r t : Nat} {C : Nat → Nat → Int32} {P : Nat → zR} {q : zR} {S : Nat → Int32} {L : List zL} {st : zS}
theorem m_look (hn : n ≤ 6) (h1n : 1 ≤ n) (hr : r < 6) (ht : t < 6) (hcr : ∀ j, j < n → ¬ C r j < 0) (hR : zRM C (va_up P (6 * r + t) q) S L st) {x : Int32} (hx : zIx n x) (hq : zIx n (q 2)) (h3 : q 3 = 0) (hw : ∀ j, j < n → ¬ 0 < C r j → q (20 + j) = 0) (hL : L.length + 21 ≤ 1024) : ∃ st', F_M_look n (nI r) (nI t) x st = some (0, st') ∧ zRM C (va_up P (6 * r + t) (zLE (C r) q n x).1) (zCnt (zLE (C r) q n x).2 S) (zPush (6 * r + t) (zLE (C r) q n x).2 L) st' := by
  have g := zo_in (show 6 * r + t < 36 by omega) (by decide)
  have ec : Int32.toNatClampNeg (nI (6 * r + t)) = 6 * r + t := zo_c (by omega)
  have e2 : st 2 0 (6 * r + t) = q 0 := rm_f hR (show 6 * r + t < 36 by omega) (show 0 < 6 by decide)
  have e4 : st 4 0 (6 * r + t) = q 2 := rm_f hR (show 6 * r + t < 36 by omega) (show 2 < 6 by decide)
  have hneg := zIx_neg hn hx
  unfold F_M_look
  rw [m_fine hn hr ht hcr hR, zbs, i6]
  dsimp only
  unfold F_M_look_s1
  by_cases hf : zFn (C r) q n
  · rw [if_pos hf, if_neg (by decide), if_neg g]
    simp only [ec, e2]
    rw [zLE_fine h3 hf]
    unfold zLk
    rw [if_pos hf]
    obtain ⟨st1, a1, r1⟩ := m_settle hn h1n hr ht hcr hq hf hR
    rw [a1, zbs]
    dsimp only
    have tail : ∀ (st2 : zS) (S2 : Nat → Int32) (L2 : List zL), L2.length + 6 ≤ 1024 → zRM C (va_up P (6 * r + t) (zTake (C r) q n)) S2 L2 st2 → ∃ st', F_M_look_L44 n (nI r) (nI t) x (nI (6 * r + t)) (q 0) st2 = some (0, st') ∧ zRM C (va_up P (6 * r + t) (zTake (C r) q n)) (zCnt (if zLst (C r) q n = q 0 then [] else zTell (zNb (C r) x n) 0 (zLst (C r) q n)) S2) (zPush (6 * r + t) (if zLst (C r) q n = q 0 then [] else zTell (zNb (C r) x n) 0 (zLst (C r) q n)) L2) st' := by
      intro st2 S2 L2 hl r2
      have e2 : st2 2 0 (6 * r + t) = zLst (C r) q n := by
        have := rm_f r2 (show 6 * r + t < 36 by omega) (show 0 < 6 by decide)
        rw [zTake_0] at this
        exact this
      unfold F_M_look_L44
      rw [if_neg g]
      simp only [ec, e2]
      by_cases h : zLst (C r) q n = q 0
      · rw [if_pos h, if_pos h, zPush_nil]
        exact ⟨st2, rfl, r2⟩
      · rw [if_neg h, if_neg h]
        obtain ⟨st3, a3, r3⟩ := m_tell (kd := 0) hn hr ht (by decide) r2 x hl
        rw [zTake_0] at r3
        have a3 : F_M_tellAll n (nI r) (nI t) 0 x st2 = _ := a3
        rw [a3, zbs]
        exact ⟨st3, rfl, r3⟩
    unfold F_M_look_s6
    by_cases hx1 : x = -1
    · have eo : zOne x 2 (zLst (C r) q n) = [] := by unfold zOne; rw [if_pos hx1]
      rw [if_pos (hneg.mpr hx1), eo, List.nil_append]
      exact tail st1 S L (by omega) r1
    · rw [if_neg (fun c => hx1 (hneg.mp c))]
      obtain ⟨st2, a2, r2⟩ := m_sendX hr ht r1 hx hx1 hn (by omega)
      rw [zTake_0] at r2
      rw [a2, zbs]
      dsimp only
      unfold F_M_look_s7
      rw [zCnt_app, zPush_app]
      exact tail st2 _ _ (by have := zOne_len x 2 (zLst (C r) q n); rw [zPush_len]; omega) r2
  · rw [if_neg hf, if_pos rfl, if_neg g]
    simp only [ec, e4]
    rw [m_through hr ht hR (zIx_6 hn hq), zbs]
    dsimp only
    unfold F_M_look_s2 F_M_look_s3 F_M_look_s4
    simp only [if_neg g, ec]
    have r3 : zRM C (va_up P (6 * r + t) (va_up (va_up (va_up q 0 (zThrX (C r) q (q 2))) 3 1) 5 0)) S L (zs (zs (zs st 2 0 (6 * r + t) (zThrX (C r) q (q 2))) 5 0 (6 * r + t) 1) 7 0 (6 * r + t) 0) := rm_pf (rm_pf (rm_pf hR (show 0 < 6 by decide) _) (show 3 < 6 by decide) 1) (show 5 < 6 by decide) 0
    generalize zs (zs (zs st 2 0 (6 * r + t) (zThrX (C r) q (q 2))) 5 0 (6 * r + t) 1) 7 0 (6 * r + t) 0 = st3 at r3 ⊢
    have e43 : st3 4 0 (6 * r + t) = q 2 := by
      have := rm_f r3 (show 6 * r + t < 36 by omega) (show 2 < 6 by decide)
      rw [zUp_n _ _ (by decide), zUp_n _ _ (by decide), zUp_n _ _ (by decide)] at this
      exact this
    have step : F_M_look_s5 n (nI (6 * r + t)) (nI r) (nI t) x st3 = F_M_look_L133 n (nI r) (nI t) x (nI (6 * r + t)) (nI (6 * r + t)) (zAk x q) st3 := by
      unfold F_M_look_s5 F_M_look_L132 zAk
      by_cases hx1 : x = -1
      · rw [if_pos (hneg.mpr hx1), if_pos hx1]
      · rw [if_neg (fun c => hx1 (hneg.mp c)), if_neg hx1, if_neg g]
        simp only [ec, e43]
        by_cases hx2 : x = q 2
        · rw [if_pos hx2, if_pos hx2]
        · rw [if_neg hx2, if_neg hx2]
    rw [step]
    have hz : zAk x q = 0 ∨ zAk x q = 1 := by
      unfold zAk
      by_cases hx1 : x = -1
      · rw [if_pos hx1]; exact Or.inl rfl
      · rw [if_neg hx1]
        by_cases hx2 : x = q 2
        · rw [if_pos hx2]; exact Or.inr rfl
        · rw [if_neg hx2]; exact Or.inl rfl
    unfold F_M_look_L133
    rw [if_neg g, if_neg (fun c => c hz)]
    simp only [ec]
    have r4 : zRM C (va_up P (6 * r + t) (va_up (va_up (va_up (va_up q 0 (zThrX (C r) q (q 2))) 3 1) 5 0) 4 (zAk x q))) S L (zs st3 6 0 (6 * r + t) (zAk x q)) := rm_pf r3 (show 4 < 6 by decide) _
    generalize zs st3 6 0 (6 * r + t) (zAk x q) = st4 at r4 ⊢
    have e64 : st4 6 0 (6 * r + t) = zAk x q := by
      have := rm_f r4 (show 6 * r + t < 36 by omega) (show 4 < 6 by decide)
      rw [zUp_s] at this
      exact this
    have d0 : (va_up (va_up (va_up (va_up q 0 (zThrX (C r) q (q 2))) 3 1) 5 0) 4 (zAk x q)) 0 = zThrX (C r) q (q 2) := by
      rw [zUp_n _ _ (by decide), zUp_n _ _ (by decide), zUp_n _ _ (by decide), zUp_s]
    have d2 : (va_up (va_up (va_up (va_up q 0 (zThrX (C r) q (q 2))) 3 1) 5 0) 4 (zAk x q)) 2 = q 2 := by
      rw [zUp_n _ _ (by decide), zUp_n _ _ (by decide), zUp_n _ _ (by decide), zUp_n _ _ (by decide)]
    have dt : zThrX (C r) (va_up (va_up (va_up (va_up q 0 (zThrX (C r) q (q 2))) 3 1) 5 0) 4 (zAk x q)) (q 2) = zThrX (C r) q (q 2) := by
      rw [zThrX_up _ _ (by decide), zThrX_up _ _ (by decide), zThrX_up _ _ (by decide), zThrX_up _ _ (by decide)]
    have dm : zMeas (C r) (va_up (va_up q 3 1) 4 (zAk x q)) = va_up (va_up (va_up (va_up (va_up q 0 (zThrX (C r) q (q 2))) 3 1) 5 0) 4 (zAk x q)) 0 (zThrX (C r) q (q 2)) := by
      rw [zq4]
      unfold zMeas
      rw [zThrX_up _ _ (by decide), zThrX_up _ _ (by decide), zUp_n _ _ (by decide), zUp_n _ _ (by decide)]
    have tail : ∀ (st5 : zS) (o : List zO), o.length ≤ 1 → zRM C (va_up P (6 * r + t) (va_up (va_up (va_up (va_up q 0 (zThrX (C r) q (q 2))) 3 1) 5 0) 4 (zAk x q))) (zCnt o S) (zPush (6 * r + t) o L) st5 → (zLk (C r) q n x).2 = o ++ zTell (zNb (C r) (-1) n) 1 (zThrX (C r) q (q 2)) → ∃ st', F_M_look_L156 n (nI r) (nI t) st5 = some (0, st') ∧ zRM C (va_up P (6 * r + t) (zLE (C r) q n x).1) (zCnt (zLE (C r) q n x).2 S) (zPush (6 * r + t) (zLE (C r) q n x).2 L) st' := by
      intro st5 o ho r5 hout
      have e1 : (zLk (C r) q n x).1 = zAwait (C r) (zMeas (C r) (va_up (va_up q 3 1) 4 (zAk x q))) n := by
        unfold zLk; rw [if_neg hf]
      unfold F_M_look_L156
      obtain ⟨st6, a6, r6⟩ := m_ask hn hr ht r5 (by rw [d2]; exact zIx_6 hn hq) (by rw [zPush_len]; omega)
      rw [d2, dt, ← dm, ← zCnt_app, ← zPush_app, ← hout] at r6
      have hwm : ∀ j, j < n → ¬ 0 < C r j → zMeas (C r) (va_up (va_up q 3 1) 4 (zAk x q)) (20 + j) = 0 := by
        intro j hj hc
        rw [zMeas_n _ _ (by omega) (by omega), zUp_n _ _ (by omega), zUp_n _ _ (by omega)]
        exact hw j hj hc
      rw [zAw2_eq n hwm, ← e1] at r6
      rw [a6, zbs]
      dsimp only
      unfold F_M_look_L156_s1
      have hq3 : ¬ (zLk (C r) q n x).1 3 = 0 := by
        rw [e1, zAwait_lo _ _ (by decide), zMeas_n _ _ (by decide) (by decide), zUp_n _ _ (by decide), zUp_s]
        decide
      have hww := zWt_await (show n < 2 ^ 31 by omega) hwm
      rw [← e1] at hww
      by_cases c : (zNb (C r) (-1) n).length = 0
      · rw [if_pos c, if_pos rfl]
        have hw6 : ∀ j, j < n → ¬ 0 < C r j → (zLk (C r) q n x).1 (20 + j) = 0 := by
          intro j hj hc
          rw [e1, zAwait_at, if_neg (fun y => hc y.2)]
          exact hwm j hj hc
        have hl := zLk_len (C r) q n x
        obtain ⟨st7, a7, r7⟩ := m_end hn h1n hr ht hcr r6 (zLk_ix _ _ _ _ hq) hw6 (by rw [zPush_len]; omega)
        rw [a7, zbs]
        refine ⟨st7, rfl, ?_⟩
        rw [← zEd_En (by omega) hq3 (hww.mpr c) hw6] at r7
        unfold zLE
        rw [zCnt_app, zPush_app]
        exact r7
      · rw [if_neg c, if_neg (by decide)]
        refine ⟨st6, rfl, ?_⟩
        have : zLE (C r) q n x = zLk (C r) q n x := by
          unfold zLE zEd
          rw [if_neg hq3, if_neg (fun y => c (hww.mp y))]
          simp
        rw [this]
        exact r6
    have hout : ∀ o, (if zAk x q = 0 then zOne x 2 (zThrX (C r) q (q 2)) else []) = o → (zLk (C r) q n x).2 = o ++ zTell (zNb (C r) (-1) n) 1 (zThrX (C r) q (q 2)) := by
      intro o ho
      unfold zLk
      rw [if_neg hf, ho]
    unfold F_M_look_L133_s1
    by_cases hx1 : x = -1
    · rw [if_pos (hneg.mpr hx1)]
      refine tail st4 [] (by simp) (by rw [zPush_nil]; exact r4) (hout [] ?_)
      by_cases c : zAk x q = 0
      · rw [if_pos c]; unfold zOne; rw [if_pos hx1]
      · rw [if_neg c]
    · rw [if_neg (fun c => hx1 (hneg.mp c)), if_neg g]
      simp only [ec, e64]
      by_cases c : zAk x q = 0
      · rw [if_pos c]
        obtain ⟨st5, a5, r5⟩ := m_sendX hr ht r4 hx hx1 hn (by omega)
        rw [d0] at r5
        rw [a5, zbs]
        dsimp only
        unfold F_M_look_L133_s2
        exact tail st5 _ (zOne_len _ _ _) r5 (hout _ (if_pos c))
      · rw [if_neg c]
        exact tail st4 [] (by simp) (by rw [zPush_nil]; exact r4) (hout [] (if_neg c))
end ZM
