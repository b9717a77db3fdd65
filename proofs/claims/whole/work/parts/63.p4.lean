/-! look, endIfDone, hear of the program, on one route. -/
def zAk (x : Int32) (q : zR) : Int32 := if x = -1 then 0 else if x = q 2 then 1 else 0
def zLk (cr : Nat → Int32) (q : zR) (n : Nat) (x : Int32) : zR × List zO :=
  if zFn cr q n then (zTake cr q n, zOne x 2 (zLst cr q n) ++ (if zLst cr q n = q 0 then [] else zTell (zNb cr x n) 0 (zLst cr q n)))
  else (zAwait cr (zMeas cr (va_up (va_up q 3 1) 4 (zAk x q))) n, (if zAk x q = 0 then zOne x 2 (zThrX cr q (q 2)) else []) ++ zTell (zNb cr (-1) n) 1 (zThrX cr q (q 2)))
def zE1 (cr : Nat → Int32) (q : zR) (n : Nat) : zR × List zO :=
  if zFn cr (if q 5 = 0 then va_up q 1 10000 else q) n then
    (zCalm (zTake cr (if q 5 = 0 then va_up q 1 10000 else q) n), zOne (if q 4 = 0 then -1 else q 2) 2 (zLst cr (if q 5 = 0 then va_up q 1 10000 else q) n) ++ zTell (zNb cr (if q 4 = 0 then -1 else q 2) n) 0 (zLst cr (if q 5 = 0 then va_up q 1 10000 else q) n))
  else (zAwait cr (zMeas cr (if q 5 = 0 then va_up q 1 10000 else q)) n, zTell (zNb cr (-1) n) 1 (zThrX cr q (q 2)))
def zEd (cr : Nat → Int32) (q : zR) (n : Nat) : zR × List zO :=
  if q 3 = 0 then (q, []) else if zWt q n = 0 then
    (if (zE1 cr q n).1 3 = 0 then zE1 cr q n else if zWt (zE1 cr q n).1 n = 0 then ((zE1 cr (zE1 cr q n).1 n).1, (zE1 cr q n).2 ++ (zE1 cr (zE1 cr q n).1 n).2) else zE1 cr q n)
  else (q, [])
theorem zOne_len (x : Int32) (kd : Nat) (d : Int32) : (zOne x kd d).length ≤ 1 := by
  unfold zOne
  by_cases h : x = -1
  · rw [if_pos h]; simp
  · rw [if_neg h]; simp
theorem zTake_0 (cr : Nat → Int32) (q : zR) (n : Nat) : zTake cr q n 0 = zLst cr q n := by
  unfold zTake
  rw [zUp_n _ _ (by decide), zUp_s]
theorem zMeas_0 (cr : Nat → Int32) (q : zR) : zMeas cr q 0 = zThrX cr q (q 2) := by
  unfold zMeas
  rw [zUp_s]
theorem zMeas_n (cr : Nat → Int32) (q : zR) {f : Nat} (h0 : f ≠ 0) (h5 : f ≠ 5) : zMeas cr q f = q f := by
  unfold zMeas
  rw [zUp_n _ _ h0, zUp_n _ _ h5]
section ZP
variable {n k : Nat} {C : Nat → Nat → Int32} {P : Nat → zR} {q : zR} {S : Nat → Int32} {L : List zL} {lk : Int32} {st : zS}
theorem f_sendX (hk : k / 6 < n ∧ k % 6 < n) (hR : zRC n C (va_up P k q) S L lk st) {x : Int32} (hx : zIx n x) (hne : ¬ x = -1) (hn : n ≤ 6) (hL : L.length < 1024) : ∃ st', F_L_send n k x 2 st = some (0, st') ∧ zRC n C (va_up P k q) (zCnt (zOne x 2 (q 0)) S) (zPush k (zOne x 2 (q 0)) L) lk st' := by
  rcases hx with h | ⟨j, hj, rfl⟩
  · exact absurd h hne
  · have e : zOne (nI j) 2 (q 0) = [(j, 2, q 0)] := by
      unfold zOne
      rw [if_neg hne, zo_c (by omega)]
    rw [e]
    exact f_send (to := j) (kd := 2) hk hR (by decide) hL
theorem f_look (hn : n ≤ 6) (hk : k / 6 < n ∧ k % 6 < n) (hR : zRC n C (va_up P k q) S L lk st) {x : Int32} (hx : zIx n x) (h2 : zIx n (q 2)) (hL : L.length + 7 ≤ 1024) : ∃ st', F_D_look n k x st = some (0, st') ∧ zRC n C (va_up P k (zLk (C (k / 6)) q n x).1) (zCnt (zLk (C (k / 6)) q n x).2 S) (zPush k (zLk (C (k / 6)) q n x).2 L) lk st' := by
  have e0 := rc_f hR hk (show 0 < 6 by decide)
  unfold F_D_look
  obtain ⟨st1, a1, r1⟩ := f_takeBest hn hk hR
  rw [a1, e0]
  unfold zLk
  by_cases hf : zFn (C (k / 6)) q n
  · rw [if_pos hf] at r1
    rw [if_pos hf, if_pos hf]
    show ∃ st', F_D_look_s1 n (q 0) k x 1 st1 = some (0, st') ∧ _
    unfold F_D_look_s1
    rw [if_neg (by decide)]
    have tail : ∀ (st2 : zS) (S2 : Nat → Int32) (L2 : List zL), L2.length + 6 ≤ 1024 → zRC n C (va_up P k (zTake (C (k / 6)) q n)) S2 L2 lk st2 → ∃ st', F_D_look_L27 n k x (q 0) st2 = some (0, st') ∧ zRC n C (va_up P k (zTake (C (k / 6)) q n)) (zCnt (if zLst (C (k / 6)) q n = q 0 then [] else zTell (zNb (C (k / 6)) x n) 0 (zLst (C (k / 6)) q n)) S2) (zPush k (if zLst (C (k / 6)) q n = q 0 then [] else zTell (zNb (C (k / 6)) x n) 0 (zLst (C (k / 6)) q n)) L2) lk st' := by
      intro st2 S2 L2 hl r2
      have e2 := rc_f r2 hk (show 0 < 6 by decide)
      rw [zTake_0] at e2
      unfold F_D_look_L27
      rw [e2]
      by_cases h : zLst (C (k / 6)) q n = q 0
      · rw [if_pos h, if_pos h, zPush_nil]
        exact ⟨st2, rfl, r2⟩
      · rw [if_neg h, if_neg h]
        obtain ⟨st3, a3, r3⟩ := f_upd hn hk r2 x hl
        rw [zTake_0] at r3
        rw [a3]
        exact ⟨st3, rfl, r3⟩
    by_cases hx1 : x = -1
    · have eo : zOne x 2 (zLst (C (k / 6)) q n) = [] := by unfold zOne; rw [if_pos hx1]
      rw [if_pos hx1, eo, List.nil_append]
      exact tail st1 S L (by omega) r1
    · rw [if_neg hx1]
      obtain ⟨st2, a2, r2⟩ := f_sendX hk r1 hx hx1 hn (by omega)
      rw [zTake_0] at r2
      rw [a2]
      show ∃ st', F_D_look_s3 n (q 0) k x st2 = some (0, st') ∧ _
      unfold F_D_look_s3
      rw [zCnt_app, zPush_app]
      exact tail st2 _ _ (by have := zOne_len x 2 (zLst (C (k / 6)) q n); rw [zPush_len]; omega) r2
  · rw [if_neg hf] at r1
    rw [if_neg hf, if_neg hf]
    show ∃ st', F_D_look_s1 n (q 0) k x 0 st1 = some (0, st') ∧ _
    unfold F_D_look_s1 F_D_look_s2 F_D_look_L65
    rw [if_pos rfl]
    have r2 := rc_pf r1 (show 3 < 6 by decide) 1
    have e2 := rc_f r2 hk (show 2 < 6 by decide)
    rw [zUp_n _ _ (by decide)] at e2
    have d0 : zThrX (C (k / 6)) (va_up (va_up q 3 1) 4 (zAk x q)) ((va_up (va_up q 3 1) 4 (zAk x q)) 2) = zThrX (C (k / 6)) q (q 2) := by
      rw [zThrX_up _ _ (by decide), zThrX_up _ _ (by decide), zUp_n _ _ (by decide), zUp_n _ _ (by decide)]
    have step : F_D_look_s2 n k x (zs st1 7 k 3 1) = F_D_look_L66 n k x k (zAk x q) (zs st1 7 k 3 1) := by
      unfold F_D_look_s2 F_D_look_L65 zAk
      rw [e2]
      by_cases hx1 : x = -1
      · rw [if_pos hx1, if_pos hx1]
      · rw [if_neg hx1, if_neg hx1]
        by_cases hx2 : x = q 2
        · rw [if_pos hx2, if_pos hx2]
        · rw [if_neg hx2, if_neg hx2]
    unfold F_D_look_s2 F_D_look_L65 at step
    rw [step]
    have hz : zAk x q = 0 ∨ zAk x q = 1 := by
      unfold zAk
      by_cases hx1 : x = -1
      · rw [if_pos hx1]; exact Or.inl rfl
      · rw [if_neg hx1]
        by_cases hx2 : x = q 2
        · rw [if_pos hx2]; exact Or.inr rfl
        · rw [if_neg hx2]; exact Or.inl rfl
    unfold F_D_look_L66
    rw [if_neg (fun c => c hz)]
    have r3 := rc_pf r2 (show 4 < 6 by decide) (zAk x q)
    unfold F_D_look_L66_s1
    obtain ⟨st4, a4, r4⟩ := f_measure hn hk r3 (by rw [zUp_n _ _ (by decide), zUp_n _ _ (by decide)]; exact h2)
    rw [a4]
    show ∃ st', F_D_look_L66_s2 n k x st4 = some (0, st') ∧ _
    have e4 := rc_f r4 hk (show 4 < 6 by decide)
    rw [zMeas_n _ _ (by decide) (by decide), zUp_s] at e4
    have em : zMeas (C (k / 6)) (va_up (va_up q 3 1) 4 (zAk x q)) 0 = zThrX (C (k / 6)) q (q 2) := by rw [zMeas_0, d0]
    have tail : ∀ (st5 : zS) (S2 : Nat → Int32) (L2 : List zL), L2.length + 6 ≤ 1024 → zRC n C (va_up P k (zMeas (C (k / 6)) (va_up (va_up q 3 1) 4 (zAk x q)))) S2 L2 lk st5 → ∃ st', F_D_look_L95 n k st5 = some (0, st') ∧ zRC n C (va_up P k (zAwait (C (k / 6)) (zMeas (C (k / 6)) (va_up (va_up q 3 1) 4 (zAk x q))) n)) (zCnt (zTell (zNb (C (k / 6)) (-1) n) 1 (zThrX (C (k / 6)) q (q 2))) S2) (zPush k (zTell (zNb (C (k / 6)) (-1) n) 1 (zThrX (C (k / 6)) q (q 2))) L2) lk st' := by
      intro st5 S2 L2 hl r5
      unfold F_D_look_L95
      obtain ⟨st6, a6, r6⟩ := f_ask hn hk r5 hl
      rw [em] at r6
      rw [a6]
      exact ⟨st6, rfl, r6⟩
    unfold F_D_look_L66_s2
    by_cases hx1 : x = -1
    · have eo : (if zAk x q = 0 then zOne x 2 (zThrX (C (k / 6)) q (q 2)) else []) = [] := by
        by_cases c : zAk x q = 0
        · rw [if_pos c]; unfold zOne; rw [if_pos hx1]
        · rw [if_neg c]
      rw [if_pos hx1, eo, List.nil_append]
      exact tail st4 S L (by omega) r4
    · rw [if_neg hx1, e4]
      by_cases c : zAk x q = 0
      · rw [if_pos c, if_pos c]
        obtain ⟨st5, a5, r5⟩ := f_sendX hk r4 hx hx1 hn (by omega)
        rw [em] at r5
        rw [a5]
        show ∃ st', F_D_look_L66_s3 n k st5 = some (0, st') ∧ _
        unfold F_D_look_L66_s3
        rw [zCnt_app, zPush_app]
        exact tail st5 _ _ (by have := zOne_len x 2 (zThrX (C (k / 6)) q (q 2)); rw [zPush_len]; omega) r5
      · rw [if_neg c, if_neg c, List.nil_append]
        exact tail st4 S L (by omega) r4
theorem f_e51 (hn : n ≤ 6) (hk : k / 6 < n ∧ k % 6 < n) (hR : zRC n C (va_up P k q) S L lk st) {x : Int32} (hx : zIx n x) (h2 : zIx n (q 2)) (hL : L.length + 7 ≤ 1024) (c2 : Nat → Int32 → zS → Option (Int32 × zS)) (v2 : Int32) :
    ∃ st', F_D_endIfDone_L51 n c2 k v2 x st = c2 k (v2 + 1) st' ∧ zRC n C (va_up P k (if zFn (C (k / 6)) q n then zCalm (zTake (C (k / 6)) q n) else zAwait (C (k / 6)) (zMeas (C (k / 6)) q) n))
      (zCnt (if zFn (C (k / 6)) q n then zOne x 2 (zLst (C (k / 6)) q n) ++ zTell (zNb (C (k / 6)) x n) 0 (zLst (C (k / 6)) q n) else zTell (zNb (C (k / 6)) (-1) n) 1 (zThrX (C (k / 6)) q (q 2))) S)
      (zPush k (if zFn (C (k / 6)) q n then zOne x 2 (zLst (C (k / 6)) q n) ++ zTell (zNb (C (k / 6)) x n) 0 (zLst (C (k / 6)) q n) else zTell (zNb (C (k / 6)) (-1) n) 1 (zThrX (C (k / 6)) q (q 2))) L) lk st' := by
  unfold F_D_endIfDone_L51
  obtain ⟨st1, a1, r1⟩ := f_takeBest hn hk hR
  rw [a1]
  by_cases hf : zFn (C (k / 6)) q n
  · rw [if_pos hf] at r1
    simp only [if_pos hf]
    show ∃ st', F_D_endIfDone_L51_s1 n c2 k v2 x 1 st1 = c2 k (v2 + 1) st' ∧ _
    unfold F_D_endIfDone_L51_s1
    rw [if_neg (by decide)]
    obtain ⟨st2, a2, r2⟩ := f_calm r1
    rw [a2]
    show ∃ st', F_D_endIfDone_L51_s4 n c2 k v2 x st2 = c2 k (v2 + 1) st' ∧ _
    have ez : zCalm (zTake (C (k / 6)) q n) 0 = zLst (C (k / 6)) q n := by
      unfold zCalm
      rw [zUp_n _ _ (by decide), zUp_n _ _ (by decide), zUp_n _ _ (by decide), zTake_0]
    have tail : ∀ (st3 : zS) (S2 : Nat → Int32) (L2 : List zL), L2.length + 6 ≤ 1024 → zRC n C (va_up P k (zCalm (zTake (C (k / 6)) q n))) S2 L2 lk st3 → ∃ st', F_D_endIfDone_L77 n c2 k v2 x st3 = c2 k (v2 + 1) st' ∧ zRC n C (va_up P k (zCalm (zTake (C (k / 6)) q n))) (zCnt (zTell (zNb (C (k / 6)) x n) 0 (zLst (C (k / 6)) q n)) S2) (zPush k (zTell (zNb (C (k / 6)) x n) 0 (zLst (C (k / 6)) q n)) L2) lk st' := by
      intro st3 S2 L2 hl r3
      unfold F_D_endIfDone_L77
      obtain ⟨st4, a4, r4⟩ := f_upd hn hk r3 x hl
      rw [ez] at r4
      rw [a4]
      exact ⟨st4, rfl, r4⟩
    unfold F_D_endIfDone_L51_s4
    by_cases hx1 : x = -1
    · have eo : zOne x 2 (zLst (C (k / 6)) q n) = [] := by unfold zOne; rw [if_pos hx1]
      rw [if_pos hx1, eo, List.nil_append]
      exact tail st2 S L (by omega) r2
    · rw [if_neg hx1]
      obtain ⟨st3, a3, r3⟩ := f_sendX hk r2 hx hx1 hn (by omega)
      rw [ez] at r3
      rw [a3]
      show ∃ st', F_D_endIfDone_L51_s5 n c2 k v2 x st3 = c2 k (v2 + 1) st' ∧ _
      unfold F_D_endIfDone_L51_s5
      rw [zCnt_app, zPush_app]
      exact tail st3 _ _ (by have := zOne_len x 2 (zLst (C (k / 6)) q n); rw [zPush_len]; omega) r3
  · rw [if_neg hf] at r1
    simp only [if_neg hf]
    show ∃ st', F_D_endIfDone_L51_s1 n c2 k v2 x 0 st1 = c2 k (v2 + 1) st' ∧ _
    unfold F_D_endIfDone_L51_s1
    rw [if_pos rfl]
    obtain ⟨st2, a2, r2⟩ := f_measure hn hk r1 h2
    rw [a2]
    show ∃ st', F_D_endIfDone_L51_s2 n c2 k v2 st2 = c2 k (v2 + 1) st' ∧ _
    unfold F_D_endIfDone_L51_s2
    obtain ⟨st3, a3, r3⟩ := f_ask hn hk r2 (by omega)
    rw [zMeas_0] at r3
    rw [a3]
    exact ⟨st3, rfl, r3⟩
theorem f_e1 (hn : n ≤ 6) (hk : k / 6 < n ∧ k % 6 < n) (hR : zRC n C (va_up P k q) S L lk st) (h2 : zIx n (q 2)) (hL : L.length + 7 ≤ 1024) (f : Nat) (v2 : Int32) (hv : ¬ 2 ≤ v2) (h3 : ¬ q 3 = 0) (hw : zWt q n = 0) :
    ∃ st', F_D_endIfDone_L2 n (f + 1) k v2 st = F_D_endIfDone_L2 n f k (v2 + 1) st' ∧ zRC n C (va_up P k (zE1 (C (k / 6)) q n).1) (zCnt (zE1 (C (k / 6)) q n).2 S) (zPush k (zE1 (C (k / 6)) q n).2 L) lk st' := by
  rw [F_D_endIfDone_L2, if_neg hv, rc_f hR hk (show 3 < 6 by decide), if_neg h3, f_wait hn hk hR, hw]
  show ∃ st', F_D_endIfDone_L2_s1 n (F_D_endIfDone_L2 n f) k v2 0 st = _ ∧ _
  unfold F_D_endIfDone_L2_s1
  rw [if_pos rfl, rc_f hR hk (show 4 < 6 by decide), rc_f hR hk (show 2 < 6 by decide)]
  have e36 : (if q 4 = 0 then F_D_endIfDone_L36 n (F_D_endIfDone_L2 n f) k v2 (-1) st else F_D_endIfDone_L36 n (F_D_endIfDone_L2 n f) k v2 (q 2) st) = F_D_endIfDone_L36 n (F_D_endIfDone_L2 n f) k v2 (if q 4 = 0 then -1 else q 2) st := by
    by_cases h4 : q 4 = 0
    · rw [if_pos h4, if_pos h4]
    · rw [if_neg h4, if_neg h4]
  rw [e36]
  have hx : zIx n (if q 4 = 0 then -1 else q 2) := by
    by_cases h4 : q 4 = 0
    · rw [if_pos h4]; exact Or.inl rfl
    · rw [if_neg h4]; exact h2
  unfold F_D_endIfDone_L36 zE1
  rw [rc_f hR hk (show 5 < 6 by decide)]
  by_cases h5 : q 5 = 0
  · simp only [if_pos h5]
    unfold F_D_endIfDone_L36_s1
    obtain ⟨st', a, r⟩ := f_e51 hn hk (rc_pf hR (show 1 < 6 by decide) 10000) hx (by rw [zUp_n _ _ (by decide)]; exact h2) hL (F_D_endIfDone_L2 n f) v2
    refine ⟨st', a, ?_⟩
    rw [zThrX_up _ _ (by decide), zUp_n _ _ (show 2 ≠ 1 by decide)] at r
    by_cases hf : zFn (C (k / 6)) (va_up q 1 10000) n
    · simp only [if_pos hf] at r ⊢; exact r
    · simp only [if_neg hf] at r ⊢; exact r
  · simp only [if_neg h5]
    obtain ⟨st', a, r⟩ := f_e51 hn hk hR hx h2 hL (F_D_endIfDone_L2 n f) v2
    refine ⟨st', a, ?_⟩
    by_cases hf : zFn (C (k / 6)) q n
    · simp only [if_pos hf] at r ⊢; exact r
    · simp only [if_neg hf] at r ⊢; exact r
end ZP
