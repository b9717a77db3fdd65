/-! endIfDone and hear, whole. -/
theorem zWt_01 (q : zR) : ∀ i, zWt q i = 0 ∨ zWt q i = 1
  | 0 => Or.inl rfl
  | i + 1 => by
    show (if q (20 + i) = 0 then zWt q i else 1) = 0 ∨ (if q (20 + i) = 0 then zWt q i else 1) = 1
    by_cases c : q (20 + i) = 0
    · rw [if_pos c]; exact zWt_01 q i
    · rw [if_neg c]; exact Or.inr rfl
theorem zBst_ix (cr : Nat → Int32) (q : zR) (far : Int32) : ∀ i, zIx i (zBst cr q far i)
  | 0 => Or.inl rfl
  | i + 1 => by
    show zIx (i + 1) (if (q (10 + i) < q 1 ∧ zThr cr q i = far) ∧ (zBst cr q far i = -1 ∨ nI i = q 2) then nI i else zBst cr q far i)
    by_cases c : (q (10 + i) < q 1 ∧ zThr cr q i = far) ∧ (zBst cr q far i = -1 ∨ nI i = q 2)
    · rw [if_pos c]; exact Or.inr ⟨i, Nat.lt_succ_self _, rfl⟩
    · rw [if_neg c]
      rcases zBst_ix cr q far i with h | ⟨j, h1, h2⟩
      · exact Or.inl h
      · exact Or.inr ⟨j, Nat.lt_succ_of_lt h1, h2⟩
theorem zBest_ix (cr : Nat → Int32) (q : zR) (n : Nat) : zIx n (zBest cr q n) := by
  unfold zBest
  by_cases h : zLst cr q n = 10000
  · rw [if_pos h]; exact Or.inl rfl
  · rw [if_neg h]; exact zBst_ix cr q _ n
theorem zTake_2 (cr : Nat → Int32) (q : zR) (n : Nat) : zTake cr q n 2 = zBest cr q n := by
  unfold zTake
  rw [zUp_n _ _ (by decide), zUp_n _ _ (by decide), zUp_s]
theorem zTell_nb (cr : Nat → Int32) (x : Int32) (n kd : Nat) (d : Int32) : (zTell (zNb cr x n) kd d).length ≤ n := by
  rw [zTell_len]; exact zNb_len cr x n
theorem zLk_len (cr : Nat → Int32) (q : zR) (n : Nat) (x : Int32) : (zLk cr q n x).2.length ≤ n + 1 := by
  unfold zLk
  by_cases hf : zFn cr q n
  · rw [if_pos hf]
    show (zOne x 2 (zLst cr q n) ++ (if zLst cr q n = q 0 then [] else zTell (zNb cr x n) 0 (zLst cr q n))).length ≤ n + 1
    have h1 := zOne_len x 2 (zLst cr q n)
    have h2 := zTell_nb cr x n 0 (zLst cr q n)
    rw [List.length_append]
    by_cases c : zLst cr q n = q 0
    · rw [if_pos c]; simp only [List.length_nil]; omega
    · rw [if_neg c]; omega
  · rw [if_neg hf]
    show ((if zAk x q = 0 then zOne x 2 (zThrX cr q (q 2)) else []) ++ zTell (zNb cr (-1) n) 1 (zThrX cr q (q 2))).length ≤ n + 1
    have h1 := zOne_len x 2 (zThrX cr q (q 2))
    have h2 := zTell_nb cr (-1) n 1 (zThrX cr q (q 2))
    rw [List.length_append]
    by_cases c : zAk x q = 0
    · rw [if_pos c]; omega
    · rw [if_neg c]; simp only [List.length_nil]; omega
theorem zLk_ix (cr : Nat → Int32) (q : zR) (n : Nat) (x : Int32) (h2 : zIx n (q 2)) : zIx n ((zLk cr q n x).1 2) := by
  unfold zLk
  by_cases hf : zFn cr q n
  · rw [if_pos hf]
    show zIx n (zTake cr q n 2)
    rw [zTake_2]; exact zBest_ix cr q n
  · rw [if_neg hf]
    show zIx n (zAwait cr (zMeas cr (va_up (va_up q 3 1) 4 (zAk x q))) n 2)
    rw [zAwait_lo _ _ (by decide), zMeas_n _ _ (by decide) (by decide), zUp_n _ _ (by decide), zUp_n _ _ (by decide)]
    exact h2
theorem zE1_len (cr : Nat → Int32) (q : zR) (n : Nat) : (zE1 cr q n).2.length ≤ n + 1 := by
  unfold zE1
  by_cases hf : zFn cr (if q 5 = 0 then va_up q 1 10000 else q) n
  · rw [if_pos hf]
    show (_ ++ _ : List zO).length ≤ n + 1
    have h1 := zOne_len (if q 4 = 0 then -1 else q 2) 2 (zLst cr (if q 5 = 0 then va_up q 1 10000 else q) n)
    have h2 := zTell_nb cr (if q 4 = 0 then -1 else q 2) n 0 (zLst cr (if q 5 = 0 then va_up q 1 10000 else q) n)
    rw [List.length_append]; omega
  · rw [if_neg hf]
    have h2 := zTell_nb cr (-1) n 1 (zThrX cr q (q 2))
    show (zTell (zNb cr (-1) n) 1 (zThrX cr q (q 2))).length ≤ n + 1
    omega
theorem zE1_2 (cr : Nat → Int32) (q : zR) (n : Nat) (h : ¬ (zE1 cr q n).1 3 = 0) : (zE1 cr q n).1 2 = q 2 := by
  unfold zE1 at h ⊢
  by_cases hf : zFn cr (if q 5 = 0 then va_up q 1 10000 else q) n
  · rw [if_pos hf] at h
    refine absurd ?_ h
    show zCalm (zTake cr (if q 5 = 0 then va_up q 1 10000 else q) n) 3 = 0
    unfold zCalm
    rw [zUp_n _ _ (by decide), zUp_n _ _ (by decide), zUp_s]
  · rw [if_neg hf]
    show zAwait cr (zMeas cr (if q 5 = 0 then va_up q 1 10000 else q)) n 2 = q 2
    rw [zAwait_lo _ _ (by decide), zMeas_n _ _ (by decide) (by decide)]
    by_cases h5 : q 5 = 0
    · rw [if_pos h5, zUp_n _ _ (by decide)]
    · rw [if_neg h5]
def zHr (cr : Nat → Int32) (q : zR) (n fr kd : Nat) : zR × List zO :=
  if q 3 = 0 then ((zEd cr (zLk cr q n (if kd = 1 then nI fr else -1)).1 n).1, (zLk cr q n (if kd = 1 then nI fr else -1)).2 ++ (zEd cr (zLk cr q n (if kd = 1 then nI fr else -1)).1 n).2)
  else if kd = 1 then (if nI fr = q 2 then zEd cr (va_up (va_up q 4 1) 5 1) n else ((zEd cr q n).1, [(fr, 2, q 0)] ++ (zEd cr q n).2))
  else zEd cr (zGrow cr (if kd = 2 then va_up q (20 + fr) 0 else q) (nI fr)) n
section ZP
variable {n k : Nat} {C : Nat → Nat → Int32} {P : Nat → zR} {q : zR} {S : Nat → Int32} {L : List zL} {lk : Int32} {st : zS}
theorem f_end (hn : n ≤ 6) (hk : k / 6 < n ∧ k % 6 < n) (hR : zRC n C (va_up P k q) S L lk st) (h2 : zIx n (q 2)) (hL : L.length + 14 ≤ 1024) : ∃ st', F_D_endIfDone n k st = some (0, st') ∧ zRC n C (va_up P k (zEd (C (k / 6)) q n).1) (zCnt (zEd (C (k / 6)) q n).2 S) (zPush k (zEd (C (k / 6)) q n).2 L) lk st' := by
  unfold F_D_endIfDone
  rw [show zFuel = 2997 + 1 + 1 + 1 from rfl]
  unfold zEd
  by_cases h3 : q 3 = 0
  · rw [if_pos h3]
    refine ⟨st, ?_, by rw [zPush_nil]; exact hR⟩
    rw [F_D_endIfDone_L2, if_neg (by decide), rc_f hR hk (show 3 < 6 by decide), if_pos h3]
  · rw [if_neg h3]
    by_cases hw : zWt q n = 0
    · rw [if_pos hw]
      obtain ⟨st1, a1, r1⟩ := f_e1 hn hk hR h2 (by omega) (2997 + 1 + 1) 0 (by decide) h3 hw
      rw [a1]
      by_cases g3 : (zE1 (C (k / 6)) q n).1 3 = 0
      · rw [if_pos g3]
        refine ⟨st1, ?_, r1⟩
        rw [F_D_endIfDone_L2, if_neg (by decide), rc_f r1 hk (show 3 < 6 by decide), if_pos g3]
      · rw [if_neg g3]
        by_cases gw : zWt (zE1 (C (k / 6)) q n).1 n = 0
        · rw [if_pos gw]
          have hl := zE1_len (C (k / 6)) q n
          obtain ⟨st2, a2, r2⟩ := f_e1 hn hk r1 (by rw [zE1_2 _ _ _ g3]; exact h2) (by rw [zPush_len]; omega) (2997 + 1) (0 + 1) (by decide) g3 gw
          rw [a2]
          refine ⟨st2, ?_, by rw [zCnt_app, zPush_app]; exact r2⟩
          rw [F_D_endIfDone_L2, if_pos (by decide)]
        · rw [if_neg gw]
          refine ⟨st1, ?_, r1⟩
          have g1 : zWt (zE1 (C (k / 6)) q n).1 n = 1 := (zWt_01 _ n).resolve_left gw
          rw [F_D_endIfDone_L2, if_neg (by decide), rc_f r1 hk (show 3 < 6 by decide), if_neg g3, f_wait hn hk r1, g1]
          rfl
    · rw [if_neg hw]
      have g1 : zWt q n = 1 := (zWt_01 _ n).resolve_left hw
      refine ⟨st, ?_, by rw [zPush_nil]; exact hR⟩
      rw [F_D_endIfDone_L2, if_neg (by decide), rc_f hR hk (show 3 < 6 by decide), if_neg h3, f_wait hn hk hR, g1]
      rfl
theorem zEd_len (cr : Nat → Int32) (q : zR) (n : Nat) : (zEd cr q n).2.length ≤ 2 * (n + 1) := by
  unfold zEd
  have h1 := zE1_len cr q n
  have h2 := zE1_len cr (zE1 cr q n).1 n
  by_cases c1 : q 3 = 0
  · rw [if_pos c1]; simp
  · rw [if_neg c1]
    by_cases c2 : zWt q n = 0
    · rw [if_pos c2]
      by_cases c3 : (zE1 cr q n).1 3 = 0
      · rw [if_pos c3]; omega
      · rw [if_neg c3]
        by_cases c4 : zWt (zE1 cr q n).1 n = 0
        · rw [if_pos c4]
          show ((zE1 cr q n).2 ++ (zE1 cr (zE1 cr q n).1 n).2).length ≤ _
          rw [List.length_append]; omega
        · rw [if_neg c4]; omega
    · rw [if_neg c2]; simp
theorem f_hear81 (hn : n ≤ 6) (hk : k / 6 < n ∧ k % 6 < n) (hR : zRC n C (va_up P k q) S L lk st) (h2 : zIx n (q 2)) (hL : L.length + 14 ≤ 1024) : ∃ st', F_D_hear_L81 n k st = some (0, st') ∧ zRC n C (va_up P k (zEd (C (k / 6)) q n).1) (zCnt (zEd (C (k / 6)) q n).2 S) (zPush k (zEd (C (k / 6)) q n).2 L) lk st' := by
  unfold F_D_hear_L81
  obtain ⟨st1, a1, r1⟩ := f_end hn hk hR h2 hL
  rw [a1]
  exact ⟨st1, rfl, r1⟩
theorem f_hear (hn : n ≤ 6) (hk : k / 6 < n ∧ k % 6 < n) (hR : zRC n C (va_up P k q) S L lk st) (h2 : zIx n (q 2)) {fr kd : Nat} (hfr : fr < n) (hkd : kd < 3) (hL : L.length + 21 ≤ 1024) : ∃ st', F_D_hear n k (nI fr) (nI kd) st = some (0, st') ∧ zRC n C (va_up P k (zHr (C (k / 6)) q n fr kd).1) (zCnt (zHr (C (k / 6)) q n fr kd).2 S) (zPush k (zHr (C (k / 6)) q n fr kd).2 L) lk st' := by
  have k1 : nI kd = 1 ↔ kd = 1 := nI_eq (a := kd) (b := 1) (by omega) (by decide)
  have k2 : nI kd = 2 ↔ kd = 2 := nI_eq (a := kd) (b := 2) (by omega) (by decide)
  have hix : zIx n (nI fr) := Or.inr ⟨fr, hfr, rfl⟩
  unfold F_D_hear zHr
  rw [rc_f hR hk (show 3 < 6 by decide), rc_f hR hk (show 2 < 6 by decide)]
  by_cases h3 : q 3 = 0
  · rw [if_pos h3, if_pos h3]
    have e19 : (if nI kd = 1 then F_D_hear_L19 n k k (nI fr) st else F_D_hear_L19 n k k (-1) st) = F_D_hear_L19 n k k (if kd = 1 then nI fr else -1) st := by
      by_cases c : kd = 1
      · rw [if_pos (k1.mpr c), if_pos c]
      · rw [if_neg (fun e => c (k1.mp e)), if_neg c]
    rw [e19]
    have hx : zIx n (if kd = 1 then nI fr else -1) := by
      by_cases c : kd = 1
      · rw [if_pos c]; exact hix
      · rw [if_neg c]; exact Or.inl rfl
    unfold F_D_hear_L19
    obtain ⟨st1, a1, r1⟩ := f_look hn hk hR hx h2 (by omega)
    rw [a1]
    show ∃ st', F_D_hear_L19_s1 n k st1 = some (0, st') ∧ _
    unfold F_D_hear_L19_s1
    have hl := zLk_len (C (k / 6)) q n (if kd = 1 then nI fr else -1)
    obtain ⟨st2, a2, r2⟩ := f_hear81 hn hk r1 (zLk_ix _ _ _ _ h2) (by rw [zPush_len]; omega)
    exact ⟨st2, a2, by rw [zCnt_app, zPush_app]; exact r2⟩
  · rw [if_neg h3, if_neg h3]
    by_cases c1 : kd = 1
    · rw [if_pos (k1.mpr c1), if_pos c1]
      by_cases c2 : nI fr = q 2
      · rw [if_pos c2, if_pos c2]
        unfold F_D_hear_s2 F_D_hear_s3
        exact f_hear81 hn hk (rc_pf (rc_pf hR (show 4 < 6 by decide) 1) (show 5 < 6 by decide) 1) (by rw [zUp_n _ _ (by decide), zUp_n _ _ (by decide)]; exact h2) (by omega)
      · rw [if_neg c2, if_neg c2]
        obtain ⟨st1, a1, r1⟩ := f_send (to := fr) (kd := 2) hk hR (by decide) (by omega)
        rw [show (2 : Int32) = nI 2 from rfl, a1]
        show ∃ st', F_D_hear_s1 n k st1 = some (0, st') ∧ _
        unfold F_D_hear_s1
        obtain ⟨st2, a2, r2⟩ := f_hear81 hn hk r1 h2 (by rw [zPush_len]; simp only [List.length_singleton]; omega)
        exact ⟨st2, a2, by rw [zCnt_app, zPush_app]; exact r2⟩
    · rw [if_neg (fun e => c1 (k1.mp e)), if_neg c1]
      have tail : ∀ (q1 : zR) (st1 : zS), q1 2 = q 2 → zRC n C (va_up P k q1) S L lk st1 → ∃ st', F_D_hear_L42 n k (nI fr) st1 = some (0, st') ∧ zRC n C (va_up P k (zEd (C (k / 6)) (zGrow (C (k / 6)) q1 (nI fr)) n).1) (zCnt (zEd (C (k / 6)) (zGrow (C (k / 6)) q1 (nI fr)) n).2 S) (zPush k (zEd (C (k / 6)) (zGrow (C (k / 6)) q1 (nI fr)) n).2 L) lk st' := by
        intro q1 st1 e2 r1
        unfold F_D_hear_L42
        obtain ⟨st2, a2, r2⟩ := f_grow hn hk r1 hix
        rw [a2]
        show ∃ st', F_D_hear_L42_s1 n k st2 = some (0, st') ∧ _
        unfold F_D_hear_L42_s1
        refine f_hear81 hn hk r2 ?_ (by omega)
        have : zGrow (C (k / 6)) q1 (nI fr) 2 = q1 2 := by
          unfold zGrow
          by_cases c : nI fr = q1 2 ∧ q1 0 < zThrX (C (k / 6)) q1 (nI fr)
          · rw [if_pos c, zUp_n _ _ (by decide)]
          · rw [if_neg c]
        rw [this, e2]
        exact h2
      by_cases c2 : kd = 2
      · rw [if_pos (k2.mpr c2), if_pos c2, if_neg (zo_in hfr (by omega)), zo_c (show fr < 2 ^ 31 by omega)]
        unfold F_D_hear_s4
        exact tail _ _ (zUp_n _ _ (by omega)) (rc_pw hn hR hfr 0)
      · rw [if_neg (fun e => c2 (k2.mp e)), if_neg c2]
        exact tail q st rfl hR
end ZP
