/-! The reference: hear, recost, greet, lose. zQw: nobody is waited for but neighbours. -/
def zQw (n : Nat) (cr : Nat → Int32) (q : zR) : Prop := ∀ j, j < n → ¬ 0 < cr j → q (20 + j) = 0
section ZM
variable {n r t : Nat} {C : Nat → Nat → Int32} {P : Nat → zR} {q : zR} {S : Nat → Int32} {L : List zL} {st : zS}
theorem m_hear179 (hn : n ≤ 6) (h1n : 1 ≤ n) (hr : r < 6) (ht : t < 6) (hcr : ∀ j, j < n → ¬ C r j < 0) (hR : zRM C (va_up P (6 * r + t) q) S L st) (hq : zIx n (q 2)) (h3 : ¬ q 3 = 0) (hw : zQw n (C r) q) (hL : L.length + 14 ≤ 1024) : ∃ st', F_M_hear_L179 n (nI r) (nI t) st = some (0, st') ∧ zRM C (va_up P (6 * r + t) (zEd (C r) q n).1) (zCnt (zEd (C r) q n).2 S) (zPush (6 * r + t) (zEd (C r) q n).2 L) st' := by
  unfold F_M_hear_L179
  obtain ⟨st1, a1, r1⟩ := m_endIf hn h1n hr ht hcr hR hq hw hL
  rw [zEd_If (by omega) h3 hw] at r1
  rw [a1, zbs]
  exact ⟨st1, rfl, r1⟩
theorem m_hear (hn : n ≤ 6) (h1n : 1 ≤ n) (hr : r < 6) (ht : t < 6) (hcr : ∀ j, j < n → ¬ C r j < 0) (hR : zRM C (va_up P (6 * r + t) q) S L st) (hq : zIx n (q 2)) (hw : zQw n (C r) q) {fr kd : Nat} (hfr : fr < n) (hkd : kd < 3) (hL : L.length + 21 ≤ 1024) : ∃ st', F_M_hear_s1 n (nI (6 * r + t)) (nI fr) (nI r) (nI kd) (nI t) st = some (0, st') ∧ zRM C (va_up P (6 * r + t) (zHr (C r) q n fr kd).1) (zCnt (zHr (C r) q n fr kd).2 S) (zPush (6 * r + t) (zHr (C r) q n fr kd).2 L) st' := by
  have g := zo_in (show 6 * r + t < 36 by omega) (by decide)
  have ec : Int32.toNatClampNeg (nI (6 * r + t)) = 6 * r + t := zo_c (by omega)
  have g2 := zo_in (show 36 * fr + (6 * r + t) < 216 by omega) (by decide)
  have ec2 : Int32.toNatClampNeg (nI (36 * fr + (6 * r + t))) = 36 * fr + (6 * r + t) := zo_c (by omega)
  have e5 : st 5 0 (6 * r + t) = q 3 := rm_f hR (show 6 * r + t < 36 by omega) (show 3 < 6 by decide)
  have e4 : st 4 0 (6 * r + t) = q 2 := rm_f hR (show 6 * r + t < 36 by omega) (show 2 < 6 by decide)
  have e2 : st 2 0 (6 * r + t) = q 0 := rm_f hR (show 6 * r + t < 36 by omega) (show 0 < 6 by decide)
  have k1 : nI kd = 1 ↔ kd = 1 := nI_eq (a := kd) (b := 1) (by omega) (by decide)
  have k2 : nI kd = 2 ↔ kd = 2 := nI_eq (a := kd) (b := 2) (by omega) (by decide)
  have hix : zIx n (nI fr) := Or.inr ⟨fr, hfr, rfl⟩
  unfold F_M_hear_s1 zHr
  rw [if_neg g]
  simp only [ec, e5, e4]
  by_cases h3 : q 3 = 0
  · rw [if_pos h3, if_pos h3]
    have e68 : (if nI kd = 1 then F_M_hear_L68 n (nI r) (nI t) (nI fr) st else F_M_hear_L68 n (nI r) (nI t) (-1) st) = F_M_hear_L68 n (nI r) (nI t) (if kd = 1 then nI fr else -1) st := by
      by_cases c : kd = 1
      · rw [if_pos (k1.mpr c), if_pos c]
      · rw [if_neg (fun e => c (k1.mp e)), if_neg c]
    rw [e68]
    have hx : zIx n (if kd = 1 then nI fr else -1) := by
      by_cases c : kd = 1
      · rw [if_pos c]; exact hix
      · rw [if_neg c]; exact Or.inl rfl
    unfold F_M_hear_L68
    obtain ⟨st1, a1, r1⟩ := m_look hn h1n hr ht hcr hR hx hq h3 hw hL
    rw [a1, zbs]
    exact ⟨st1, rfl, r1⟩
  · rw [if_neg h3, if_neg h3]
    have l161 : ∀ (q1 : zR) (st1 : zS) (S1 : Nat → Int32) (L1 : List zL), L1.length + 14 ≤ 1024 → ¬ kd = 2 → q1 2 = q 2 → ¬ q1 3 = 0 → zQw n (C r) q1 → zRM C (va_up P (6 * r + t) q1) S1 L1 st1 → ∃ st', F_M_hear_L161 n (nI fr) (nI r) (nI kd) (nI t) (nI (6 * r + t)) st1 = some (0, st') ∧ zRM C (va_up P (6 * r + t) (zEd (C r) q1 n).1) (zCnt (zEd (C r) q1 n).2 S1) (zPush (6 * r + t) (zEd (C r) q1 n).2 L1) st' := by
      intro q1 st1 S1 L1 hl hk e f w r1
      unfold F_M_hear_L161
      rw [if_neg (fun x => hk (k2.mp x))]
      exact m_hear179 hn h1n hr ht hcr r1 (by rw [e]; exact hq) f w hl
    by_cases c1 : kd = 1
    · rw [if_pos (k1.mpr c1), if_pos c1, if_neg g]
      by_cases c2 : nI fr = q 2
      · rw [if_pos c2, if_pos c2, if_neg g]
        unfold F_M_hear_s2 F_M_hear_s3
        rw [if_neg g]
        simp only [ec]
        have r2 : zRM C (va_up P (6 * r + t) (va_up (va_up q 4 1) 5 1)) S L (zs (zs st 6 0 (6 * r + t) 1) 7 0 (6 * r + t) 1) := rm_pf (rm_pf hR (show 4 < 6 by decide) 1) (show 5 < 6 by decide) 1
        exact l161 _ _ S L (by omega) (by omega) (by rw [zUp_n _ _ (by decide), zUp_n _ _ (by decide)]) (by rw [zUp_n _ _ (by decide), zUp_n _ _ (by decide)]; exact h3) (fun j hj h => by rw [zUp_n _ _ (by omega), zUp_n _ _ (by omega)]; exact hw j hj h) r2
      · rw [if_neg c2, if_neg c2]
        unfold F_M_hear_L107
        rw [if_pos (k1.mpr c1)]
        obtain ⟨st1, a1, r1⟩ := m_send (n := n) (to := fr) (kd := 2) hr ht hR (by decide) (by omega)
        have a1 : F_M_send n (nI r) (nI fr) 2 (nI t) st = _ := a1
        rw [a1, zbs]
        dsimp only
        unfold F_M_hear_L107_s3
        obtain ⟨st2, a2, r2⟩ := l161 q st1 _ _ (by rw [zPush_len]; simp only [List.length_singleton]; omega) (by omega) rfl h3 hw r1
        exact ⟨st2, a2, by rw [zCnt_app, zPush_app]; exact r2⟩
    · rw [if_neg (fun e => c1 (k1.mp e)), if_neg c1]
      have tail : ∀ (st1 : zS), zRM C (va_up P (6 * r + t) (zGrow (C r) q (nI fr))) S L st1 → ∃ st', F_M_hear_L161 n (nI fr) (nI r) (nI kd) (nI t) (nI (6 * r + t)) st1 = some (0, st') ∧ zRM C (va_up P (6 * r + t) (zEd (C r) (zGrow (C r) (if kd = 2 then va_up q (20 + fr) 0 else q) (nI fr)) n).1) (zCnt (zEd (C r) (zGrow (C r) (if kd = 2 then va_up q (20 + fr) 0 else q) (nI fr)) n).2 S) (zPush (6 * r + t) (zEd (C r) (zGrow (C r) (if kd = 2 then va_up q (20 + fr) 0 else q) (nI fr)) n).2 L) st' := by
        intro st1 r1
        have gf : ∀ f, f ≠ 5 → zGrow (C r) q (nI fr) f = q f := by
          intro f hf
          unfold zGrow
          by_cases c : nI fr = q 2 ∧ q 0 < zThrX (C r) q (nI fr)
          · rw [if_pos c, zUp_n _ _ hf]
          · rw [if_neg c]
        by_cases c2 : kd = 2
        · rw [if_pos c2, zGrow_w _ _ _ _ (zIx_6 hn hix)]
          unfold F_M_hear_L161
          rw [if_pos (k2.mpr c2), i36', if_neg g2, ec2]
          unfold F_M_hear_L161_s1
          exact m_hear179 hn h1n hr ht hcr (rm_pw (show 6 * r + t < 36 by omega) r1 (show fr < 6 by omega) 0) (by rw [zUp_n _ _ (by omega), gf 2 (by decide)]; exact hq) (by rw [zUp_n _ _ (by omega), gf 3 (by decide)]; exact h3) (fun j hj h => by
            by_cases e : j = fr
            · subst e; rw [zUp_s]
            · rw [zUp_n _ _ (by omega), gf _ (by omega)]; exact hw j hj h) (by omega)
        · rw [if_neg c2]
          exact l161 _ st1 S L (by omega) c2 (gf 2 (by decide)) (by rw [gf 3 (by decide)]; exact h3) (fun j hj h => by rw [gf _ (by omega)]; exact hw j hj h) r1
      unfold F_M_hear_L107
      rw [if_neg (fun e => c1 (k1.mp e)), if_neg g]
      simp only [ec, e4]
      by_cases c2 : nI fr = q 2
      · rw [if_pos c2, m_through hr ht hR (zIx_6 hn hix), zbs]
        dsimp only
        unfold F_M_hear_L107_s1 F_M_hear_L107_s2
        rw [if_neg g, if_neg g]
        simp only [ec, e2]
        by_cases c3 : zThrX (C r) q (nI fr) ≤ q 0
        · rw [if_pos c3]
          refine tail st ?_
          unfold zGrow
          rw [if_neg (fun x => Int32.not_lt.mpr c3 x.2)]
          exact hR
        · rw [if_neg c3]
          refine tail _ ?_
          unfold zGrow
          rw [if_pos ⟨c2, Int32.not_le.mp c3⟩]
          exact rm_pf hR (show 5 < 6 by decide) 1
      · rw [if_neg c2]
        refine tail st ?_
        unfold zGrow
        rw [if_neg (fun x => c2 x.1)]
        exact hR
theorem m_greet1 {M0 : zM} (hn : n ≤ 6) {o : Nat} (hr : r < 6) (hd : ∀ i, i < n → M0.1 (6 * r + i) 0 ≤ 10000) : ∀ (f i : Nat) (M : zM) (st : zS), i ≤ n → n - i < f → M.2.2.length + (n - i) ≤ 1024 → zIt (zGrS r o) i M0 = M → M.1 = M0.1 → zRM C M.1 M.2.1 M.2.2 st →
    ∃ st', F_M_greet_L2 n f (nI r) (nI o) (nI i) st = some (0, st') ∧ zRM C (zIt (zGrS r o) n M0).1 (zIt (zGrS r o) n M0).2.1 (zIt (zGrS r o) n M0).2.2 st'
  | 0, i, M, st, h1, h2, _, _, _, _ => by omega
  | f + 1, i, M, st, h1, h2, hL, hM, hP, hR => by
    rw [F_M_greet_L2]
    by_cases hi : i = n
    · subst hi
      rw [if_pos (nI_le (Nat.le_refl _) (by omega)), hM]
      exact ⟨st, rfl, hR⟩
    · have hlt : i < n := by omega
      have g := zo_in (show 6 * r + i < 36 by omega) (by decide)
      have ec : Int32.toNatClampNeg (nI (6 * r + i)) = 6 * r + i := zo_c (by omega)
      have e2 : st 2 0 (6 * r + i) = M.1 (6 * r + i) 0 := (hR.2.1 (6 * r + i) (by omega)).1 0 (by decide)
      rw [if_neg (nI_ge hlt (by omega)), i6, if_neg g]
      simp only [ec, e2]
      have e0 : zIt (zGrS r o) (i + 1) M0 = zGrS r o i (zIt (zGrS r o) i M0) := rfl
      have hle : M.1 (6 * r + i) 0 ≤ 10000 := by rw [hP]; exact hd i hlt
      by_cases c : M.1 (6 * r + i) 0 = 10000
      · rw [if_pos (by rw [c]; decide)]
        unfold F_M_greet_L35
        rw [nI_1]
        exact m_greet1 hn hr hd f (i + 1) M st hlt (by omega) (by omega) (by rw [e0, hM]; unfold zGrS; rw [if_pos c]) hP hR
      · rw [if_neg (fun x => c (Int32.le_antisymm hle x))]
        have hR' : zRM C (va_up M.1 (6 * r + i) (M.1 (6 * r + i))) M.2.1 M.2.2 st := by rw [zUp_eta]; exact hR
        obtain ⟨st1, a1, r1⟩ := m_send (n := n) (to := o) (kd := 0) hr (show i < 6 by omega) hR' (by decide) (by omega)
        have a1 : F_M_send n (nI r) (nI o) 0 (nI i) st = _ := a1
        rw [a1, zbs]
        dsimp only
        unfold F_M_greet_L2_s1 F_M_greet_L35
        rw [nI_1]
        exact m_greet1 hn hr hd f (i + 1) (zAp (6 * r + i) (M.1 (6 * r + i), [(o, 0, M.1 (6 * r + i) 0)]) M) st1 hlt (by omega) (by rw [zAp_len]; simp only [List.length_singleton]; omega) (by rw [e0, hM]; unfold zGrS; rw [if_neg c]) (by show va_up M.1 (6 * r + i) (M.1 (6 * r + i)) = M0.1; rw [zUp_eta]; exact hP) r1
theorem m_greet {M : zM} (hn : n ≤ 6) {o : Nat} (hr : r < 6) (hd : ∀ i, i < n → M.1 (6 * r + i) 0 ≤ 10000) (hL : M.2.2.length + 6 ≤ 1024) (hR : zRM C M.1 M.2.1 M.2.2 st) : ∃ st', F_M_greet n (nI r) (nI o) st = some (0, st') ∧ zRM C (zIt (zGrS r o) n M).1 (zIt (zGrS r o) n M).2.1 (zIt (zGrS r o) n M).2.2 st' := by
  unfold F_M_greet
  exact m_greet1 hn hr hd zFuel 0 M st (Nat.zero_le _) (by unfold zFuel; omega) (by omega) rfl rfl hR
end ZM
