/-! The reference: recost and lose. -/
theorem zGrow_n (cr : Nat → Int32) (q : zR) (x : Int32) {f : Nat} (hf : f ≠ 5) : zGrow cr q x f = q f := by
  unfold zGrow
  by_cases c : x = q 2 ∧ q 0 < zThrX cr q x
  · rw [if_pos c, zUp_n _ _ hf]
  · rw [if_neg c]
theorem zWt_congr {q q' : zR} : ∀ n, (∀ j, j < n → q (20 + j) = q' (20 + j)) → zWt q n = zWt q' n
  | 0, _ => rfl
  | i + 1, h => by
    show (if q (20 + i) = 0 then zWt q i else 1) = (if q' (20 + i) = 0 then zWt q' i else 1)
    rw [h i (by omega), zWt_congr i (fun j hj => h j (by omega))]
theorem zEd_busy {cr : Nat → Int32} {q : zR} {n : Nat} (h3 : ¬ q 3 = 0) (hw : ¬ zWt q n = 0) : zEd cr q n = (q, []) := by
  unfold zEd
  rw [if_neg h3, if_neg hw]
section ZM
variable {n r : Nat} {C : Nat → Nat → Int32} {st : zS}
theorem m_rec1 {M0 : zM} (hn : n ≤ 6) (h1n : 1 ≤ n) {o : Nat} (hr : r < 6) (ho : o < n) (hcr : ∀ j, j < n → ¬ C r j < 0)
    (hI : ∀ j, j < n → ¬ r = j → zIx n (M0.1 (6 * r + j) 2) ∧ zQw n (C r) (M0.1 (6 * r + j)) ∧ (¬ M0.1 (6 * r + j) 3 = 0 → ¬ zWt (M0.1 (6 * r + j)) n = 0)) : ∀ (f i : Nat) (M : zM) (st : zS), i ≤ n → n - i < f → M.2.2.length + 21 * (n - i) ≤ 1024 → zIt (zWgS C n r o) i M0 = M → (∀ j, i ≤ j → M.1 (6 * r + j) = M0.1 (6 * r + j)) → zRM C M.1 M.2.1 M.2.2 st →
    ∃ st', F_M_recost_L2 n f (nI r) (nI o) (nI i) st = some (0, st') ∧ zRM C (zIt (zWgS C n r o) n M0).1 (zIt (zWgS C n r o) n M0).2.1 (zIt (zWgS C n r o) n M0).2.2 st'
  | 0, i, M, st, h1, h2, _, _, _, _ => by omega
  | f + 1, i, M, st, h1, h2, hL, hM, hP, hR => by
    rw [F_M_recost_L2]
    by_cases hi : i = n
    · subst hi
      rw [if_pos (nI_le (Nat.le_refl _) (by omega)), hM]
      exact ⟨st, rfl, hR⟩
    · have hlt : i < n := by omega
      have g := zo_in (show 6 * r + i < 36 by omega) (by decide)
      have ec : Int32.toNatClampNeg (nI (6 * r + i)) = 6 * r + i := zo_c (by omega)
      have e0 : zIt (zWgS C n r o) (i + 1) M0 = zWgS C n r o i (zIt (zWgS C n r o) i M0) := rfl
      have eir : nI i = nI r ↔ i = r := nI_eq (by omega) (by omega)
      rw [if_neg (nI_ge hlt (by omega)), i6]
      by_cases c : r = i
      · rw [if_pos (eir.mpr c.symm)]
        unfold F_M_recost_L43 F_M_recost_L84
        rw [if_pos (eir.mpr c.symm), nI_1]
        exact m_rec1 hn h1n hr ho hcr hI f (i + 1) M st hlt (by omega) (by omega) (by rw [e0, hM]; unfold zWgS; rw [if_pos c]) (fun j hj => hP j (by omega)) hR
      · have c' : ¬ nI i = nI r := fun e => c (eir.mp e).symm
        rw [if_neg c', if_neg g]
        have hR' : zRM C (va_up M.1 (6 * r + i) (M.1 (6 * r + i))) M.2.1 M.2.2 st := by rw [zUp_eta]; exact hR
        have e5 : st 5 0 (6 * r + i) = M.1 (6 * r + i) 3 := rm_f hR' (show 6 * r + i < 36 by omega) (show 3 < 6 by decide)
        have e4 : st 4 0 (6 * r + i) = M.1 (6 * r + i) 2 := rm_f hR' (show 6 * r + i < 36 by omega) (show 2 < 6 by decide)
        have e2 : st 2 0 (6 * r + i) = M.1 (6 * r + i) 0 := rm_f hR' (show 6 * r + i < 36 by omega) (show 0 < 6 by decide)
        obtain ⟨hq, hw, hb⟩ := hI i hlt c
        rw [← hP i (Nat.le_refl _)] at hq hw hb
        simp only [ec, e5]
        have next : ∀ x : zR × List zO, ∀ j, i + 1 ≤ j → (zAp (6 * r + i) x M).1 (6 * r + j) = M0.1 (6 * r + j) := by
          intro x j hj
          show va_up M.1 (6 * r + i) x.1 (6 * r + j) = _
          rw [zUp_n _ _ (by omega)]
          exact hP j (by omega)
        by_cases c3 : M.1 (6 * r + i) 3 = 0
        · rw [if_pos c3]
          obtain ⟨st1, a1, r1⟩ := m_look hn h1n hr (show i < 6 by omega) hcr hR' (Or.inl rfl) hq c3 hw (by omega)
          rw [a1, zbs]
          dsimp only
          unfold F_M_recost_L2_s1 F_M_recost_L84
          rw [nI_1]
          have hl := zLE_len (C r) (M.1 (6 * r + i)) n (-1)
          exact m_rec1 hn h1n hr ho hcr hI f (i + 1) (zAp (6 * r + i) (zLE (C r) (M.1 (6 * r + i)) n (-1)) M) st1 hlt (by omega) (by rw [zAp_len]; omega) (by rw [e0, hM]; unfold zWgS; rw [if_neg c, if_pos c3]) (next _) r1
        · rw [if_neg c3]
          have ed : zEd (C r) (zGrow (C r) (M.1 (6 * r + i)) (nI o)) n = (zGrow (C r) (M.1 (6 * r + i)) (nI o), []) := by
            refine zEd_busy (by rw [zGrow_n _ _ _ (by decide)]; exact c3) ?_
            rw [zWt_congr n (fun j _ => zGrow_n _ _ _ (by omega))]
            exact hb c3
          have fin : ∀ st1, zRM C (va_up M.1 (6 * r + i) (zGrow (C r) (M.1 (6 * r + i)) (nI o))) M.2.1 M.2.2 st1 → ∃ st', F_M_recost_L84 n (F_M_recost_L2 n f) (nI r) (nI o) (nI i) st1 = some (0, st') ∧ zRM C (zIt (zWgS C n r o) n M0).1 (zIt (zWgS C n r o) n M0).2.1 (zIt (zWgS C n r o) n M0).2.2 st' := by
            intro st1 r1
            unfold F_M_recost_L84
            rw [nI_1]
            exact m_rec1 hn h1n hr ho hcr hI f (i + 1) (zAp (6 * r + i) (zGrow (C r) (M.1 (6 * r + i)) (nI o), []) M) st1 hlt (by omega) (by rw [zAp_len]; simp only [List.length_nil]; omega) (by rw [e0, hM]; unfold zWgS; rw [if_neg c, if_neg c3, ed]) (next _) (by show zRM C _ M.2.1 (zPush _ [] M.2.2) st1; rw [zPush_nil]; exact r1)
          have hgr : ¬ (nI o = M.1 (6 * r + i) 2 ∧ M.1 (6 * r + i) 0 < zThrX (C r) (M.1 (6 * r + i)) (nI o)) → zRM C (va_up M.1 (6 * r + i) (zGrow (C r) (M.1 (6 * r + i)) (nI o))) M.2.1 M.2.2 st := by
            intro h
            unfold zGrow
            rw [if_neg h]
            exact hR'
          unfold F_M_recost_L43
          rw [if_neg c', if_neg g]
          simp only [ec, e4]
          by_cases c2 : M.1 (6 * r + i) 2 = nI o
          · rw [if_pos c2, m_through hr (show i < 6 by omega) hR' (Or.inr ⟨o, by omega, rfl⟩), zbs]
            dsimp only
            unfold F_M_recost_L43_s1 F_M_recost_L43_s2
            rw [if_neg g, if_neg g]
            simp only [ec, e2]
            by_cases c4 : zThrX (C r) (M.1 (6 * r + i)) (nI o) ≤ M.1 (6 * r + i) 0
            · rw [if_pos c4]
              exact fin st (hgr (fun x => Int32.not_lt.mpr c4 x.2))
            · rw [if_neg c4]
              refine fin _ ?_
              unfold zGrow
              rw [if_pos ⟨c2.symm, Int32.not_le.mp c4⟩]
              exact rm_pf hR' (show 5 < 6 by decide) 1
          · rw [if_neg c2]
            exact fin st (hgr (fun x => c2 x.1.symm))
theorem m_recost {M : zM} (hn : n ≤ 6) (h1n : 1 ≤ n) {o : Nat} (hr : r < 6) (ho : o < n) (hcr : ∀ j, j < n → ¬ C r j < 0)
    (hI : ∀ j, j < n → ¬ r = j → zIx n (M.1 (6 * r + j) 2) ∧ zQw n (C r) (M.1 (6 * r + j)) ∧ (¬ M.1 (6 * r + j) 3 = 0 → ¬ zWt (M.1 (6 * r + j)) n = 0)) (hL : M.2.2.length + 126 ≤ 1024) (hR : zRM C M.1 M.2.1 M.2.2 st) : ∃ st', F_M_recost n (nI r) (nI o) st = some (0, st') ∧ zRM C (zIt (zWgS C n r o) n M).1 (zIt (zWgS C n r o) n M).2.1 (zIt (zWgS C n r o) n M).2.2 st' := by
  unfold F_M_recost
  exact m_rec1 hn h1n hr ho hcr hI zFuel 0 M st (Nat.zero_le _) (by unfold zFuel; omega) (by omega) rfl (fun _ _ => rfl) hR
theorem m_lose1 {M0 : zM} (hn : n ≤ 6) (h1n : 1 ≤ n) {o : Nat} (hr : r < 6) (ho : o < n) (hcr : ∀ j, j < n → ¬ C r j < 0)
    (hI : ∀ j, j < n → ¬ r = j → zIx n (M0.1 (6 * r + j) 2) ∧ zQw n (C r) (zForget (M0.1 (6 * r + j)) o) ∧ (M0.1 (6 * r + j) 4 = 0 ∨ M0.1 (6 * r + j) 4 = 1) ∧ (M0.1 (6 * r + j) 5 = 0 ∨ M0.1 (6 * r + j) 5 = 1) ∧ M0.1 (6 * r + j) 0 ≤ 10000) : ∀ (f i : Nat) (M : zM) (st : zS), i ≤ n → n - i < f → M.2.2.length + 21 * (n - i) ≤ 1024 → zIt (zLoS C n r o) i M0 = M → (∀ j, i ≤ j → M.1 (6 * r + j) = M0.1 (6 * r + j)) → zRM C M.1 M.2.1 M.2.2 st →
    ∃ st', F_M_lose_L2 n f (nI r) (nI o) (nI i) st = some (0, st') ∧ zRM C (zIt (zLoS C n r o) n M0).1 (zIt (zLoS C n r o) n M0).2.1 (zIt (zLoS C n r o) n M0).2.2 st'
  | 0, i, M, st, h1, h2, _, _, _, _ => by omega
  | f + 1, i, M, st, h1, h2, hL, hM, hP, hR => by
    rw [F_M_lose_L2]
    by_cases hi : i = n
    · subst hi
      rw [if_pos (nI_le (Nat.le_refl _) (by omega)), hM]
      exact ⟨st, rfl, hR⟩
    · have hlt : i < n := by omega
      have g := zo_in (show 6 * r + i < 36 by omega) (by decide)
      have ec : Int32.toNatClampNeg (nI (6 * r + i)) = 6 * r + i := zo_c (by omega)
      have g2 := zo_in (show 36 * o + (6 * r + i) < 216 by omega) (by decide)
      have ec2 : Int32.toNatClampNeg (nI (36 * o + (6 * r + i))) = 36 * o + (6 * r + i) := zo_c (by omega)
      have e0 : zIt (zLoS C n r o) (i + 1) M0 = zLoS C n r o i (zIt (zLoS C n r o) i M0) := rfl
      have eir : nI i = nI r ↔ i = r := nI_eq (by omega) (by omega)
      rw [if_neg (nI_ge hlt (by omega)), i6]
      by_cases c : r = i
      · rw [if_pos (eir.mpr c.symm)]
        unfold F_M_lose_L185
        rw [nI_1]
        exact m_lose1 hn h1n hr ho hcr hI f (i + 1) M st hlt (by omega) (by omega) (by rw [e0, hM]; unfold zLoS; rw [if_pos c]) (fun j hj => hP j (by omega)) hR
      · have c' : ¬ nI i = nI r := fun e => c (eir.mp e).symm
        rw [if_neg c', if_neg g]
        have hR' : zRM C (va_up M.1 (6 * r + i) (M.1 (6 * r + i))) M.2.1 M.2.2 st := by rw [zUp_eta]; exact hR
        have e4 : st 4 0 (6 * r + i) = M.1 (6 * r + i) 2 := rm_f hR' (show 6 * r + i < 36 by omega) (show 2 < 6 by decide)
        obtain ⟨hq, hw, hb4, hb5, h0⟩ := hI i hlt c
        rw [← hP i (Nat.le_refl _)] at hq hw hb4 hb5 h0
        have hq' := zForget_2 (M.1 (6 * r + i)) o hq
        simp only [ec, e4]
        have next : ∀ x : zR × List zO, ∀ j, i + 1 ≤ j → (zAp (6 * r + i) x M).1 (6 * r + j) = M0.1 (6 * r + j) := by
          intro x j hj
          show va_up M.1 (6 * r + i) x.1 (6 * r + j) = _
          rw [zUp_n _ _ (by omega)]
          exact hP j (by omega)
        generalize hqq : M.1 (6 * r + i) = q at hq hw hb4 hb5 h0 hq' hR' ⊢
        have r2 := rm_pw (show 6 * r + i < 36 by omega) (rm_pt (show 6 * r + i < 36 by omega) hR' (show o < 6 by omega) 10000) (show o < 6 by omega) 0
        -- behind next: both ways
        have l91 : ∀ (v5 nx : Int32) (st3 : zS), (v5 = 0 ∧ ¬ q 2 = nI o ∧ nx = q 2) ∨ (v5 = 1 ∧ q 2 = nI o ∧ nx = -1) → zRM C (va_up M.1 (6 * r + i) (va_up (va_up (va_up q (10 + o) 10000) (20 + o) 0) 2 nx)) M.2.1 M.2.2 st3 → ∃ st', F_M_lose_L91_s1 n (F_M_lose_L2 n f) (nI r) (nI o) (nI i) (nI (6 * r + i)) v5 st3 = some (0, st') ∧ zRM C (zIt (zLoS C n r o) n M0).1 (zIt (zLoS C n r o) n M0).2.1 (zIt (zLoS C n r o) n M0).2.2 st' := by
          intro v5 nx st3 hv r3
          have f5 : st3 5 0 (6 * r + i) = q 3 := by
            have := rm_f r3 (show 6 * r + i < 36 by omega) (show 3 < 6 by decide)
            rw [zUp_n _ _ (by decide), zUp_n _ _ (by omega), zUp_n _ _ (by omega)] at this
            exact this
          have f6 : st3 6 0 (6 * r + i) = q 4 := by
            have := rm_f r3 (show 6 * r + i < 36 by omega) (show 4 < 6 by decide)
            rw [zUp_n _ _ (by decide), zUp_n _ _ (by omega), zUp_n _ _ (by omega)] at this
            exact this
          unfold F_M_lose_L91_s1
          rw [if_neg g, if_neg g]
          simp only [ec, f5, f6]
          have eF0 : q 3 = 0 → zForget q o = va_up (va_up (va_up q (10 + o) 10000) (20 + o) 0) 2 nx := by
            intro h3
            unfold zForget
            rcases hv with ⟨-, hne, rfl⟩ | ⟨-, he, rfl⟩
            · rw [if_neg (fun e => hne e.symm)]
              have : (va_up (va_up q (10 + o) 10000) (20 + o) 0) 2 = q 2 := by rw [zUp_n _ _ (by omega), zUp_n _ _ (by omega)]
              rw [← this, zUp_eta]
            · rw [if_pos he.symm, if_pos h3]
          by_cases c3 : q 3 = 0
          · rw [if_pos c3]
            have eF := eF0 c3
            rw [← eF] at r3
            have f3 : zForget q o 3 = 0 := by
              rw [eF, zUp_n _ _ (by decide), zUp_n _ _ (by omega), zUp_n _ _ (by omega)]; exact c3
            obtain ⟨st4, a4, r4⟩ := m_look hn h1n hr (show i < 6 by omega) hcr r3 (Or.inl rfl) hq' f3 hw (by omega)
            rw [a4, zbs]
            dsimp only
            unfold F_M_lose_L91_s2 F_M_lose_L185
            rw [nI_1]
            have hl := zLE_len (C r) (zForget q o) n (-1)
            exact m_lose1 hn h1n hr ho hcr hI f (i + 1) (zAp (6 * r + i) (zLE (C r) (zForget q o) n (-1)) M) st4 hlt (by omega) (by rw [zAp_len]; omega) (by rw [e0, hM]; unfold zLoS; rw [if_neg c, hqq, if_pos f3]) (next _) r4
          · rw [if_neg c3]
            have e138 : (if q 4 = 0 then F_M_lose_L137 n (F_M_lose_L2 n f) (nI r) (nI o) (nI i) (nI (6 * r + i)) v5 (nI (6 * r + i)) st3 else if v5 = 0 then F_M_lose_L138 n (F_M_lose_L2 n f) (nI r) (nI o) (nI i) (nI (6 * r + i)) v5 (nI (6 * r + i)) 1 st3 else F_M_lose_L137 n (F_M_lose_L2 n f) (nI r) (nI o) (nI i) (nI (6 * r + i)) v5 (nI (6 * r + i)) st3) = F_M_lose_L138 n (F_M_lose_L2 n f) (nI r) (nI o) (nI i) (nI (6 * r + i)) v5 (nI (6 * r + i)) (if v5 = 0 then q 4 else 0) st3 := by
              unfold F_M_lose_L137
              rcases hb4 with h4 | h4
              · rw [if_pos h4, h4]
                by_cases h5 : v5 = 0
                · rw [if_pos h5]
                · rw [if_neg h5]
              · rw [if_neg (by rw [h4]; decide), h4]
                by_cases h5 : v5 = 0
                · rw [if_pos h5, if_pos h5]
                · rw [if_neg h5, if_neg h5]
            rw [e138]
            unfold F_M_lose_L138
            rw [if_neg g, if_neg (fun x => x (by
              by_cases h5 : v5 = 0
              · rw [if_pos h5]; exact hb4
              · rw [if_neg h5]; exact Or.inl rfl))]
            simp only [ec]
            have r4 : zRM C (va_up M.1 (6 * r + i) (va_up (va_up (va_up (va_up q (10 + o) 10000) (20 + o) 0) 2 nx) 4 (if v5 = 0 then q 4 else 0))) M.2.1 M.2.2 (zs st3 6 0 (6 * r + i) (if v5 = 0 then q 4 else 0)) := rm_pf r3 (show 4 < 6 by decide) _
            generalize zs st3 6 0 (6 * r + i) (if v5 = 0 then q 4 else 0) = st4 at r4 ⊢
            have f7 : st4 7 0 (6 * r + i) = q 5 := by
              have := rm_f r4 (show 6 * r + i < 36 by omega) (show 5 < 6 by decide)
              rw [zUp_n _ _ (by decide), zUp_n _ _ (by decide), zUp_n _ _ (by omega), zUp_n _ _ (by omega)] at this
              exact this
            have f2 : st4 2 0 (6 * r + i) = q 0 := by
              have := rm_f r4 (show 6 * r + i < 36 by omega) (show 0 < 6 by decide)
              rw [zUp_n _ _ (by decide), zUp_n _ _ (by decide), zUp_n _ _ (by omega), zUp_n _ _ (by omega)] at this
              exact this
            have hge : (10000 : Int32) ≤ q 0 ↔ q 0 = 10000 := ⟨fun h => Int32.le_antisymm h0 h, fun h => by rw [h]; decide⟩
            unfold F_M_lose_L138_s1 F_M_lose_L173 F_M_lose_L177
            rw [if_neg g, if_neg g]
            simp only [ec, f7, f2]
            have e178 : (if q 5 = 0 then if v5 = 0 then F_M_lose_L178 n (F_M_lose_L2 n f) (nI r) (nI o) (nI i) (nI (6 * r + i)) 0 st4 else if 10000 ≤ q 0 then F_M_lose_L178 n (F_M_lose_L2 n f) (nI r) (nI o) (nI i) (nI (6 * r + i)) 0 st4 else F_M_lose_L178 n (F_M_lose_L2 n f) (nI r) (nI o) (nI i) (nI (6 * r + i)) 1 st4 else F_M_lose_L178 n (F_M_lose_L2 n f) (nI r) (nI o) (nI i) (nI (6 * r + i)) 1 st4) = F_M_lose_L178 n (F_M_lose_L2 n f) (nI r) (nI o) (nI i) (nI (6 * r + i)) (if v5 = 0 then q 5 else if q 5 = 0 ∧ q 0 = 10000 then 0 else 1) st4 := by
              rcases hb5 with h5 | h5
              · rw [if_pos h5, h5]
                by_cases hv5 : v5 = 0
                · rw [if_pos hv5, if_pos hv5]
                · rw [if_neg hv5, if_neg hv5]
                  by_cases hd : q 0 = 10000
                  · rw [if_pos (hge.mpr hd), if_pos ⟨rfl, hd⟩]
                  · rw [if_neg (fun x => hd (hge.mp x)), if_neg (fun x => hd x.2)]
              · rw [if_neg (by rw [h5]; decide), h5]
                by_cases hv5 : v5 = 0
                · rw [if_pos hv5]
                · rw [if_neg hv5, if_neg (fun x => absurd x.1 (by decide))]
            rw [e178]
            unfold F_M_lose_L178
            rw [if_neg g, if_neg (fun x => x (by
              by_cases h5 : v5 = 0
              · rw [if_pos h5]; exact hb5
              · rw [if_neg h5]
                by_cases h6 : q 5 = 0 ∧ q 0 = 10000
                · rw [if_pos h6]; exact Or.inl rfl
                · rw [if_neg h6]; exact Or.inr rfl))]
            simp only [ec]
            have r5 : zRM C (va_up M.1 (6 * r + i) (va_up (va_up (va_up (va_up (va_up q (10 + o) 10000) (20 + o) 0) 2 nx) 4 (if v5 = 0 then q 4 else 0)) 5 (if v5 = 0 then q 5 else if q 5 = 0 ∧ q 0 = 10000 then 0 else 1))) M.2.1 M.2.2 (zs st4 7 0 (6 * r + i) (if v5 = 0 then q 5 else if q 5 = 0 ∧ q 0 = 10000 then 0 else 1)) := rm_pf r4 (show 5 < 6 by decide) _
            have eF : zForget q o = va_up (va_up (va_up (va_up (va_up q (10 + o) 10000) (20 + o) 0) 2 nx) 4 (if v5 = 0 then q 4 else 0)) 5 (if v5 = 0 then q 5 else if q 5 = 0 ∧ q 0 = 10000 then 0 else 1) := by
              unfold zForget
              rcases hv with ⟨e, hne, rfl⟩ | ⟨e, he, rfl⟩
              · rw [if_neg (fun x => hne x.symm), if_pos e, if_pos e]
                have h1 : (va_up (va_up q (10 + o) 10000) (20 + o) 0) 2 = q 2 := by rw [zUp_n _ _ (by omega), zUp_n _ _ (by omega)]
                have h2 : (va_up (va_up q (10 + o) 10000) (20 + o) 0) 4 = q 4 := by rw [zUp_n _ _ (by omega), zUp_n _ _ (by omega)]
                have h3 : (va_up (va_up q (10 + o) 10000) (20 + o) 0) 5 = q 5 := by rw [zUp_n _ _ (by omega), zUp_n _ _ (by omega)]
                rw [← h1, zUp_eta, ← h2, zUp_eta, ← h3, zUp_eta]
              · have e1 : ¬ v5 = 0 := by rw [e]; decide
                rw [if_pos he.symm, if_neg c3, if_neg e1, if_neg e1]
            rw [← eF] at r5
            have f3 : zForget q o 3 = q 3 := by
              rw [eF, zUp_n _ _ (by decide), zUp_n _ _ (by decide), zUp_n _ _ (by decide), zUp_n _ _ (by omega), zUp_n _ _ (by omega)]
            have hb3 : ¬ zForget q o 3 = 0 := by rw [f3]; exact c3
            unfold F_M_lose_L178_s1
            obtain ⟨st6, a6, r6⟩ := m_endIf hn h1n hr (show i < 6 by omega) hcr r5 hq' hw (by omega)
            rw [zEd_If (by omega) hb3 hw] at r6
            rw [a6, zbs]
            dsimp only
            unfold F_M_lose_L178_s2 F_M_lose_L185
            rw [nI_1]
            have hl := zEd_len (C r) (zForget q o) n
            exact m_lose1 hn h1n hr ho hcr hI f (i + 1) (zAp (6 * r + i) (zEd (C r) (zForget q o) n) M) st6 hlt (by omega) (by rw [zAp_len]; omega) (by rw [e0, hM]; unfold zLoS; rw [if_neg c, hqq, if_neg hb3]) (next _) r6
        have f4 : zs (zs st 8 0 (36 * o + (6 * r + i)) 10000) 9 0 (36 * o + (6 * r + i)) 0 4 0 (6 * r + i) = q 2 := by
          have := rm_f r2 (show 6 * r + i < 36 by omega) (show 2 < 6 by decide)
          rw [zUp_n _ _ (by omega), zUp_n _ _ (by omega)] at this
          exact this
        unfold F_M_lose_L39 F_M_lose_L39_s1 F_M_lose_L39_s2 F_M_lose_L91
        simp only [i36', if_neg g2, if_neg g, ec2, ec, f4]
        by_cases c2 : q 2 = nI o
        · rw [if_pos c2, if_neg (by decide)]
          exact l91 1 (-1) _ (Or.inr ⟨rfl, c2, rfl⟩) (rm_pf r2 (show 2 < 6 by decide) (-1))
        · rw [if_neg c2, if_pos trivial]
          exact l91 0 (q 2) _ (Or.inl ⟨rfl, c2, rfl⟩) (rm_pf r2 (show 2 < 6 by decide) (q 2))
theorem m_lose {M : zM} (hn : n ≤ 6) (h1n : 1 ≤ n) {o : Nat} (hr : r < 6) (ho : o < n) (hcr : ∀ j, j < n → ¬ C r j < 0)
    (hI : ∀ j, j < n → ¬ r = j → zIx n (M.1 (6 * r + j) 2) ∧ zQw n (C r) (zForget (M.1 (6 * r + j)) o) ∧ (M.1 (6 * r + j) 4 = 0 ∨ M.1 (6 * r + j) 4 = 1) ∧ (M.1 (6 * r + j) 5 = 0 ∨ M.1 (6 * r + j) 5 = 1) ∧ M.1 (6 * r + j) 0 ≤ 10000) (hL : M.2.2.length + 126 ≤ 1024) (hR : zRM C M.1 M.2.1 M.2.2 st) : ∃ st', F_M_lose n (nI r) (nI o) st = some (0, st') ∧ zRM C (zIt (zLoS C n r o) n M).1 (zIt (zLoS C n r o) n M).2.1 (zIt (zLoS C n r o) n M).2.2 st' := by
  unfold F_M_lose
  exact m_lose1 hn h1n hr ho hcr hI zFuel 0 M st (Nat.zero_le _) (by unfold zFuel; omega) (by omega) rfl (fun _ _ => rfl) hR
end ZM
