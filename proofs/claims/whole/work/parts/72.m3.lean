/-! The reference: settle, look, end. -/
section ZM
variable {n r t : Nat} {C : Nat → Nat → Int32} {P : Nat → zR} {q : zR} {S : Nat → Int32} {L : List zL} {st : zS}
/-- the way down: the least sure one of those below i, or what was there -/
def zDn (cr : Nat → Int32) (q : zR) (m : Int32) : Nat → Int32 → Int32
  | 0, v => v
  | i + 1, v => zDn cr q m i (if zSu cr q m i then nI i else v)
theorem zDn_none (cr : Nat → Int32) (q : zR) (m : Int32) : ∀ i v, (∀ j, j < i → ¬ zSu cr q m j) → zDn cr q m i v = v
  | 0, v, _ => rfl
  | i + 1, v, h => by
    show zDn cr q m i (if zSu cr q m i then nI i else v) = v
    rw [if_neg (h i (by omega))]
    exact zDn_none cr q m i v (fun j hj => h j (by omega))
theorem zDn_first (cr : Nat → Int32) (q : zR) (m : Int32) {j : Nat} (hs : zSu cr q m j) (hl : ∀ i, i < j → ¬ zSu cr q m i) : ∀ i v, j < i → zDn cr q m i v = nI j
  | 0, v, h => by omega
  | i + 1, v, h => by
    show zDn cr q m i (if zSu cr q m i then nI i else v) = nI j
    by_cases e : j = i
    · subst e
      rw [if_pos hs]
      exact zDn_none cr q m j _ hl
    · exact zDn_first cr q m hs hl i _ (by omega)
theorem m_set102 (hr : r < 6) (ht : t < 6) (hR : zRM C (va_up P (6 * r + t) q) S L st) (m v : Int32) : ∃ st', F_M_settle_L102 n (nI (6 * r + t)) m v st = some (0, st') ∧ zRM C (va_up P (6 * r + t) (va_up (va_up (va_up q 2 (if m = 10000 then -1 else v)) 0 m) 1 (if m < q 1 then m else q 1))) S L st' := by
  have g := zo_in (show 6 * r + t < 36 by omega) (by decide)
  have ec : Int32.toNatClampNeg (nI (6 * r + t)) = 6 * r + t := zo_c (by omega)
  have key : ∀ w : Int32, ∃ st', F_M_settle_L121 n (nI (6 * r + t)) m (nI (6 * r + t)) w st = some (0, st') ∧ zRM C (va_up P (6 * r + t) (va_up (va_up (va_up q 2 w) 0 m) 1 (if m < q 1 then m else q 1))) S L st' := by
    intro w
    have r1 : zRM C (va_up P (6 * r + t) (va_up q 2 w)) S L (zs st 4 0 (6 * r + t) w) := rm_pf hR (show 2 < 6 by decide) w
    have r2 : zRM C (va_up P (6 * r + t) (va_up (va_up q 2 w) 0 m)) S L (zs (zs st 4 0 (6 * r + t) w) 2 0 (6 * r + t) m) := rm_pf r1 (show 0 < 6 by decide) m
    have e3 : zs (zs st 4 0 (6 * r + t) w) 2 0 (6 * r + t) m 3 0 (6 * r + t) = q 1 := by
      have := rm_f r2 (show 6 * r + t < 36 by omega) (show 1 < 6 by decide)
      rw [zUp_n _ _ (by decide), zUp_n _ _ (by decide)] at this
      exact this
    have r3 : ∀ x, zRM C (va_up P (6 * r + t) (va_up (va_up (va_up q 2 w) 0 m) 1 x)) S L (zs (zs (zs st 4 0 (6 * r + t) w) 2 0 (6 * r + t) m) 3 0 (6 * r + t) x) := fun x => rm_pf r2 (show 1 < 6 by decide) x
    unfold F_M_settle_L121 F_M_settle_L121_s1 F_M_settle_L121_s2 F_M_settle_L157 F_M_settle_L157_s1
    simp only [if_neg g, ec, e3]
    by_cases c : q 1 ≤ m
    · rw [if_pos c, if_neg (fun x => Int32.not_lt.mpr c x)]
      exact ⟨_, rfl, r3 _⟩
    · rw [if_neg c, if_pos (Int32.not_le.mp c)]
      exact ⟨_, rfl, r3 _⟩
  unfold F_M_settle_L102
  by_cases c : m = 10000
  · rw [if_pos c, if_pos c]; exact key (-1)
  · rw [if_neg c, if_neg c]; exact key v
theorem m_set52 (hn : n ≤ 6) (hr : r < 6) (ht : t < 6) (hR : zRM C (va_up P (6 * r + t) q) S L st) (m : Int32) (hns : F_M_isSure n (nI r) (nI t) (q 2) m st = some (0, st)) : ∀ (i f : Nat) (v : Int32), i ≤ 6 → i < f → F_M_settle_L52 n f (nI r) (nI t) (nI (6 * r + t)) m v (nI i + (-1)) st = F_M_settle_L102 n (nI (6 * r + t)) m (zDn (C r) q m i v) st
  | i, 0, v, _, h => by omega
  | 0, f + 1, v, _, _ => by
    rw [F_M_settle_L52, if_pos (by decide)]
    rfl
  | i + 1, f + 1, v, h1, h2 => by
    have g := zo_in (show 6 * r + t < 36 by omega) (by decide)
    have ec : Int32.toNatClampNeg (nI (6 * r + t)) = 6 * r + t := zo_c (by omega)
    have e4 : st 4 0 (6 * r + t) = q 2 := rm_f hR (show 6 * r + t < 36 by omega) (show 2 < 6 by decide)
    rw [F_M_settle_L52, pk_m1, if_neg (nI_pos (by omega)), if_neg g]
    simp only [ec, e4]
    rw [hns, zbs]
    dsimp only
    unfold F_M_settle_L52_s1
    rw [if_pos rfl, m_sure hr ht hR (show i < 6 by omega), zbs]
    dsimp only
    unfold F_M_settle_L52_s2 F_M_settle_L94
    show _ = F_M_settle_L102 n (nI (6 * r + t)) m (zDn (C r) q m i (if zSu (C r) q m i then nI i else v)) st
    by_cases c : zSu (C r) q m i
    · rw [if_pos c, if_neg (by decide), if_pos c]
      exact m_set52 hn hr ht hR m hns i f (nI i) (by omega) (by omega)
    · rw [if_neg c, if_pos rfl, if_neg c]
      exact m_set52 hn hr ht hR m hns i f v (by omega) (by omega)
theorem m_settle (hn : n ≤ 6) (h1n : 1 ≤ n) (hr : r < 6) (ht : t < 6) (hcr : ∀ j, j < n → ¬ C r j < 0) (h2 : zIx n (q 2)) (hf : zFn (C r) q n) (hR : zRM C (va_up P (6 * r + t) q) S L st) : ∃ st', F_M_settle n (nI r) (nI t) st = some (0, st') ∧ zRM C (va_up P (6 * r + t) (zTake (C r) q n)) S L st' := by
  have g := zo_in (show 6 * r + t < 36 by omega) (by decide)
  have ec : Int32.toNatClampNeg (nI (6 * r + t)) = 6 * r + t := zo_c (by omega)
  have e4 : st 4 0 (6 * r + t) = q 2 := rm_f hR (show 6 * r + t < 36 by omega) (show 2 < 6 by decide)
  have fin : ∀ v, (¬ zLst (C r) q n = 10000 → v = zBest (C r) q n) → ∃ st', F_M_settle_L102 n (nI (6 * r + t)) (zLst (C r) q n) v st = some (0, st') ∧ zRM C (va_up P (6 * r + t) (zTake (C r) q n)) S L st' := by
    intro v hv
    obtain ⟨st', a, b⟩ := m_set102 (n := n) hr ht hR (zLst (C r) q n) v
    refine ⟨st', a, ?_⟩
    have e : (if zLst (C r) q n = 10000 then -1 else v) = zBest (C r) q n := by
      by_cases c : zLst (C r) q n = 10000
      · rw [if_pos c]; unfold zBest; rw [if_pos c]
      · rw [if_neg c]; exact hv c
    rw [e] at b
    exact b
  unfold F_M_settle
  rw [m_least hn hr ht hR, zbs, i6]
  dsimp only
  unfold F_M_settle_s1
  rw [if_neg g]
  simp only [ec, e4]
  by_cases hs : ∃ j, j < n ∧ q 2 = nI j ∧ zSu (C r) q (zLst (C r) q n) j
  · obtain ⟨j, hj, e, hsj⟩ := hs
    have hsu : F_M_isSure n (nI r) (nI t) (q 2) (zLst (C r) q n) st = some (1, st) := by
      rw [e, m_sure hr ht hR (show j < 6 by omega), if_pos hsj]
    rw [hsu, zbs]
    dsimp only
    unfold F_M_settle_s2 F_M_settle_L42
    rw [if_neg (by decide), if_neg g]
    simp only [ec, e4]
    rw [show zFuel = 2999 + 1 from rfl, F_M_settle_L52, if_neg, if_neg g]
    · simp only [ec, e4]
      rw [hsu, zbs]
      dsimp only
      unfold F_M_settle_L52_s1
      rw [if_neg (by decide)]
      refine fin (q 2) (fun hne => ?_)
      unfold zBest
      rw [if_neg hne, zBst_next (C r) q _ hsj.2 e.symm n (by omega) hj, e]
    · rw [show (1 : Int32) = nI 1 from rfl, pk_sub h1n]
      exact nI_pos (by omega)
  · have hns : F_M_isSure n (nI r) (nI t) (q 2) (zLst (C r) q n) st = some (0, st) := by
      rcases h2 with e | ⟨j, hj, e⟩
      · rw [e]; exact m_sureN _
      · rw [e, m_sure hr ht hR (show j < 6 by omega), if_neg (fun c => hs ⟨j, hj, e, c⟩)]
    rw [hns, zbs]
    dsimp only
    unfold F_M_settle_s2 F_M_settle_L42
    rw [if_pos rfl]
    have e1 : nI n - 1 = nI n + (-1) := (pk_sub (a := n) (b := 1) h1n).trans (sb_m1 (by omega)).symm
    rw [e1, m_set52 hn hr ht hR _ hns n zFuel (-1) hn (by unfold zFuel; omega)]
    refine fin _ (fun hne => ?_)
    have hb : ¬ zBest (C r) q n = -1 := by
      rcases hf with hf | hf
      · exact absurd hf.1 hne
      · exact hf.2
    unfold zBest at hb ⊢
    rw [if_neg hne] at hb ⊢
    have hex : ∃ j, j < n ∧ zSv (C r) q (zLst (C r) q n) j := by
      refine Classical.byContradiction (fun hno => hb ((zBst_none (C r) q _ n (by omega)).mpr (fun j hj hs => hno ⟨j, hj, hs⟩)))
    obtain ⟨j, ⟨hj, hsj⟩, hl⟩ := pk_least (fun j => j < n ∧ zSv (C r) q (zLst (C r) q n) j) hex
    have hl' : ∀ i, i < j → ¬ zSv (C r) q (zLst (C r) q n) i := fun i hi hs => hl i hi ⟨by omega, hs⟩
    have hq : ∀ m, m < n → zSv (C r) q (zLst (C r) q n) m → ¬ nI m = q 2 := fun m hm hsv e => hs ⟨m, hm, e.symm, (zSv_Su (hcr m hm) hne).mp hsv⟩
    rw [zBst_first (C r) q _ hsj hl' n (by omega) hj hq]
    exact zDn_first (C r) q _ ((zSv_Su (hcr j hj) hne).mp hsj) (fun i hi hs => hl' i hi ((zSv_Su (hcr i (by omega)) hne).mpr hs)) n (-1) hj
end ZM
