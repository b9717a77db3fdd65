/-! The reference: tellAll, askAll, isFine, settle. -/
def zAw2 (cr : Nat → Int32) (q : zR) : Nat → zR
  | 0 => q
  | i + 1 => va_up (zAw2 cr q i) (20 + i) (if 0 < cr i then 1 else 0)
theorem zAw2_lo (cr : Nat → Int32) (q : zR) {f : Nat} (hf : f < 20) : ∀ i, zAw2 cr q i f = q f
  | 0 => rfl
  | i + 1 => by
    show va_up (zAw2 cr q i) (20 + i) (if 0 < cr i then 1 else 0) f = q f
    rw [zUp_n _ _ (by omega)]
    exact zAw2_lo cr q hf i
theorem zAw2_eq {cr : Nat → Int32} {q : zR} : ∀ n, (∀ j, j < n → ¬ 0 < cr j → q (20 + j) = 0) → zAw2 cr q n = zAwait cr q n
  | 0, _ => rfl
  | i + 1, h => by
    have ih := zAw2_eq i (fun j hj => h j (by omega))
    show va_up (zAw2 cr q i) (20 + i) (if 0 < cr i then 1 else 0) = if 0 < cr i then va_up (zAwait cr q i) (20 + i) 1 else zAwait cr q i
    rw [ih]
    by_cases c : 0 < cr i
    · rw [if_pos c, if_pos c]
    · rw [if_neg c, if_neg c]
      have e : zAwait cr q i (20 + i) = 0 := by
        have : ∀ m, m ≤ i → zAwait cr q m (20 + i) = q (20 + i) := by
          intro m
          induction m with
          | zero => intro _; rfl
          | succ m im =>
            intro hm
            show (if 0 < cr m then va_up (zAwait cr q m) (20 + m) 1 else zAwait cr q m) (20 + i) = _
            by_cases c2 : 0 < cr m
            · rw [if_pos c2, zUp_n _ _ (by omega)]; exact im (by omega)
            · rw [if_neg c2]; exact im (by omega)
        rw [this i (Nat.le_refl _)]
        exact h i (by omega) c
      rw [← e, zUp_eta]
theorem zLst_le (cr : Nat → Int32) (q : zR) : ∀ i, zLst cr q i ≤ 10000
  | 0 => show (10000 : Int32) ≤ 10000 by decide
  | i + 1 => by
    have ih := zLst_le cr q i
    show (if zThr cr q i < zLst cr q i then zThr cr q i else zLst cr q i) ≤ 10000
    by_cases c : zThr cr q i < zLst cr q i
    · rw [if_pos c]; exact Int32.le_trans (Int32.le_of_lt c) ih
    · rw [if_neg c]; exact ih
abbrev zSv (cr : Nat → Int32) (q : zR) (far : Int32) (j : Nat) : Prop := q (10 + j) < q 1 ∧ zThr cr q j = far
theorem zBst_none (cr : Nat → Int32) (q : zR) (far : Int32) : ∀ i, i < 2 ^ 31 → (zBst cr q far i = -1 ↔ ∀ j, j < i → ¬ zSv cr q far j)
  | 0, _ => ⟨fun _ j hj => by omega, fun _ => rfl⟩
  | i + 1, hi => by
    have ih := zBst_none cr q far i (by omega)
    have e0 : zBst cr q far (i + 1) = if (q (10 + i) < q 1 ∧ zThr cr q i = far) ∧ (zBst cr q far i = -1 ∨ nI i = q 2) then nI i else zBst cr q far i := rfl
    rw [e0]
    by_cases hs : q (10 + i) < q 1 ∧ zThr cr q i = far
    · refine ⟨fun h => ?_, fun h => absurd hs (h i (by omega))⟩
      by_cases c : zBst cr q far i = -1 ∨ nI i = q 2
      · rw [if_pos ⟨hs, c⟩] at h
        exact absurd h (zo_m1 (by omega))
      · rw [if_neg (fun x => c x.2)] at h
        exact absurd (Or.inl h) c
    · rw [if_neg (fun x => hs x.1), ih]
      refine ⟨fun h j hj => ?_, fun h j hj => h j (by omega)⟩
      by_cases e : j = i
      · subst e; exact hs
      · exact h j (by omega)
theorem zBst_next (cr : Nat → Int32) (q : zR) (far : Int32) {j : Nat} (hs : zSv cr q far j) (hq : nI j = q 2) : ∀ i, i < 2 ^ 31 → j < i → zBst cr q far i = nI j
  | 0, _, h => by omega
  | i + 1, hi, h => by
    have e0 : zBst cr q far (i + 1) = if (q (10 + i) < q 1 ∧ zThr cr q i = far) ∧ (zBst cr q far i = -1 ∨ nI i = q 2) then nI i else zBst cr q far i := rfl
    rw [e0]
    by_cases e : j = i
    · subst e
      rw [if_pos ⟨hs, Or.inr hq⟩]
    · have ih := zBst_next cr q far hs hq i (by omega) (by omega)
      rw [if_neg, ih]
      rintro ⟨-, c | c⟩
      · rw [ih] at c; exact zo_m1 (by omega) c
      · exact e ((nI_eq (by omega) (by omega)).mp (hq.trans c.symm))
theorem zBst_first (cr : Nat → Int32) (q : zR) (far : Int32) {j : Nat} (hs : zSv cr q far j) (hl : ∀ i, i < j → ¬ zSv cr q far i) : ∀ i, i < 2 ^ 31 → j < i → (∀ m, m < i → zSv cr q far m → ¬ nI m = q 2) → zBst cr q far i = nI j
  | 0, _, h, _ => by omega
  | i + 1, hi, h, hq => by
    have e0 : zBst cr q far (i + 1) = if (q (10 + i) < q 1 ∧ zThr cr q i = far) ∧ (zBst cr q far i = -1 ∨ nI i = q 2) then nI i else zBst cr q far i := rfl
    rw [e0]
    by_cases e : j = i
    · subst e
      rw [if_pos ⟨hs, Or.inl ((zBst_none cr q far j (by omega)).mpr hl)⟩]
    · have ih := zBst_first cr q far hs hl i (by omega) (by omega) (fun m hm => hq m (by omega))
      rw [if_neg, ih]
      rintro ⟨c1, c | c⟩
      · rw [ih] at c; exact zo_m1 (by omega) c
      · exact hq i (by omega) c1 c
theorem zSv_Su {cr : Nat → Int32} {q : zR} {far : Int32} {j : Nat} (hcr : ¬ cr j < 0) (hf : ¬ far = 10000) : zSv cr q far j ↔ zSu cr q far j := by
  refine ⟨fun h => ⟨?_, h.1, h.2⟩, fun h => h.2⟩
  have hne : ¬ cr j = 0 := by
    intro e
    have h2 := h.2
    unfold zThr at h2
    rw [if_pos e] at h2
    exact hf h2.symm
  rcases Int32.lt_or_lt_of_ne hne with h1 | h1
  · exact absurd h1 hcr
  · exact h1
def zIsf (cr : Nat → Int32) (q : zR) (m s : Int32) : Nat → Int32
  | 0 => s
  | i + 1 => if zIsf cr q m s i = 0 then (if 10000 ≤ m then 0 else if zSu cr q m i then 1 else 0) else 1
theorem zIsf_01 (cr : Nat → Int32) (q : zR) (m s : Int32) (hs : s = 0 ∨ s = 1) : ∀ i, zIsf cr q m s i = 0 ∨ zIsf cr q m s i = 1
  | 0 => hs
  | i + 1 => by
    show (if zIsf cr q m s i = 0 then (if 10000 ≤ m then 0 else if zSu cr q m i then 1 else 0) else 1) = (0 : Int32) ∨ (if zIsf cr q m s i = 0 then (if 10000 ≤ m then 0 else if zSu cr q m i then 1 else 0) else 1) = (1 : Int32)
    by_cases c : zIsf cr q m s i = 0
    · rw [if_pos c]
      by_cases c2 : (10000 : Int32) ≤ m
      · exact Or.inl (if_pos c2)
      · rw [if_neg c2]
        by_cases c3 : zSu cr q m i
        · exact Or.inr (if_pos c3)
        · exact Or.inl (if_neg c3)
    · exact Or.inr (if_neg c)
theorem zIsf_0 (cr : Nat → Int32) (q : zR) (m s : Int32) : ∀ i, zIsf cr q m s i = 0 ↔ s = 0 ∧ (10000 ≤ m ∨ ∀ j, j < i → ¬ zSu cr q m j)
  | 0 => ⟨fun h => ⟨h, Or.inr (fun j hj => by omega)⟩, fun h => h.1⟩
  | i + 1 => by
    have ih := zIsf_0 cr q m s i
    show (if zIsf cr q m s i = 0 then (if 10000 ≤ m then 0 else if zSu cr q m i then 1 else 0) else 1) = (0 : Int32) ↔ _
    by_cases c : zIsf cr q m s i = 0
    · rw [if_pos c]
      have h0 := ih.mp c
      by_cases c2 : (10000 : Int32) ≤ m
      · rw [if_pos c2]
        exact ⟨fun _ => ⟨h0.1, Or.inl c2⟩, fun _ => rfl⟩
      · rw [if_neg c2]
        have h1 := h0.2.resolve_left c2
        by_cases c3 : zSu cr q m i
        · rw [if_pos c3]
          exact ⟨fun h => absurd h (by decide), fun h => absurd c3 ((h.2.resolve_left c2) i (by omega))⟩
        · rw [if_neg c3]
          refine ⟨fun _ => ⟨h0.1, Or.inr (fun j hj => ?_)⟩, fun _ => rfl⟩
          by_cases e : j = i
          · subst e; exact c3
          · exact h1 j (by omega)
    · rw [if_neg c]
      refine ⟨fun h => absurd h (by decide), fun h => absurd (ih.mpr ⟨h.1, ?_⟩) c⟩
      exact h.2.imp id (fun g j hj => g j (by omega))
theorem zFn_isf {cr : Nat → Int32} {q : zR} {n : Nat} (hn : n < 2 ^ 31) (hcr : ∀ j, j < n → ¬ cr j < 0) : zIsf cr q (zLst cr q n) (if zLst cr q n = 10000 ∧ q 1 = 10000 then 1 else 0) n = if zFn cr q n then 1 else 0 := by
  have h01 := zIsf_01 cr q (zLst cr q n) (if zLst cr q n = 10000 ∧ q 1 = 10000 then 1 else 0) (by by_cases c : zLst cr q n = 10000 ∧ q 1 = 10000 <;> simp [c]) n
  have h0 := zIsf_0 cr q (zLst cr q n) (if zLst cr q n = 10000 ∧ q 1 = 10000 then 1 else 0) n
  have hle := zLst_le cr q n
  have hb := zBst_none cr q (zLst cr q n) n hn
  by_cases hf : zFn cr q n
  · rw [if_pos hf]
    refine h01.resolve_left (fun h => ?_)
    obtain ⟨g1, g2⟩ := h0.mp h
    rcases hf with hf | ⟨hf1, hf2⟩
    · rw [if_pos hf] at g1; exact absurd g1 (by decide)
    · rcases g2 with g2 | g2
      · exact hf1 (Int32.le_antisymm hle g2)
      · refine hf2 ?_
        unfold zBest
        rw [if_neg hf1]
        exact hb.mpr (fun j hj hs => g2 j hj ((zSv_Su (hcr j hj) hf1).mp hs))
  · rw [if_neg hf]
    refine h0.mpr ⟨by rw [if_neg (fun c => hf (Or.inl c))], ?_⟩
    by_cases c : zLst cr q n = 10000
    · exact Or.inl (by rw [c]; exact Int32.le_refl _)
    · refine Or.inr (fun j hj hs => hf (Or.inr ⟨c, ?_⟩))
      unfold zBest
      rw [if_neg c]
      intro e
      exact (hb.mp e) j hj hs.2
section ZM
variable {n r t : Nat} {C : Nat → Nat → Int32} {P : Nat → zR} {q : zR} {S : Nat → Int32} {L : List zL} {st : zS}
theorem m_tell1 (hn : n ≤ 6) (hr : r < 6) (ht : t < 6) {kd : Nat} (hkd : kd < 3) (x : Int32) (hL : L.length + 6 ≤ 1024) : ∀ (f i : Nat) (st : zS), i ≤ n → n - i < f → zRM C (va_up P (6 * r + t) q) (zCnt (zTell (zNb (C r) x i) kd (q 0)) S) (zPush (6 * r + t) (zTell (zNb (C r) x i) kd (q 0)) L) st →
    ∃ st', F_M_tellAll_L6 n f (nI r) (nI t) (nI kd) x (nI (zNb (C r) x i).length) (nI i) st = some (nI (zNb (C r) x n).length, st') ∧ zRM C (va_up P (6 * r + t) q) (zCnt (zTell (zNb (C r) x n) kd (q 0)) S) (zPush (6 * r + t) (zTell (zNb (C r) x n) kd (q 0)) L) st'
  | 0, i, st, h1, h2, _ => by omega
  | f + 1, i, st, h1, h2, hR => by
    rw [F_M_tellAll_L6]
    by_cases hi : i = n
    · subst hi
      rw [if_pos (nI_le (Nat.le_refl _) (by omega))]
      exact ⟨st, rfl, hR⟩
    · have hlt : i < n := by omega
      have g := zo_in (show 6 * r + i < 36 by omega) (by decide)
      have ec : Int32.toNatClampNeg (nI (6 * r + i)) = 6 * r + i := zo_c (by omega)
      rw [if_neg (nI_ge hlt (by omega)), i6, if_neg g]
      simp only [ec, rm_c hR hr (show i < 6 by omega)]
      have e0 : zNb (C r) x (i + 1) = if 0 < C r i ∧ ¬ nI i = x then zNb (C r) x i ++ [i] else zNb (C r) x i := rfl
      have ih := fun st => m_tell1 hn hr ht hkd x hL f (i + 1) st hlt (by omega)
      by_cases hc : C r i ≤ 0
      · rw [if_pos hc]
        unfold F_M_tellAll_L49
        rw [nI_1]
        have := ih st
        rw [e0, if_neg (fun c => Int32.not_lt.mpr hc c.1)] at this
        exact this hR
      · rw [if_neg hc]
        by_cases hx : nI i = x
        · rw [if_pos hx]
          unfold F_M_tellAll_L49
          rw [nI_1]
          have := ih st
          rw [e0, if_neg (fun c => c.2 hx)] at this
          exact this hR
        · rw [if_neg hx]
          obtain ⟨st1, a, b⟩ := m_send (n := n) (to := i) (kd := kd) hr ht hR hkd (by
            have := zNb_len (C r) x i
            rw [zPush_len, zTell_len]; omega)
          rw [a, zbs]
          dsimp only
          unfold F_M_tellAll_L6_s1 F_M_tellAll_L49
          rw [nI_1, nI_1]
          have := ih st1
          rw [e0, if_pos ⟨Int32.not_le.mp hc, hx⟩, zPush_snoc, zCnt_snoc] at this
          simp only [List.length_append, List.length_singleton] at this
          exact this b
theorem m_tell (hn : n ≤ 6) (hr : r < 6) (ht : t < 6) {kd : Nat} (hkd : kd < 3) (hR : zRM C (va_up P (6 * r + t) q) S L st) (x : Int32) (hL : L.length + 6 ≤ 1024) : ∃ st', F_M_tellAll n (nI r) (nI t) (nI kd) x st = some (nI (zNb (C r) x n).length, st') ∧ zRM C (va_up P (6 * r + t) q) (zCnt (zTell (zNb (C r) x n) kd (q 0)) S) (zPush (6 * r + t) (zTell (zNb (C r) x n) kd (q 0)) L) st' := by
  unfold F_M_tellAll
  exact m_tell1 hn hr ht hkd x hL zFuel 0 st (Nat.zero_le _) (by unfold zFuel; omega) (by
    show zRM C (va_up P (6 * r + t) q) (zCnt [] S) (zPush (6 * r + t) [] L) st
    rw [zPush_nil]; exact hR)
theorem m_ask1 (hn : n ≤ 6) (hr : r < 6) (ht : t < 6) (many : Nat) (hm : many < 2 ^ 31) : ∀ (f i : Nat) (st : zS), i ≤ n → n - i < f → zRM C (va_up P (6 * r + t) (zAw2 (C r) q i)) S L st →
    ∃ st', F_M_askAll_L38 n f (nI r) (nI (6 * r + t)) (nI many) (nI i) st = some (if many = 0 then 0 else 1, st') ∧ zRM C (va_up P (6 * r + t) (zAw2 (C r) q n)) S L st'
  | 0, i, st, h1, h2, _ => by omega
  | f + 1, i, st, h1, h2, hR => by
    rw [F_M_askAll_L38]
    by_cases hi : i = n
    · subst hi
      rw [if_pos (nI_le (Nat.le_refl _) (by omega))]
      refine ⟨st, ?_, hR⟩
      by_cases c : many = 0
      · subst c; rw [if_pos (by decide), if_pos rfl]
      · rw [if_neg (show ¬ nI many ≤ 0 from nI_nle (by omega) hm), if_neg c]
    · have hlt : i < n := by omega
      have g := zo_in (show 6 * r + i < 36 by omega) (by decide)
      have ec : Int32.toNatClampNeg (nI (6 * r + i)) = 6 * r + i := zo_c (by omega)
      have g2 := zo_in (show 36 * i + (6 * r + t) < 216 by omega) (by decide)
      have ec2 : Int32.toNatClampNeg (nI (36 * i + (6 * r + t))) = 36 * i + (6 * r + t) := zo_c (by omega)
      rw [if_neg (nI_ge hlt (by omega)), i6, if_neg g, i36']
      simp only [ec, rm_c hR hr (show i < 6 by omega)]
      have e1 : zAw2 (C r) q (i + 1) = va_up (zAw2 (C r) q i) (20 + i) (if 0 < C r i then 1 else 0) := rfl
      have step := fun v => rm_pw (show 6 * r + t < 36 by omega) hR (show i < 6 by omega) v
      have ih := fun st => m_ask1 hn hr ht many hm f (i + 1) st hlt (by omega)
      by_cases hc : C r i ≤ 0
      · rw [if_pos hc]
        unfold F_M_askAll_L78 F_M_askAll_L78_s1
        rw [if_neg g2, if_neg (by decide), ec2, nI_1]
        exact ih _ (by rw [e1, if_neg (fun c => Int32.not_lt.mpr hc c)]; exact step 0)
      · rw [if_neg hc]
        unfold F_M_askAll_L78 F_M_askAll_L78_s1
        rw [if_neg g2, if_neg (by decide), ec2, nI_1]
        exact ih _ (by rw [e1, if_pos (Int32.not_le.mp hc)]; exact step 1)
theorem m_ask (hn : n ≤ 6) (hr : r < 6) (ht : t < 6) (hR : zRM C (va_up P (6 * r + t) q) S L st) (h2 : zIx 6 (q 2)) (hL : L.length + 6 ≤ 1024) : ∃ st', F_M_askAll n (nI r) (nI t) st = some (if (zNb (C r) (-1) n).length = 0 then 0 else 1, st') ∧
    zRM C (va_up P (6 * r + t) (zAw2 (C r) (va_up q 0 (zThrX (C r) q (q 2))) n)) (zCnt (zTell (zNb (C r) (-1) n) 1 (zThrX (C r) q (q 2))) S) (zPush (6 * r + t) (zTell (zNb (C r) (-1) n) 1 (zThrX (C r) q (q 2))) L) st' := by
  have g := zo_in (show 6 * r + t < 36 by omega) (by decide)
  have ec : Int32.toNatClampNeg (nI (6 * r + t)) = 6 * r + t := zo_c (by omega)
  have e4 : st 4 0 (6 * r + t) = q 2 := rm_f hR (show 6 * r + t < 36 by omega) (show 2 < 6 by decide)
  unfold F_M_askAll
  rw [i6, if_neg g]
  simp only [ec, e4]
  rw [m_through hr ht hR h2, zbs]
  dsimp only
  unfold F_M_askAll_s1
  rw [if_neg g]
  simp only [ec]
  have r1 : zRM C (va_up P (6 * r + t) (va_up q 0 (zThrX (C r) q (q 2)))) S L (zs st 2 0 (6 * r + t) (zThrX (C r) q (q 2))) := rm_pf hR (show 0 < 6 by decide) _
  unfold F_M_askAll_s2
  obtain ⟨st2, a2, r2⟩ := m_tell (kd := 1) hn hr ht (by decide) r1 (-1) hL
  rw [zUp_s] at r2
  have a2 : F_M_tellAll n (nI r) (nI t) 1 (-1) (zs st 2 0 (6 * r + t) (zThrX (C r) q (q 2))) = _ := a2
  rw [a2, zbs]
  dsimp only
  unfold F_M_askAll_s3
  have := zNb_len (C r) (-1) n
  exact m_ask1 hn hr ht (zNb (C r) (-1) n).length (by omega) zFuel 0 st2 (Nat.zero_le _) (by unfold zFuel; omega) r2
theorem m_fine1 (hn : n ≤ 6) (hr : r < 6) (ht : t < 6) (hR : zRM C (va_up P (6 * r + t) q) S L st) (m s : Int32) (hs : s = 0 ∨ s = 1) : ∀ (f i : Nat), i ≤ n → n - i < f → F_M_isFine_L41 n f (nI r) (nI t) m (zIsf (C r) q m s i) (nI i) st = some (zIsf (C r) q m s n, st)
  | 0, i, h1, h2 => by omega
  | f + 1, i, h1, h2 => by
    rw [F_M_isFine_L41]
    by_cases hi : i = n
    · subst hi
      rw [if_pos (nI_le (Nat.le_refl _) (by omega)), if_neg (fun c => c (zIsf_01 _ _ _ _ hs _))]
    · have hlt : i < n := by omega
      rw [if_neg (nI_ge hlt (by omega))]
      have ih := m_fine1 hn hr ht hR m s hs f (i + 1) hlt (by omega)
      have e0 : zIsf (C r) q m s (i + 1) = if zIsf (C r) q m s i = 0 then (if 10000 ≤ m then 0 else if zSu (C r) q m i then 1 else 0) else 1 := rfl
      by_cases c : zIsf (C r) q m s i = 0
      · rw [if_pos c]
        by_cases c2 : (10000 : Int32) ≤ m
        · rw [if_pos c2]
          unfold F_M_isFine_L78 F_M_isFine_L79
          rw [nI_1]
          rw [e0, if_pos c, if_pos c2] at ih
          exact ih
        · rw [if_neg c2, m_sure hr ht hR (show i < 6 by omega), zbs]
          dsimp only
          unfold F_M_isFine_L41_s1
          by_cases c3 : zSu (C r) q m i
          · rw [if_pos c3, if_neg (by decide)]
            unfold F_M_isFine_L74 F_M_isFine_L79
            rw [nI_1]
            rw [e0, if_pos c, if_neg c2, if_pos c3] at ih
            exact ih
          · rw [if_neg c3, if_pos rfl]
            unfold F_M_isFine_L78 F_M_isFine_L79
            rw [nI_1]
            rw [e0, if_pos c, if_neg c2, if_neg c3] at ih
            exact ih
      · rw [if_neg c]
        unfold F_M_isFine_L74 F_M_isFine_L79
        rw [nI_1]
        rw [e0, if_neg c] at ih
        exact ih
theorem m_fine (hn : n ≤ 6) (hr : r < 6) (ht : t < 6) (hcr : ∀ j, j < n → ¬ C r j < 0) (hR : zRM C (va_up P (6 * r + t) q) S L st) : F_M_isFine n (nI r) (nI t) st = some (if zFn (C r) q n then 1 else 0, st) := by
  have g := zo_in (show 6 * r + t < 36 by omega) (by decide)
  have ec : Int32.toNatClampNeg (nI (6 * r + t)) = 6 * r + t := zo_c (by omega)
  have e3 : st 3 0 (6 * r + t) = q 1 := rm_f hR (show 6 * r + t < 36 by omega) (show 1 < 6 by decide)
  rw [← zFn_isf (by omega) hcr]
  unfold F_M_isFine
  rw [m_least hn hr ht hR, zbs]
  dsimp only
  unfold F_M_isFine_s1 F_M_isFine_L35 F_M_isFine_L36
  have key : ∀ s : Int32, s = 0 ∨ s = 1 → F_M_isFine_L41 n zFuel (nI r) (nI t) (zLst (C r) q n) s 0 st = some (zIsf (C r) q (zLst (C r) q n) s n, st) := fun s hs => m_fine1 hn hr ht hR _ s hs zFuel 0 (Nat.zero_le _) (by unfold zFuel; omega)
  rw [i6, if_neg g]
  simp only [ec, e3]
  by_cases c : zLst (C r) q n = 10000
  · by_cases c2 : q 1 = 10000
    · rw [if_pos c, if_pos c2, key 1 (Or.inr rfl), if_pos ⟨c, c2⟩]
    · rw [if_pos c, if_neg c2, key 0 (Or.inl rfl), if_neg (fun x => c2 x.2)]
  · rw [if_neg c, key 0 (Or.inl rfl), if_neg (fun x => c x.1)]
end ZM
