/-! The reference: connect, cut, deliver, run. -/
def zLc (C : Nat → Nat → Int32) : Nat → Nat
  | 0 => 0
  | i + 1 => if 0 < C (i / 6) (i % 6) then zLc C i + 1 else zLc C i
theorem zLc_le (C : Nat → Nat → Int32) : ∀ i, zLc C i ≤ i
  | 0 => Nat.le_refl _
  | i + 1 => by
    have := zLc_le C i
    show (if 0 < C (i / 6) (i % 6) then zLc C i + 1 else zLc C i) ≤ i + 1
    by_cases c : 0 < C (i / 6) (i % 6)
    · rw [if_pos c]; omega
    · rw [if_neg c]; omega
abbrev zMt (a b : Nat) (x : zL) : Bool := zFT a b x || zFT b a x
section ZM
variable {n : Nat} {C : Nat → Nat → Int32} {P : Nat → zR} {S : Nat → Int32} {L : List zL} {M : zM} {st : zS}
theorem m_isR (v : Int32) : F_M_isRouter n v st = some (if zIsR n v then 1 else 0, st) := by
  unfold F_M_isRouter
  by_cases h1 : v < 0
  · rw [if_pos h1, if_neg (fun c => c.1 h1)]
  · rw [if_neg h1]
    by_cases h2 : nI n ≤ v
    · rw [if_pos h2, if_neg (fun c => c.2 h2)]
    · rw [if_neg h2, if_pos ⟨h1, h2⟩]
theorem m_isLk_no {v w : Int32} (h : ¬ (zIsR n v ∧ zIsR n w)) : F_M_isLink n v w st = some (0, st) := by
  unfold F_M_isLink
  rw [m_isR]
  by_cases h1 : zIsR n v
  · rw [if_pos h1, zbs]
    dsimp only
    unfold F_M_isLink_s1
    rw [if_neg (by decide), m_isR, if_neg (fun c => h ⟨h1, c⟩), zbs]
    rfl
  · rw [if_neg h1, zbs]; rfl
theorem m_isLk (hn : n ≤ 6) (hR : zRM C P S L st) {a b : Nat} (ha : a < n) (hb : b < n) : F_M_isLink n (nI a) (nI b) st = some (if 0 < C a b then 1 else 0, st) := by
  have g := zo_in (show 6 * a + b < 36 by omega) (by decide)
  have ec : Int32.toNatClampNeg (nI (6 * a + b)) = 6 * a + b := zo_c (by omega)
  unfold F_M_isLink
  rw [m_isR, if_pos (zIsR_of hn ha), zbs]
  dsimp only
  unfold F_M_isLink_s1
  rw [if_neg (by decide), m_isR, if_pos (zIsR_of hn hb), zbs]
  dsimp only
  unfold F_M_isLink_s2
  rw [if_neg (by decide), i6, if_neg g]
  simp only [ec, rm_c hR (show a < 6 by omega) (show b < 6 by omega)]
  by_cases h : 0 < C a b
  · rw [if_neg (fun c => Int32.not_le.mpr h c), if_pos h]
  · rw [if_pos (Int32.not_lt.mp h), if_neg h]
theorem m_links1 (hR : zRM C P S L st) : ∀ (f i : Nat), i ≤ 36 → 36 - i < f → F_M_links_L4 n f (nI (zLc C i)) (nI i) st = some (nI (zLc C 36 / 2), st)
  | 0, i, h1, h2 => by omega
  | f + 1, i, h1, h2 => by
    rw [F_M_links_L4]
    by_cases hi : i = 36
    · subst hi
      rw [if_pos (show (36 : Int32) ≤ nI 36 by decide)]
      have := zLc_le C 36
      rw [show (2 : Int32) = nI 2 from rfl, pk_div (by omega) (by decide) (by decide)]
    · have hlt : i < 36 := by omega
      have g := zo_in hlt (by decide)
      have ec : Int32.toNatClampNeg (nI i) = i := zo_c (by omega)
      have e : st 1 0 i = C (i / 6) (i % 6) := by
        have := rm_c hR (a := i / 6) (b := i % 6) (by omega) (by omega)
        rw [show 6 * (i / 6) + i % 6 = i by omega] at this
        exact this
      rw [if_neg (show ¬ (36 : Int32) ≤ nI i from nI_ge (a := i) (b := 36) hlt (by decide)), if_neg g]
      simp only [ec, e]
      have ih := m_links1 hR f (i + 1) hlt (by omega)
      have e0 : zLc C (i + 1) = if 0 < C (i / 6) (i % 6) then zLc C i + 1 else zLc C i := rfl
      unfold F_M_links_L26
      rw [nI_1]
      by_cases c : C (i / 6) (i % 6) ≤ 0
      · rw [if_pos c]
        rw [e0, if_neg (fun x => Int32.not_lt.mpr c x)] at ih
        exact ih
      · rw [if_neg c, nI_1]
        rw [e0, if_pos (Int32.not_le.mp c)] at ih
        exact ih
theorem m_links (hR : zRM C P S L st) : F_M_links n st = some (nI (zLc C 36 / 2), st) := by
  unfold F_M_links
  exact m_links1 hR zFuel 0 (by omega) (by unfold zFuel; omega)
theorem rm_pc (hR : zRM C P S L st) {a b : Nat} (ha : a < 6) (hb : b < 6) (c : Int32) : zRM (zCu C a b c) P S L (zs st 1 0 (6 * a + b) c) := by
  obtain ⟨h1, h2, h3, h4, h5, h6⟩ := hR
  have ne : ∀ x, x ≠ 1 → ∀ j, zs st 1 0 (6 * a + b) c x 0 j = st x 0 j := fun x h j => zs_a _ _ _ _ _ _ _ h
  refine ⟨fun i j hi hj => ?_, fun k hk => ?_, fun i hi => ?_, h4, ?_, fun i x hx => ?_⟩
  · unfold zCu
    by_cases e : i = a ∧ j = b
    · rw [if_pos e, e.1, e.2, zs_same]
    · rw [if_neg e, zs_idx _ _ _ _ _ (by omega)]; exact h1 i j hi hj
  · obtain ⟨g1, g2⟩ := h2 k hk
    exact ⟨fun f hf => by rw [ne (2 + f) (by omega)]; exact g1 f hf, fun j hj => by rw [ne 8 (by decide), ne 9 (by decide)]; exact g2 j hj⟩
  · rw [ne 15 (by decide)]; exact h3 i hi
  · rw [ne 0 (by decide)]; exact h5
  · rw [ne 10 (by decide), ne 11 (by decide), ne 12 (by decide), ne 13 (by decide), ne 14 (by decide)]; exact h6 i x hx
theorem m_con_no {v1 v2 v3 : Int32} (h : ¬ zIsR n v1 ∨ ¬ zIsR n v2 ∨ v1 = v2 ∨ v3 < 1 ∨ ¬ v3 ≤ 100) : F_M_connect n v1 v2 v3 st = some (-1, st) := by
  unfold F_M_connect
  rw [m_isR, zbs]
  dsimp only
  unfold F_M_connect_s1
  by_cases h1 : zIsR n v1
  · rw [if_pos h1, if_neg (by decide), m_isR, zbs]
    dsimp only
    unfold F_M_connect_s2
    by_cases h2 : zIsR n v2
    · rw [if_pos h2, if_neg (by decide)]
      by_cases h3 : v1 = v2
      · rw [if_pos h3]
      · rw [if_neg h3]
        by_cases h4 : v3 < 1
        · rw [if_pos h4]
        · rw [if_neg h4]
          by_cases h5 : v3 ≤ 100
          · rcases h with h | h | h | h | h <;> contradiction
          · rw [if_neg h5]
    · rw [if_neg h2, if_pos rfl]
  · rw [if_neg h1, if_pos rfl]
theorem m_con_s2 (hn : n ≤ 6) (hR : zRM C M.1 M.2.1 M.2.2 st) {a b : Nat} (ha : a < n) (hb : b < n) (hab : a ≠ b) {c : Int32} (h1 : ¬ c < 1) (h2 : c ≤ 100) : F_M_connect n (nI a) (nI b) c st = if nI M.2.2.length ≤ 100 then (F_M_isLink n (nI a) (nI b) st).bind (fun u => F_M_connect_s3 n (nI a) (nI b) c u.1 u.2) else some (-2, st) := by
  unfold F_M_connect
  rw [m_isR, if_pos (zIsR_of hn ha), zbs]
  dsimp only
  unfold F_M_connect_s1
  rw [if_neg (by decide), m_isR, if_pos (zIsR_of hn hb), zbs]
  dsimp only
  unfold F_M_connect_s2
  rw [if_neg (by decide), if_neg (fun e => hab ((nI_eq (by omega) (by omega)).mp e)), if_neg h1, if_pos h2, hR.2.2.2.2.1]
theorem m_con_full (hn : n ≤ 6) (hR : zRM C M.1 M.2.1 M.2.2 st) {a b : Nat} (ha : a < n) (hb : b < n) (hab : a ≠ b) {c : Int32} (h1 : ¬ c < 1) (h2 : c ≤ 100) (hL : 100 < M.2.2.length) (hL2 : M.2.2.length ≤ 1024) : F_M_connect n (nI a) (nI b) c st = some (-2, st) := by
  rw [m_con_s2 hn hR ha hb hab h1 h2, if_neg (z100_gt hL hL2)]
theorem m_con_76 {a b : Nat} (hab : a ≠ b) (ha : a < 6) (hb : b < 6) (c t0 : Int32) : F_M_connect_s3 n (nI a) (nI b) c t0 st = F_M_connect_L76 n (nI a) (nI b) c t0 (nI (zLo a b)) (nI (zHi a b)) st := by
  unfold F_M_connect_s3 F_M_connect_L64 zLo zHi
  by_cases h : b < a
  · have e1 : nI b ≤ nI a := nI_le (by omega) (by omega)
    rw [if_pos e1, if_pos e1, if_pos h, if_neg (show ¬ a < b by omega)]
  · have e1 : ¬ nI b ≤ nI a := nI_ge (by omega) (by omega)
    rw [if_neg e1, if_neg e1, if_neg h, if_pos (show a < b by omega)]
/-- what connect and cut ask of the routes -/
def zOk1 (n r : Nat) (cr : Nat → Int32) (P : Nat → zR) : Prop := ∀ j, j < n → ¬ r = j → zIx n (P (6 * r + j) 2) ∧ zQw n cr (P (6 * r + j)) ∧ (¬ P (6 * r + j) 3 = 0 → ¬ zWt (P (6 * r + j)) n = 0)
theorem zIt_off {f : Nat → zM → zM} {r r' : Nat} (hrr : r ≠ r') (h : ∀ i M, i < 6 → ∀ k, k ≠ 6 * r + i → (f i M).1 k = M.1 k) {M : zM} {j : Nat} (hj : j < 6) : ∀ i, i ≤ 6 → (zIt f i M).1 (6 * r' + j) = M.1 (6 * r' + j)
  | 0, _ => rfl
  | i + 1, hi => by
    show (f i (zIt f i M)).1 (6 * r' + j) = _
    rw [h i _ (by omega) _ (by omega)]
    exact zIt_off hrr h hj i (by omega)
theorem zWgS_off (C : Nat → Nat → Int32) (n r o i : Nat) (M : zM) (k : Nat) (hk : k ≠ 6 * r + i) : (zWgS C n r o i M).1 k = M.1 k := by
  unfold zWgS
  by_cases c : r = i
  · rw [if_pos c]
  · rw [if_neg c]; exact zUp_n _ _ hk
theorem zLoS_off (C : Nat → Nat → Int32) (n r o i : Nat) (M : zM) (k : Nat) (hk : k ≠ 6 * r + i) : (zLoS C n r o i M).1 k = M.1 k := by
  unfold zLoS
  by_cases c : r = i
  · rw [if_pos c]
  · rw [if_neg c]; exact zUp_n _ _ hk
theorem zGrS_P (r o i : Nat) (M : zM) : (zGrS r o i M).1 = M.1 := by
  unfold zGrS
  by_cases c : M.1 (6 * r + i) 0 = 10000
  · rw [if_pos c]
  · rw [if_neg c]; exact zUp_eta _ _
theorem zIt_P {f : Nat → zM → zM} (h : ∀ i M, (f i M).1 = M.1) (M : zM) : ∀ i, (zIt f i M).1 = M.1
  | 0 => rfl
  | i + 1 => (h i _).trans (zIt_P h M i)
theorem m_con (hn : n ≤ 6) (h1n : 1 ≤ n) (hR : zRM C M.1 M.2.1 M.2.2 st) {a b : Nat} (ha : a < n) (hb : b < n) (hab : a ≠ b) {c : Int32} (h1 : ¬ c < 1) (h2 : c ≤ 100) (hL : M.2.2.length ≤ 100) (hc0 : ¬ C a b < 0)
    (hcr : ∀ r, r < n → ∀ j, j < n → ¬ zC2 C a b c r j < 0) (hd : ∀ k, k / 6 < n → k % 6 < n → M.1 k 0 ≤ 10000) (hO : ∀ r, r < n → zOk1 n r (zC2 C a b c r) M.1) :
    ∃ st', F_M_connect n (nI a) (nI b) c st = some (nI (zLc (zC2 C a b c) 36 / 2), st') ∧ zRM (zC2 C a b c) (zCo C n a b c M).1 (zCo C n a b c M).2.1 (zCo C n a b c M).2.2 st' := by
  have hlo := zLo_lt ha hb
  have hhi := zHi_lt ha hb
  have hne : zLo a b ≠ zHi a b := by unfold zLo zHi; by_cases h : b < a <;> by_cases h' : a < b <;> simp [h, h'] <;> omega
  have g1 := zo_in (show 6 * a + b < 36 by omega) (by decide)
  have ec1 : Int32.toNatClampNeg (nI (6 * a + b)) = 6 * a + b := zo_c (by omega)
  have g2 := zo_in (show 6 * b + a < 36 by omega) (by decide)
  have ec2 : Int32.toNatClampNeg (nI (6 * b + a)) = 6 * b + a := zo_c (by omega)
  rw [m_con_s2 hn hR ha hb hab h1 h2, if_pos (z100_le hL), m_isLk hn hR ha hb, zbs]
  dsimp only
  rw [m_con_76 hab (by omega) (by omega)]
  unfold F_M_connect_L76 F_M_connect_L76_s1
  rw [i6, if_neg g1, i6, if_neg g2, ec1, ec2]
  have r2 : zRM (zC2 C a b c) M.1 M.2.1 M.2.2 (zs (zs st 1 0 (6 * a + b) c) 1 0 (6 * b + a) c) := rm_pc (rm_pc hR (by omega) (by omega) c) (by omega) (by omega) c
  have h142 : ∀ (M' : zM) st', zRM (zC2 C a b c) M'.1 M'.2.1 M'.2.2 st' → F_M_connect_L142 n st' = some (nI (zLc (zC2 C a b c) 36 / 2), st') := by
    intro M' st' r'
    unfold F_M_connect_L142
    rw [m_links r', zbs]
    rfl
  unfold F_M_connect_L76_s2 zCo
  by_cases hc : C a b = 0
  · have hnl : ¬ 0 < C a b := by rw [hc]; decide
    rw [if_neg hnl, if_pos rfl, if_pos hc]
    have l1 := zIt_len (fun i M => zGrS_len (zLo a b) (zHi a b) i M) M n
    have l2 : (zIt (zGrS (zLo a b) (zHi a b)) n M).2.2.length + 6 ≤ 1024 := by omega
    have dd : ∀ r, r < n → ∀ i, i < n → M.1 (6 * r + i) 0 ≤ 10000 := fun r hr i hi => hd _ (by omega) (by omega)
    obtain ⟨st4, a4, r4⟩ := m_greet (o := zHi a b) hn (show zLo a b < 6 by omega) (dd _ hlo) (by omega) r2
    obtain ⟨st5, a5, r5⟩ := m_greet (M := zIt (zGrS (zLo a b) (zHi a b)) n M) (o := zLo a b) hn (show zHi a b < 6 by omega) (by rw [zIt_P (fun i M => zGrS_P _ _ i M)]; exact dd _ hhi) l2 r4
    rw [a4, zbs]
    dsimp only
    unfold F_M_connect_L76_s3
    rw [a5, zbs]
    dsimp only
    unfold F_M_connect_L76_s4
    exact ⟨st5, h142 _ _ r5, r5⟩
  · have hnl : 0 < C a b := by
      rcases Int32.lt_or_lt_of_ne hc with h | h
      · exact absurd h hc0
      · exact h
    rw [if_pos hnl, if_neg (by decide), if_neg hc]
    have hd' : 3 * (n + 1) * n ≤ 126 := by
      have : 3 * (n + 1) ≤ 21 := by omega
      calc 3 * (n + 1) * n ≤ 21 * 6 := Nat.mul_le_mul this hn
        _ = 126 := rfl
    have l1 := zIt_len (fun i M => zWgS_len (zC2 C a b c) n (zLo a b) (zHi a b) i M) M n
    have l2 : (zIt (zWgS (zC2 C a b c) n (zLo a b) (zHi a b)) n M).2.2.length + 126 ≤ 1024 := by omega
    obtain ⟨st4, a4, r4⟩ := m_recost (o := zHi a b) hn h1n (show zLo a b < 6 by omega) hhi (hcr _ hlo) (hO _ hlo) (by omega) r2
    obtain ⟨st5, a5, r5⟩ := m_recost (M := zIt (zWgS (zC2 C a b c) n (zLo a b) (zHi a b)) n M) (o := zLo a b) hn h1n (show zHi a b < 6 by omega) hlo (hcr _ hhi) (fun j hj hne' => by
      rw [zIt_off (f := zWgS (zC2 C a b c) n (zLo a b) (zHi a b)) hne (fun i M _ k hk => zWgS_off _ _ _ _ i M k hk) (show j < 6 by omega) n hn]
      exact hO _ hhi j hj hne') l2 r4
    rw [a4, zbs]
    dsimp only
    unfold F_M_connect_L76_s5
    rw [a5, zbs]
    dsimp only
    unfold F_M_connect_L76_s6
    exact ⟨st5, h142 _ _ r5, r5⟩
end ZM
