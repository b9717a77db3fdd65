/-! What is asked: both sides answer alike. -/
def zAns (f g : Option (Int32 × zS)) (sc sm : zS) : Prop := ∃ o : Int32, f = some (o, sc) ∧ g = some (o, sm)
section ZQ
variable {n : Nat} {C : Nat → Nat → Int32} {P : Nat → zR} {S : Nat → Int32} {L : List zL} {lk : Int32} {sc sm : zS}
theorem zm_f (hM : zRM C P S L sm) {r t : Nat} (hr : r < 6) (ht : t < 6) {f : Nat} (hf : f < 6) : sm (2 + f) 0 (6 * r + t) = P (6 * r + t) f := (hM.2.1 _ (by omega)).1 f hf
theorem zc_f (hn : n ≤ 6) (hC : zRC n C P S L lk sc) {r t : Nat} (hr : r < n) (ht : t < n) {f : Nat} (hf : f < 6) : sc 7 (6 * r + t) f = P (6 * r + t) f := (hC.2.1 _ (by omega) (by omega)).1 f hf
theorem z10 : ¬ (1 : Int32) = 0 := by decide
theorem z00 : (0 : Int32) = 0 := rfl
theorem fRt_y {v w : Int32} {st : zS} (h1 : zIsR n v) (h2 : zIsR n w) : F_D_isRoute n v w st = some (1, st) := by rw [f_isRt, if_pos (show zIsR n v ∧ zIsR n w from ⟨h1, h2⟩)]
theorem fRt_n {v w : Int32} {st : zS} (h : ¬ (zIsR n v ∧ zIsR n w)) : F_D_isRoute n v w st = some (0, st) := by rw [f_isRt, if_neg h]
theorem fR_y {v : Int32} {st : zS} (h : zIsR n v) : F_D_isRouter n v st = some (1, st) := by rw [f_isR, if_pos h]
theorem fR_n {v : Int32} {st : zS} (h : ¬ zIsR n v) : F_D_isRouter n v st = some (0, st) := by rw [f_isR, if_neg h]
theorem mR_y {v : Int32} {st : zS} (h : zIsR n v) : F_M_isRouter n v st = some (1, st) := by rw [m_isR, if_pos h]
theorem mR_n {v : Int32} {st : zS} (h : ¬ zIsR n v) : F_M_isRouter n v st = some (0, st) := by rw [m_isR, if_neg h]
theorem fL_y (hn : n ≤ 6) (hC : zRC n C P S L lk sc) {a b : Nat} (ha : a < n) (hb : b < n) (c : 0 < C a b) : F_D_isLink n (nI a) (nI b) sc = some (1, sc) := by rw [f_isLk hn hC ha hb, if_pos c]
theorem fL_n (hn : n ≤ 6) (hC : zRC n C P S L lk sc) {a b : Nat} (ha : a < n) (hb : b < n) (c : ¬ 0 < C a b) : F_D_isLink n (nI a) (nI b) sc = some (0, sc) := by rw [f_isLk hn hC ha hb, if_neg c]
theorem mL_y (hn : n ≤ 6) (hM : zRM C P S L sm) {a b : Nat} (ha : a < n) (hb : b < n) (c : 0 < C a b) : F_M_isLink n (nI a) (nI b) sm = some (1, sm) := by rw [m_isLk hn hM ha hb, if_pos c]
theorem mL_n (hn : n ≤ 6) (hM : zRM C P S L sm) {a b : Nat} (ha : a < n) (hb : b < n) (c : ¬ 0 < C a b) : F_M_isLink n (nI a) (nI b) sm = some (0, sm) := by rw [m_isLk hn hM ha hb, if_neg c]
theorem q_cost (hn : n ≤ 6) (hC : zRC n C P S L lk sc) (hM : zRM C P S L sm) (v w : Int32) : zAns (F_D_cost n v w sc) (F_M_cost n v w sm) sc sm := by
  unfold F_D_cost F_M_cost
  by_cases h : zIsR n v ∧ zIsR n w
  · obtain ⟨a, ha, rfl⟩ := zIsR_nI hn h.1
    obtain ⟨b, hb, rfl⟩ := zIsR_nI hn h.2
    have ga := zo_in ha (show n < 2 ^ 31 by omega)
    have gb := zo_in hb (show n < 2 ^ 31 by omega)
    have ea : Int32.toNatClampNeg (nI a) = a := zo_c (by omega)
    have eb : Int32.toNatClampNeg (nI b) = b := zo_c (by omega)
    have g := zo_in (show 6 * a + b < 36 by omega) (by decide)
    have ec : Int32.toNatClampNeg (nI (6 * a + b)) = 6 * a + b := zo_c (by omega)
    by_cases c : 0 < C a b
    · rw [fL_y hn hC ha hb c, mL_y hn hM ha hb c, zbs, zbs]
      dsimp only
      unfold F_D_cost_s1 F_M_cost_s1
      rw [if_neg z10, if_neg z10, if_neg ga, if_neg gb, i6, if_neg g, ea, eb, ec, rc_c hC ha hb, rm_c hM (by omega) (by omega)]
      exact ⟨_, rfl, rfl⟩
    · rw [fL_n hn hC ha hb c, mL_n hn hM ha hb c, zbs, zbs]
      exact ⟨-1, rfl, rfl⟩
  · rw [f_isLk_no h, m_isLk_no h, zbs, zbs]
    exact ⟨-1, rfl, rfl⟩
theorem q_dist (hn : n ≤ 6) (hC : zRC n C P S L lk sc) (hM : zRM C P S L sm) (v w : Int32) : zAns (F_D_distance n v w sc) (F_M_distance n v w sm) sc sm := by
  unfold F_D_distance F_M_distance
  by_cases h1 : zIsR n v
  · by_cases h2 : zIsR n w
    · rw [fRt_y h1 h2, mR_y h1, zbs, zbs]
      dsimp only
      unfold F_D_distance_s1 F_M_distance_s1
      rw [if_neg z10, if_neg z10, mR_y h2, zbs]
      dsimp only
      unfold F_M_distance_s2
      rw [if_neg z10]
      obtain ⟨a, ha, rfl⟩ := zIsR_nI hn h1
      obtain ⟨b, hb, rfl⟩ := zIsR_nI hn h2
      have g := zo_in (show 6 * a + b < 36 by omega) (by decide)
      have ec : Int32.toNatClampNeg (nI (6 * a + b)) = 6 * a + b := zo_c (by omega)
      rw [f_route hn ha hb, zbs, i6, if_neg g, ec]
      dsimp only
      unfold F_D_distance_s2
      have e1 := zm_f hM (f := 0) (show a < 6 by omega) (show b < 6 by omega) (by decide)
      have e1 : sm 2 0 (6 * a + b) = _ := e1
      rw [zc_f hn hC ha hb (by decide), e1]
      exact ⟨_, rfl, rfl⟩
    · rw [fRt_n (fun c => h2 c.2), mR_y h1, zbs, zbs]
      dsimp only
      unfold F_D_distance_s1 F_M_distance_s1
      rw [if_neg z10, mR_n h2, zbs]
      exact ⟨-1, rfl, rfl⟩
  · rw [fRt_n (fun c => h1 c.1), mR_n h1, zbs, zbs]
    exact ⟨-1, rfl, rfl⟩
theorem q_limit (hn : n ≤ 6) (hC : zRC n C P S L lk sc) (hM : zRM C P S L sm) (v w : Int32) : zAns (F_D_limit n v w sc) (F_M_limit n v w sm) sc sm := by
  unfold F_D_limit F_M_limit
  by_cases h1 : zIsR n v
  · by_cases h2 : zIsR n w
    · rw [fRt_y h1 h2, mR_y h1, zbs, zbs]
      dsimp only
      unfold F_D_limit_s1 F_M_limit_s1
      rw [if_neg z10, if_neg z10, mR_y h2, zbs]
      dsimp only
      unfold F_M_limit_s2
      rw [if_neg z10]
      obtain ⟨a, ha, rfl⟩ := zIsR_nI hn h1
      obtain ⟨b, hb, rfl⟩ := zIsR_nI hn h2
      have g := zo_in (show 6 * a + b < 36 by omega) (by decide)
      have ec : Int32.toNatClampNeg (nI (6 * a + b)) = 6 * a + b := zo_c (by omega)
      rw [f_route hn ha hb, zbs, i6, if_neg g, ec]
      dsimp only
      unfold F_D_limit_s2
      have e1 := zm_f hM (f := 1) (show a < 6 by omega) (show b < 6 by omega) (by decide)
      have e1 : sm 3 0 (6 * a + b) = _ := e1
      rw [zc_f hn hC ha hb (by decide), e1]
      exact ⟨_, rfl, rfl⟩
    · rw [fRt_n (fun c => h2 c.2), mR_y h1, zbs, zbs]
      dsimp only
      unfold F_D_limit_s1 F_M_limit_s1
      rw [if_neg z10, mR_n h2, zbs]
      exact ⟨-1, rfl, rfl⟩
  · rw [fRt_n (fun c => h1 c.1), mR_n h1, zbs, zbs]
    exact ⟨-1, rfl, rfl⟩
theorem q_next (hn : n ≤ 6) (hC : zRC n C P S L lk sc) (hM : zRM C P S L sm) (v w : Int32) : zAns (F_D_next n v w sc) (F_M_next n v w sm) sc sm := by
  unfold F_D_next F_M_next
  by_cases h1 : zIsR n v
  · by_cases h2 : zIsR n w
    · rw [fRt_y h1 h2, mR_y h1, zbs, zbs]
      dsimp only
      unfold F_D_next_s1 F_M_next_s1
      rw [if_neg z10, if_neg z10, mR_y h2, zbs]
      dsimp only
      unfold F_M_next_s2
      rw [if_neg z10]
      obtain ⟨a, ha, rfl⟩ := zIsR_nI hn h1
      obtain ⟨b, hb, rfl⟩ := zIsR_nI hn h2
      have g := zo_in (show 6 * a + b < 36 by omega) (by decide)
      have ec : Int32.toNatClampNeg (nI (6 * a + b)) = 6 * a + b := zo_c (by omega)
      rw [f_route hn ha hb, zbs, i6, if_neg g, ec]
      dsimp only
      unfold F_D_next_s2
      have e1 := zm_f hM (f := 2) (show a < 6 by omega) (show b < 6 by omega) (by decide)
      have e1 : sm 4 0 (6 * a + b) = _ := e1
      rw [zc_f hn hC ha hb (by decide), e1]
      exact ⟨_, rfl, rfl⟩
    · rw [fRt_n (fun c => h2 c.2), mR_y h1, zbs, zbs]
      dsimp only
      unfold F_D_next_s1 F_M_next_s1
      rw [if_neg z10, mR_n h2, zbs]
      exact ⟨-1, rfl, rfl⟩
  · rw [fRt_n (fun c => h1 c.1), mR_n h1, zbs, zbs]
    exact ⟨-1, rfl, rfl⟩
theorem q_state (hn : n ≤ 6) (hC : zRC n C P S L lk sc) (hM : zRM C P S L sm) (v w : Int32) : zAns (F_D_state n v w sc) (F_M_state n v w sm) sc sm := by
  unfold F_D_state F_M_state
  by_cases h1 : zIsR n v
  · by_cases h2 : zIsR n w
    · rw [fRt_y h1 h2, mR_y h1, zbs, zbs]
      dsimp only
      unfold F_D_state_s1 F_M_state_s1
      rw [if_neg z10, if_neg z10, mR_y h2, zbs]
      dsimp only
      unfold F_M_state_s2
      rw [if_neg z10]
      obtain ⟨a, ha, rfl⟩ := zIsR_nI hn h1
      obtain ⟨b, hb, rfl⟩ := zIsR_nI hn h2
      have g := zo_in (show 6 * a + b < 36 by omega) (by decide)
      have ec : Int32.toNatClampNeg (nI (6 * a + b)) = 6 * a + b := zo_c (by omega)
      have e3 := zm_f hM (f := 3) (show a < 6 by omega) (show b < 6 by omega) (by decide)
      have e3 : sm 5 0 (6 * a + b) = _ := e3
      have e4 := zm_f hM (f := 4) (show a < 6 by omega) (show b < 6 by omega) (by decide)
      have e4 : sm 6 0 (6 * a + b) = _ := e4
      have e5 := zm_f hM (f := 5) (show a < 6 by omega) (show b < 6 by omega) (by decide)
      have e5 : sm 7 0 (6 * a + b) = _ := e5
      rw [f_route hn ha hb, zbs, i6]
      dsimp only
      unfold F_D_state_s2 F_D_state_L40 F_M_state_L49 F_M_state_L64
      simp only [if_neg g, ec, zc_f hn hC ha hb (show 3 < 6 by decide), zc_f hn hC ha hb (show 4 < 6 by decide), zc_f hn hC ha hb (show 5 < 6 by decide), e3, e4, e5]
      by_cases c3 : P (6 * a + b) 3 = 0
      · rw [if_pos c3, if_pos c3]; exact ⟨_, rfl, rfl⟩
      · rw [if_neg c3, if_neg c3]
        by_cases c5 : P (6 * a + b) 5 = 0
        · rw [if_pos c5, if_pos c5]
          by_cases c4 : P (6 * a + b) 4 = 0
          · rw [if_pos c4, if_pos c4]; exact ⟨_, rfl, rfl⟩
          · rw [if_neg c4, if_neg c4]; exact ⟨_, rfl, rfl⟩
        · rw [if_neg c5, if_neg c5]
          by_cases c4 : P (6 * a + b) 4 = 0
          · rw [if_pos c4, if_pos c4]; exact ⟨_, rfl, rfl⟩
          · rw [if_neg c4, if_neg c4]; exact ⟨_, rfl, rfl⟩
    · rw [fRt_n (fun c => h2 c.2), mR_y h1, zbs, zbs]
      dsimp only
      unfold F_D_state_s1 F_M_state_s1
      rw [if_neg z10, mR_n h2, zbs]
      exact ⟨-1, rfl, rfl⟩
  · rw [fRt_n (fun c => h1 c.1), mR_n h1, zbs, zbs]
    exact ⟨-1, rfl, rfl⟩
theorem q_told (hn : n ≤ 6) (hC : zRC n C P S L lk sc) (hM : zRM C P S L sm) (v w x : Int32) : zAns (F_D_told n v w x sc) (F_M_told n v w x sm) sc sm := by
  unfold F_D_told F_M_told
  by_cases h : zIsR n v ∧ zIsR n w
  · obtain ⟨a, ha, rfl⟩ := zIsR_nI hn h.1
    obtain ⟨b, hb, rfl⟩ := zIsR_nI hn h.2
    by_cases h3 : zIsR n x
    · obtain ⟨t, ht, rfl⟩ := zIsR_nI hn h3
      rw [fRt_y h.1 h3, zbs]
      dsimp only
      unfold F_D_told_s1
      rw [if_neg z10]
      by_cases c : 0 < C a b
      · rw [mL_y hn hM ha hb c, zbs, fL_y hn hC ha hb c, zbs]
        dsimp only
        unfold F_M_told_s1 F_D_told_s2
        rw [if_neg z10, if_neg z10, mR_y h3, zbs]
        dsimp only
        unfold F_M_told_s2
        rw [if_neg z10]
        by_cases e : nI a = nI t
        · rw [if_pos e, if_pos e.symm]; exact ⟨_, rfl, rfl⟩
        · have gb := zo_in hb (show n < 2 ^ 31 by omega)
          have eb : Int32.toNatClampNeg (nI b) = b := zo_c (by omega)
          have g := zo_in (show 36 * b + (6 * a + t) < 216 by omega) (by decide)
          have ec : Int32.toNatClampNeg (nI (36 * b + (6 * a + t))) = 36 * b + (6 * a + t) := zo_c (by omega)
          rw [if_neg e, if_neg (show ¬ nI t = nI a from fun c => e c.symm), f_route hn ha ht, zbs, i36, if_neg g, ec]
          dsimp only
          unfold F_D_told_s3
          rw [if_neg gb, eb, (hC.2.1 (6 * a + t) (by omega) (by omega)).2.1 b hb, ((hM.2.1 (6 * a + t) (by omega)).2 b (by omega)).1]
          exact ⟨_, rfl, rfl⟩
      · rw [mL_n hn hM ha hb c, zbs, fL_n hn hC ha hb c, zbs]
        refine ⟨-1, ?_, rfl⟩
        by_cases e : nI a = nI t
        · rw [if_pos e]
        · rw [if_neg e]; rfl
    · rw [fRt_n (fun c => h3 c.2), zbs]
      by_cases c : 0 < C a b
      · rw [mL_y hn hM ha hb c, zbs]
        dsimp only
        unfold F_M_told_s1
        rw [if_neg z10, mR_n h3, zbs]
        exact ⟨-1, rfl, rfl⟩
      · rw [mL_n hn hM ha hb c, zbs]; exact ⟨-1, rfl, rfl⟩
  · rw [m_isLk_no h, zbs]
    refine ⟨-1, ?_, rfl⟩
    by_cases h3 : zIsR n v ∧ zIsR n x
    · rw [fRt_y h3.1 h3.2, zbs]
      dsimp only
      unfold F_D_told_s1
      rw [if_neg z10, f_isLk_no h, zbs]
      by_cases e : v = x
      · rw [if_pos e]
      · rw [if_neg e]; rfl
    · rw [fRt_n h3, zbs]; rfl
theorem q_waits (hn : n ≤ 6) (hC : zRC n C P S L lk sc) (hM : zRM C P S L sm) (v w x : Int32) : zAns (F_D_waits n v w x sc) (F_M_waits n v w x sm) sc sm := by
  unfold F_D_waits F_M_waits
  by_cases h1 : zIsR n v
  · rw [mR_y h1, zbs]
    dsimp only
    unfold F_M_waits_s1
    rw [if_neg z10]
    by_cases h2 : zIsR n w
    · rw [mR_y h2, zbs]
      dsimp only
      unfold F_M_waits_s2
      rw [if_neg z10]
      by_cases h3 : zIsR n x
      · rw [mR_y h3, zbs, fRt_y h1 h3, zbs]
        dsimp only
        unfold F_M_waits_s3 F_D_waits_s1
        rw [if_neg z10, if_neg z10, fR_y h2, zbs]
        dsimp only
        unfold F_D_waits_s2
        rw [if_neg z10]
        obtain ⟨a, ha, rfl⟩ := zIsR_nI hn h1
        obtain ⟨b, hb, rfl⟩ := zIsR_nI hn h2
        obtain ⟨t, ht, rfl⟩ := zIsR_nI hn h3
        have gb := zo_in hb (show n < 2 ^ 31 by omega)
        have eb : Int32.toNatClampNeg (nI b) = b := zo_c (by omega)
        have g := zo_in (show 36 * b + (6 * a + t) < 216 by omega) (by decide)
        have ec : Int32.toNatClampNeg (nI (36 * b + (6 * a + t))) = 36 * b + (6 * a + t) := zo_c (by omega)
        have e1 := (hC.2.1 (6 * a + t) (by omega) (by omega)).2.2 b hb
        have e2 := ((hM.2.1 (6 * a + t) (by omega)).2 b (by omega)).2
        rw [f_route hn ha ht, zbs, i36, if_neg g]
        dsimp only
        unfold F_D_waits_s3
        rw [if_neg gb]
        simp only [eb, ec, e1, e2]
        by_cases c : P (6 * a + t) (20 + b) = 0
        · rw [if_pos c, if_pos c]; exact ⟨_, rfl, rfl⟩
        · rw [if_neg c, if_neg c]; exact ⟨_, rfl, rfl⟩
      · rw [mR_n h3, zbs, fRt_n (fun c => h3 c.2), zbs]
        exact ⟨0, rfl, rfl⟩
    · rw [mR_n h2, zbs]
      by_cases h3 : zIsR n x
      · rw [fRt_y h1 h3, zbs]
        dsimp only
        unfold F_D_waits_s1
        rw [if_neg z10, fR_n h2, zbs]
        exact ⟨0, rfl, rfl⟩
      · rw [fRt_n (fun c => h3 c.2), zbs]
        exact ⟨0, rfl, rfl⟩
  · rw [mR_n h1, zbs, fRt_n (fun c => h1 c.1), zbs]
    exact ⟨0, rfl, rfl⟩
theorem m_fl1 {st : zS} {a b : Nat} (ha : a < 2 ^ 31) (hb : b < 2 ^ 31) : ∀ (Q : List zL) (f p c : Nat), Q.length < f → mRow st p Q → F_M_flight_L16 n f (nI a) (nI b) (nI c) (nI p) st = some (nI (c + (Q.filter (zFT a b)).length), st)
  | Q, 0, p, c, h, _ => by omega
  | [], f + 1, p, c, h, hr => by
    rw [F_M_flight_L16, hr.2.1, if_pos (nI_le (by simp) (by have := hr.1; simp at this; omega))]
    rfl
  | x :: Q, f + 1, p, c, h, hr => by
    have hl := hr.1
    simp only [List.length_cons] at hl h
    obtain ⟨⟨m1, m2, -⟩, x1, x2⟩ := hr.2.2 0 x (by simp)
    rw [Nat.add_zero] at m1 m2
    have g := zo_in (show p < 1024 by omega) (by decide)
    have ec : Int32.toNatClampNeg (nI p) = p := zo_c (by omega)
    rw [F_M_flight_L16, hr.2.1, if_neg (nI_ge (by simp only [List.length_cons]; omega) (by simp only [List.length_cons]; omega)), if_neg g, if_neg g]
    simp only [ec, m1, m2]
    have i1 : nI x.1 = nI a ↔ x.1 = a := nI_eq x1 ha
    have i2 : nI x.2.1 = nI b ↔ x.2.1 = b := nI_eq x2 hb
    have n1 := m_fl1 ha hb Q f (p + 1) c (by omega) hr.tail
    have n2 := m_fl1 ha hb Q f (p + 1) (c + 1) (by omega) hr.tail
    unfold F_M_flight_L53 F_M_flight_L54
    simp only [nI_1]
    by_cases c1 : x.1 = a
    · by_cases c2 : x.2.1 = b
      · have ft : zFT a b x = true := by simp [zFT, c1, c2]
        rw [if_pos (i1.mpr c1), if_pos (i2.mpr c2), n2, List.filter_cons_of_pos ft, List.length_cons, show c + 1 + (Q.filter (zFT a b)).length = c + ((Q.filter (zFT a b)).length + 1) by omega]
      · have ft : ¬ zFT a b x = true := by simp [zFT, c2]
        rw [if_pos (i1.mpr c1), if_neg (fun e => c2 (i2.mp e)), n1, List.filter_cons_of_neg ft]
    · have ft : ¬ zFT a b x = true := by simp [zFT, c1]
      rw [if_neg (fun e => c1 (i1.mp e)), n1, List.filter_cons_of_neg ft]
theorem q_flight (hn : n ≤ 6) (hC : zRC n C P S L lk sc) (hM : zRM C P S L sm) (hl : ∀ x ∈ L, zLn n x) (v w : Int32) : zAns (F_D_flight n v w sc) (F_M_flight n v w sm) sc sm := by
  unfold F_D_flight F_M_flight
  by_cases h : zIsR n v ∧ zIsR n w
  · obtain ⟨a, ha, rfl⟩ := zIsR_nI hn h.1
    obtain ⟨b, hb, rfl⟩ := zIsR_nI hn h.2
    by_cases c : 0 < C a b
    · rw [fL_y hn hC ha hb c, mL_y hn hM ha hb c, zbs, zbs]
      dsimp only
      unfold F_D_flight_s1 F_M_flight_s1
      have e := m_fl1 (n := n) (show a < 2 ^ 31 by omega) (show b < 2 ^ 31 by omega) L zFuel 0 0 (by have := hM.2.2.2.1; unfold zFuel; omega) (hM.row hl hn)
      have e : F_M_flight_L16 n zFuel (nI a) (nI b) 0 0 sm = _ := e
      rw [if_neg z10, if_neg z10, f_count hC (fun x hx => (hl x hx).ok hn) (show a < 2 ^ 31 by omega) (show b < 2 ^ 31 by omega), zbs, e, Nat.zero_add]
      exact ⟨_, rfl, rfl⟩
    · rw [fL_n hn hC ha hb c, mL_n hn hM ha hb c, zbs, zbs]
      exact ⟨-1, rfl, rfl⟩
  · rw [f_isLk_no h, m_isLk_no h, zbs, zbs]
    exact ⟨-1, rfl, rfl⟩
theorem zFi_neg (a b : Nat) {k : Int32} (hk : k < 0) : ∀ (Q : List zL) (c p : Nat), c + Q.length < 2 ^ 31 → zFi a b k Q (nI c) p = none
  | [], c, p, _ => rfl
  | x :: Q, c, p, h => by
    simp only [List.length_cons] at h
    have hc : ¬ nI c = k := fun e => nI_pos (n := c) (by omega) (by rw [e]; exact hk)
    have n1 := zFi_neg a b hk Q c (p + 1) (by omega)
    have n2 := zFi_neg a b hk Q (c + 1) (p + 1) (by omega)
    unfold zFi
    rw [nI_1, n1, n2, if_neg hc, ite_self]
theorem q_mess (hn : n ≤ 6) (hC : zRC n C P S L lk sc) (hM : zRM C P S L sm) (hl : ∀ x ∈ L, zLn n x) (hlk : ∀ x ∈ L, 0 < C x.1 x.2.1) (v w k u : Int32) : zAns (F_D_message n v w k u sc) (F_M_message n v w k u sm) sc sm := by
  have hLl := hM.2.2.2.1
  have no : F_M_message_L15 n u sm = some (-1, sm) := by
    unfold F_M_message_L15 F_M_message_L26
    rw [if_neg (by decide)]
  have noD : F_D_message_L23 n u (-1) sc = some (-1, sc) := by
    unfold F_D_message_L23
    rw [if_pos rfl]
  have pno : F_M_placeOf n v w k sm = some (-1, sm) → F_M_message n v w k u sm = some (-1, sm) := by
    intro h
    unfold F_M_message
    rw [no, h, zbs]
    dsimp only
    have : F_M_message_s1 n u (-1) sm = some (-1, sm) := no
    rw [this]
    by_cases c1 : k < 0
    · rw [if_pos c1]
    · rw [if_neg c1]
      by_cases c2 : u < 0
      · rw [if_pos c2]
      · rw [if_neg c2, ite_self]
  unfold F_D_message
  by_cases h : zIsR n v ∧ zIsR n w
  · obtain ⟨a, ha, rfl⟩ := zIsR_nI hn h.1
    obtain ⟨b, hb, rfl⟩ := zIsR_nI hn h.2
    have hp := m_place (n := n) hn hM hl (show a < 2 ^ 31 by omega) (show b < 2 ^ 31 by omega) k
    by_cases c : 0 < C a b
    · rw [fL_y hn hC ha hb c, zbs]
      dsimp only
      unfold F_D_message_s1
      obtain ⟨fi, h1, h2, h3⟩ := f_find (n := n) hC (fun x hx => (hl x hx).ok hn) (show a < 2 ^ 31 by omega) (show b < 2 ^ 31 by omega) k
      rw [if_neg z10, h3, zbs]
      dsimp only
      unfold F_D_message_s2
      cases e : zFi a b k L 0 0 with
      | none =>
        rw [e] at hp
        exact ⟨-1, noD, pno hp⟩
      | some i =>
        rw [e] at hp
        have hk : ¬ k < 0 := fun hk => by
          have := zFi_neg a b hk L 0 0 (by omega)
          have this : zFi a b k L 0 0 = none := this
          rw [e] at this
          cases this
        obtain ⟨j, x, e1, e2, -, -⟩ := zFi_in a b k L 0 0 i e
        rw [Nat.zero_add] at e1
        subst e1
        have hi : i < L.length := (List.getElem?_eq_some_iff.mp e2).1
        obtain ⟨-, -, m3, m4, m5⟩ := hM.2.2.2.2.2 i x e2
        obtain ⟨hr, hx⟩ := h2.2.2 i x e2
        have hfi := h2.1
        obtain ⟨-, -, u3, u4, u5⟩ := f_unpack (n := n) (st := sc) hx
        have g := zo_in (show i + fi < 1024 by omega) (by decide)
        have ec : Int32.toNatClampNeg (nI (i + fi)) = i + fi := zo_c (by omega)
        have g' := zo_in (show i < 1024 by omega) (by decide)
        have ec' : Int32.toNatClampNeg (nI i) = i := zo_c (by omega)
        have ep : zPl (Option.map (fun x => x + fi) (some i)) = nI (i + fi) := rfl
        rw [ep]
        unfold F_D_message_L23 F_M_message
        rw [if_neg (zo_m1 (by omega)), if_neg g, if_neg hk, hp, zbs, no]
        dsimp only
        unfold F_M_message_s1 F_M_message_L26
        have ep' : zPl (some i) = nI i := rfl
        rw [ep', if_pos (show (0 : Int32) ≤ nI i from nI_le (a := 0) (b := i) (by omega) (by omega)), if_neg g', if_neg g', if_neg g', ec', m3, m4, m5, ec, Nat.add_comm i fi, hr, u3, u4, u5, zbs, zbs, zbs]
        unfold F_D_message_L23_s1 F_D_message_L23_s2 F_D_message_L23_s3
        by_cases d0 : u = 0
        · subst d0
          rw [if_pos rfl, if_neg (by decide), if_pos (by decide), if_pos rfl]
          exact ⟨_, rfl, rfl⟩
        · rw [if_neg d0, if_neg d0]
          by_cases d1 : u = 1
          · subst d1
            rw [if_pos rfl, if_neg (by decide), if_pos (by decide), if_pos rfl]
            exact ⟨_, rfl, rfl⟩
          · rw [if_neg d1, if_neg d1]
            by_cases d2 : u = 2
            · subst d2
              rw [if_pos rfl, if_neg (by decide), if_pos (by decide)]
              exact ⟨_, rfl, rfl⟩
            · rw [if_neg d2]
              refine ⟨-1, rfl, ?_⟩
              rcases pk_ix u (n := 3) (by decide) with q | q | ⟨j, hj, q⟩
              · rw [if_pos q]
              · have q : ¬ u ≤ 2 := fun c => absurd (Int32.le_trans q c) (by decide)
                rw [if_neg q, ite_self]
              · exfalso
                match j, hj with
                | 0, _ => exact d0 q
                | 1, _ => exact d1 q
                | 2, _ => exact d2 q
    · rw [fL_n hn hC ha hb c, zbs]
      dsimp only
      unfold F_D_message_s1
      rw [if_pos z00]
      refine ⟨-1, noD, pno (m_place_no hn hM hl k (fun x hx hh => ?_))⟩
      obtain ⟨n1, n2, -⟩ := hl x hx
      have e1 := (nI_eq (by omega) (by omega)).mp hh.1
      have e2 := (nI_eq (by omega) (by omega)).mp hh.2
      have := hlk x hx
      rw [e1, e2] at this
      exact c this
  · rw [f_isLk_no h, zbs]
    dsimp only
    unfold F_D_message_s1
    rw [if_pos z00]
    refine ⟨-1, noD, pno (m_place_no hn hM hl k (fun x hx hh => h ?_))⟩
    obtain ⟨n1, n2, -⟩ := hl x hx
    rw [← hh.1, ← hh.2]
    exact ⟨zIsR_of hn n1, zIsR_of hn n2⟩
end ZQ
