/-! The reference: cut, deliver, run. -/
abbrev zKp (a b : Nat) (x : zL) : Bool := !zFT b a x && !zFT a b x
def zOk2 (n r o : Nat) (cr : Nat → Int32) (P : Nat → zR) : Prop := ∀ j, j < n → ¬ r = j → zIx n (P (6 * r + j) 2) ∧ zQw n cr (zForget (P (6 * r + j)) o) ∧ (P (6 * r + j) 4 = 0 ∨ P (6 * r + j) 4 = 1) ∧ (P (6 * r + j) 5 = 0 ∨ P (6 * r + j) 5 = 1) ∧ P (6 * r + j) 0 ≤ 10000
section ZM
variable {n : Nat} {C : Nat → Nat → Int32} {P : Nat → zR} {S : Nat → Int32} {L : List zL} {M : zM} {st : zS}
theorem m_cutL {a b : Nat} (ha : a < 6) (hb : b < 6) (hn : n ≤ 6) : ∀ (f : Nat) (K F : List zL) (c : Nat) (st : zS), K.length < f → c + K.length ≤ 1024 → (∀ x ∈ K, zLn n x) → zRM C P S (K ++ F) st →
    ∃ st' f', F_M_cut_L33 n f (nI a) (nI b) (nI c) (nI K.length - 1) st = F_M_cut_L33 n (f' + 1) (nI a) (nI b) (nI (c + (K.length - (K.filter (zKp a b)).length))) (-1) st' ∧ zRM C P S (K.filter (zKp a b) ++ F) st'
  | 0, K, F, c, st, h, _, _, _ => by omega
  | f + 1, K, F, c, st, h, hcl, hl, hR => by
    rcases List.eq_nil_or_concat K with e | ⟨K', x, e⟩
    · subst e
      exact ⟨st, f, rfl, hR⟩
    · rw [List.concat_eq_append] at e
      subst e
      have hlen : (K' ++ [x]).length = K'.length + 1 := by simp
      rw [hlen] at h hcl
      have hx : ((K' ++ [x]) ++ F)[K'.length]? = some x := by simp
      have h1024 := hR.2.2.2.1
      have hk : K'.length < 1024 := by simp at h1024; omega
      obtain ⟨m1, m2, -⟩ := hR.2.2.2.2.2 _ x hx
      obtain ⟨x1, x2, -⟩ := hl x (by simp)
      have g := zo_in hk (by decide)
      have ec : Int32.toNatClampNeg (nI K'.length) = K'.length := zo_c (by omega)
      have e1 : nI (K'.length + 1) - 1 = nI K'.length := pk_sub (a := K'.length + 1) (b := 1) (by omega)
      have e2 : nI K'.length + -1 = nI K'.length - 1 := (Int32.sub_eq_add_neg _ _).symm
      have i1 : nI x.1 = nI a ↔ x.1 = a := nI_eq (by omega) (by omega)
      have i2 : nI x.2.1 = nI b ↔ x.2.1 = b := nI_eq (by omega) (by omega)
      have i3 : nI x.1 = nI b ↔ x.1 = b := nI_eq (by omega) (by omega)
      have i4 : nI x.2.1 = nI a ↔ x.2.1 = a := nI_eq (by omega) (by omega)
      have hl' : ∀ y ∈ K', zLn n y := fun y hy => hl y (List.mem_append_left _ hy)
      have fl := List.length_filter_le (zKp a b) K'
      have hA : (zFT a b x = true ∨ zFT b a x = true) → ∃ st' f', F_M_cut_L82 n (F_M_cut_L33 n f) (nI a) (nI b) (nI c) (nI K'.length) st = F_M_cut_L33 n (f' + 1) (nI a) (nI b) (nI (c + ((K' ++ [x]).length - ((K' ++ [x]).filter (zKp a b)).length))) (-1) st' ∧ zRM C P S ((K' ++ [x]).filter (zKp a b) ++ F) st' := by
        intro hm
        have hp : zKp a b x = false := by
          rcases hm with hm | hm <;> simp [zKp, hm]
        obtain ⟨st1, a1, r1⟩ := m_out (n := n) hR (i := K'.length) (by simp)
        have ee : ((K' ++ [x]) ++ F).eraseIdx K'.length = K' ++ F := by
          rw [List.append_assoc, List.eraseIdx_append_of_length_le (Nat.le_refl _)]
          simp
        rw [ee] at r1
        obtain ⟨st2, f2, a2, r2⟩ := m_cutL ha hb hn f K' F (c + 1) st1 (by omega) (by omega) hl' r1
        refine ⟨st2, f2, ?_, ?_⟩
        · unfold F_M_cut_L82
          rw [a1, zbs]
          dsimp only
          unfold F_M_cut_L82_s1 F_M_cut_L91
          have e3 : [x].filter (zKp a b) = [] := by simp [hp]
          have e4 : c + 1 + (K'.length - (K'.filter (zKp a b)).length) = c + ((K' ++ [x]).length - ((K' ++ [x]).filter (zKp a b)).length) := by
            rw [List.filter_append, List.length_append, List.length_append, e3]
            simp only [List.length_cons, List.length_nil]
            omega
          rw [e2, nI_1, a2, e4]
        · rw [List.filter_append]
          have e3 : [x].filter (zKp a b) = [] := by simp [hp]
          rw [e3, List.append_nil]
          exact r2
      have hB : ¬ (zFT a b x = true ∨ zFT b a x = true) → ∃ st' f', F_M_cut_L91 n (F_M_cut_L33 n f) (nI a) (nI b) (nI c) (nI K'.length) st = F_M_cut_L33 n (f' + 1) (nI a) (nI b) (nI (c + ((K' ++ [x]).length - ((K' ++ [x]).filter (zKp a b)).length))) (-1) st' ∧ zRM C P S ((K' ++ [x]).filter (zKp a b) ++ F) st' := by
        intro hm
        have hp : zKp a b x = true := by
          have h1 : zFT a b x = false := by simpa using (fun h => hm (Or.inl h))
          have h2 : zFT b a x = false := by simpa using (fun h => hm (Or.inr h))
          simp [zKp, h1, h2]
        have hR' : zRM C P S (K' ++ (x :: F)) st := by
          have : (K' ++ [x]) ++ F = K' ++ (x :: F) := by simp
          rw [← this]; exact hR
        obtain ⟨st2, f2, a2, r2⟩ := m_cutL ha hb hn f K' (x :: F) c st (by omega) (by omega) hl' hR'
        have e3 : [x].filter (zKp a b) = [x] := by simp [hp]
        refine ⟨st2, f2, ?_, ?_⟩
        · unfold F_M_cut_L91
          have e4 : c + (K'.length - (K'.filter (zKp a b)).length) = c + ((K' ++ [x]).length - ((K' ++ [x]).filter (zKp a b)).length) := by
            rw [List.filter_append, List.length_append, List.length_append, e3]
            simp only [List.length_cons, List.length_nil]
            omega
          rw [e2, a2, e4]
        · rw [List.filter_append, e3, List.append_assoc]
          exact r2
      have t1 : zFT a b x = true ↔ x.1 = a ∧ x.2.1 = b := by simp [zFT]
      have t2 : zFT b a x = true ↔ x.1 = b ∧ x.2.1 = a := by simp [zFT]
      rw [hlen, e1, F_M_cut_L33, if_neg (nI_pos (by omega)), if_neg g, if_neg g]
      rw [← hlen]
      unfold F_M_cut_L60
      rw [if_neg g, if_neg g]
      simp only [ec, m1, m2, i1, i2, i3, i4]
      by_cases c1 : x.1 = a ∧ x.2.1 = b
      · rw [if_pos c1.1, if_pos c1.2]; exact hA (Or.inl (t1.mpr c1))
      · by_cases c2 : x.1 = b ∧ x.2.1 = a
        · have : (if x.1 = a then (if x.2.1 = b then F_M_cut_L82 n (F_M_cut_L33 n f) (nI a) (nI b) (nI c) (nI K'.length) st else if x.1 = b then if x.2.1 = a then F_M_cut_L82 n (F_M_cut_L33 n f) (nI a) (nI b) (nI c) (nI K'.length) st else F_M_cut_L91 n (F_M_cut_L33 n f) (nI a) (nI b) (nI c) (nI K'.length) st else F_M_cut_L91 n (F_M_cut_L33 n f) (nI a) (nI b) (nI c) (nI K'.length) st) else if x.1 = b then if x.2.1 = a then F_M_cut_L82 n (F_M_cut_L33 n f) (nI a) (nI b) (nI c) (nI K'.length) st else F_M_cut_L91 n (F_M_cut_L33 n f) (nI a) (nI b) (nI c) (nI K'.length) st else F_M_cut_L91 n (F_M_cut_L33 n f) (nI a) (nI b) (nI c) (nI K'.length) st) = F_M_cut_L82 n (F_M_cut_L33 n f) (nI a) (nI b) (nI c) (nI K'.length) st := by
            rw [if_pos c2.1, if_pos c2.2, ite_self, ite_self]
          rw [this]
          exact hA (Or.inr (t2.mpr c2))
        · have hm : ¬ (zFT a b x = true ∨ zFT b a x = true) := by rw [t1, t2]; exact fun h => h.elim c1 c2
          have : ∀ X Y : Option (Int32 × zS), (if x.1 = a then (if x.2.1 = b then X else if x.1 = b then if x.2.1 = a then X else Y else Y) else if x.1 = b then if x.2.1 = a then X else Y else Y) = Y := by
            intro X Y
            by_cases d1 : x.1 = a
            · have d2 : ¬ x.2.1 = b := fun h => c1 ⟨d1, h⟩
              rw [if_pos d1, if_neg d2]
              by_cases d3 : x.1 = b
              · rw [if_pos d3, if_neg (fun h => c2 ⟨d3, h⟩)]
              · rw [if_neg d3]
            · rw [if_neg d1]
              by_cases d3 : x.1 = b
              · rw [if_pos d3, if_neg (fun h => c2 ⟨d3, h⟩)]
              · rw [if_neg d3]
          rw [this]
          exact hB hm
theorem m_cut_no {v1 v2 : Int32} (h : F_M_isLink n v1 v2 st = some (0, st)) : F_M_cut n v1 v2 st = some (-1, st) := by
  unfold F_M_cut
  rw [h, zbs]
  dsimp only
  unfold F_M_cut_s1
  rw [if_pos rfl]
theorem m_cut_s2 (hn : n ≤ 6) (hR : zRM C M.1 M.2.1 M.2.2 st) {a b : Nat} (ha : a < n) (hb : b < n) (hc : 0 < C a b) : F_M_cut n (nI a) (nI b) st = if nI M.2.2.length ≤ 100 then F_M_cut_L33 n zFuel (nI a) (nI b) 0 (nI M.2.2.length - 1) st else some (-2, st) := by
  unfold F_M_cut
  rw [m_isLk hn hR ha hb, if_pos hc, zbs]
  dsimp only
  unfold F_M_cut_s1
  rw [if_neg (by decide), hR.2.2.2.2.1]
theorem m_cut_full (hn : n ≤ 6) (hR : zRM C M.1 M.2.1 M.2.2 st) {a b : Nat} (ha : a < n) (hb : b < n) (hc : 0 < C a b) (hL : 100 < M.2.2.length) (hL2 : M.2.2.length ≤ 1024) : F_M_cut n (nI a) (nI b) st = some (-2, st) := by
  rw [m_cut_s2 hn hR ha hb hc, if_neg (z100_gt hL hL2)]
theorem m_cut (hn : n ≤ 6) (h1n : 1 ≤ n) (hR : zRM C M.1 M.2.1 M.2.2 st) (hl : ∀ x ∈ M.2.2, zLn n x) {a b : Nat} (ha : a < n) (hb : b < n) (hab : a ≠ b) (hc : 0 < C a b) (hL : M.2.2.length ≤ 100)
    (hcr : ∀ r, r < n → ∀ j, j < n → ¬ zC2 C a b 0 r j < 0) (hO1 : zOk2 n (zLo a b) (zHi a b) (zC2 C a b 0 (zLo a b)) M.1) (hO2 : zOk2 n (zHi a b) (zLo a b) (zC2 C a b 0 (zHi a b)) M.1) :
    ∃ st', F_M_cut n (nI a) (nI b) st = some (nI (M.2.2.length - (zL2 M.2.2 a b).length), st') ∧ zRM (zC2 C a b 0) (zCt C n a b M).1 (zCt C n a b M).2.1 (zCt C n a b M).2.2 st' := by
  have hlo := zLo_lt ha hb
  have hhi := zHi_lt ha hb
  have hne : zLo a b ≠ zHi a b := by unfold zLo zHi; by_cases h : b < a <;> by_cases h' : a < b <;> simp [h, h'] <;> omega
  have g1 := zo_in (show 6 * a + b < 36 by omega) (by decide)
  have ec1 : Int32.toNatClampNeg (nI (6 * a + b)) = 6 * a + b := zo_c (by omega)
  have g2 := zo_in (show 6 * b + a < 36 by omega) (by decide)
  have ec2 : Int32.toNatClampNeg (nI (6 * b + a)) = 6 * b + a := zo_c (by omega)
  rw [m_cut_s2 hn hR ha hb hc, if_pos (z100_le hL)]
  obtain ⟨st1, f1, a1, r1⟩ := m_cutL (n := n) (C := C) (P := M.1) (S := M.2.1) (show a < 6 by omega) (show b < 6 by omega) hn zFuel M.2.2 [] 0 st (by unfold zFuel; omega) (by omega) hl (by rw [List.append_nil]; exact hR)
  have a1 : F_M_cut_L33 n zFuel (nI a) (nI b) 0 (nI M.2.2.length - 1) st = _ := a1
  have ef : M.2.2.filter (zKp a b) = zL2 M.2.2 a b := (List.filter_filter).symm
  rw [List.append_nil, ef] at r1
  rw [ef] at a1
  rw [a1, F_M_cut_L33, if_pos (by decide), i6, if_neg g1, ec1]
  unfold F_M_cut_L33_s1
  rw [i6, if_neg g2, ec2]
  have r2 : zRM (zC2 C a b 0) M.1 M.2.1 (zL2 M.2.2 a b) (zs (zs st1 1 0 (6 * a + b) 0) 1 0 (6 * b + a) 0) := rm_pc (rm_pc r1 (by omega) (by omega) 0) (by omega) (by omega) 0
  have sel : ∀ (v3 : Int32) (c : Int32 → Int32 → Int32 → Int32 → zS → Option (Int32 × zS)) (s : zS), F_M_cut_L33_s2 n c (nI a) (nI b) v3 s = F_M_cut_L142 n (nI a) (nI b) v3 (nI (zLo a b)) (nI (zHi a b)) s := by
    intro v3 c s
    unfold F_M_cut_L33_s2 F_M_cut_L132 zLo zHi
    by_cases h : b < a
    · have e1 : nI b ≤ nI a := nI_le (by omega) (by omega)
      rw [if_pos e1, if_pos e1, if_pos h, if_neg (show ¬ a < b by omega)]
    · have e1 : ¬ nI b ≤ nI a := nI_ge (by omega) (by omega)
      rw [if_neg e1, if_neg e1, if_neg h, if_pos (show a < b by omega)]
  have sel2 : ∀ (v3 : Int32) (s : zS), F_M_cut_L142_s1 n (nI a) (nI b) v3 s = F_M_cut_L166 n v3 (nI (zHi a b)) (nI (zLo a b)) s := by
    intro v3 s
    unfold F_M_cut_L142_s1 F_M_cut_L156 zLo zHi
    by_cases h : b < a
    · have e1 : nI b ≤ nI a := nI_le (by omega) (by omega)
      rw [if_pos e1, if_pos e1, if_pos h, if_neg (show ¬ a < b by omega)]
    · have e1 : ¬ nI b ≤ nI a := nI_ge (by omega) (by omega)
      rw [if_neg e1, if_neg e1, if_neg h, if_pos (show a < b by omega)]
  have f1 := List.length_filter_le (fun x => !zFT a b x) M.2.2
  have f2 := List.length_filter_le (fun x => !zFT b a x) (M.2.2.filter (fun x => !zFT a b x))
  have f3 : (zL2 M.2.2 a b).length ≤ M.2.2.length := Nat.le_trans f2 f1
  have f4 : (zL2 M.2.2 a b).length + 126 ≤ 1024 := by omega
  have hd : 3 * (n + 1) * n ≤ 126 := by
    have : 3 * (n + 1) ≤ 21 := by omega
    calc 3 * (n + 1) * n ≤ 21 * 6 := Nat.mul_le_mul this hn
      _ = 126 := rfl
  have l1 := zIt_len (fun i M => zLoS_len (zC2 C a b 0) n (zLo a b) (zHi a b) i M) (M.1, M.2.1, zL2 M.2.2 a b) n
  have l1 : _ ≤ (zL2 M.2.2 a b).length + 3 * (n + 1) * n := l1
  have l2 : (zIt (zLoS (zC2 C a b 0) n (zLo a b) (zHi a b)) n (M.1, M.2.1, zL2 M.2.2 a b)).2.2.length + 126 ≤ 1024 := by omega
  obtain ⟨st6, a6, r6⟩ := m_lose (M := (M.1, M.2.1, zL2 M.2.2 a b)) (r := zLo a b) (o := zHi a b) hn h1n (by omega) hhi (hcr _ hlo) hO1 f4 r2
  obtain ⟨st7, a7, r7⟩ := m_lose (M := zIt (zLoS (zC2 C a b 0) n (zLo a b) (zHi a b)) n (M.1, M.2.1, zL2 M.2.2 a b)) (r := zHi a b) (o := zLo a b) hn h1n (by omega) hlo (hcr _ hhi) (fun j hj hne' => by
      rw [zIt_off (f := zLoS (zC2 C a b 0) n (zLo a b) (zHi a b)) hne (fun i M _ k hk => zLoS_off _ _ _ _ i M k hk) (show j < 6 by omega) n hn]
      exact hO2 j hj hne') l2 r6
  rw [sel]
  unfold F_M_cut_L142
  rw [a6, zbs]
  dsimp only
  rw [sel2]
  unfold F_M_cut_L166
  rw [a7, zbs]
  dsimp only
  unfold F_M_cut_L166_s1
  rw [Nat.zero_add]
  exact ⟨st7, rfl, r7⟩
theorem m_del_no {v1 v2 : Int32} (h : F_M_isLink n v1 v2 st = some (0, st)) : F_M_deliver n v1 v2 st = some (-1, st) := by
  unfold F_M_deliver
  rw [h, zbs]
  dsimp only
  unfold F_M_deliver_s1
  rw [if_pos rfl]
theorem m_del_s2 (hn : n ≤ 6) (hR : zRM C M.1 M.2.1 M.2.2 st) {a b : Nat} (ha : a < n) (hb : b < n) (hc : 0 < C a b) : F_M_deliver n (nI a) (nI b) st = if nI M.2.2.length ≤ 400 then (F_M_placeOf n (nI a) (nI b) 0 st).bind (fun u => F_M_deliver_s2 n u.1 u.2) else some (-2, st) := by
  unfold F_M_deliver
  rw [m_isLk hn hR ha hb, if_pos hc, zbs]
  dsimp only
  unfold F_M_deliver_s1
  rw [if_neg (by decide), hR.2.2.2.2.1]
theorem m_del_full (hn : n ≤ 6) (hR : zRM C M.1 M.2.1 M.2.2 st) {a b : Nat} (ha : a < n) (hb : b < n) (hc : 0 < C a b) (hL : 400 < M.2.2.length) (hL2 : M.2.2.length ≤ 1024) : F_M_deliver n (nI a) (nI b) st = some (-2, st) := by
  rw [m_del_s2 hn hR ha hb hc, if_neg (z400_gt hL hL2)]
theorem m_del_none (hn : n ≤ 6) (hR : zRM C M.1 M.2.1 M.2.2 st) (hl : ∀ x ∈ M.2.2, zLn n x) {a b : Nat} (ha : a < n) (hb : b < n) (hc : 0 < C a b) (hL : M.2.2.length ≤ 400) (hf : zFi a b 0 M.2.2 0 0 = none) : F_M_deliver n (nI a) (nI b) st = some (0, st) := by
  rw [m_del_s2 hn hR ha hb hc, if_pos (z400_le hL), m_place hn hR hl (by omega) (by omega), hf, zbs]
  dsimp only
  unfold F_M_deliver_s2
  rw [if_neg (show ¬ (0 : Int32) ≤ zPl none by decide)]
theorem m_del_some (hn : n ≤ 6) (h1n : 1 ≤ n) (hR : zRM C M.1 M.2.1 M.2.2 st) (hcr : ∀ r, r < n → ∀ j, j < n → ¬ C r j < 0) (hJ : zJx n M.1) (hW : ∀ k, k / 6 < n → k % 6 < n → zQw n (C (k / 6)) (M.1 k)) (hl : ∀ x ∈ M.2.2, zLn n x) {a b : Nat} (ha : a < n) (hb : b < n) (hc : 0 < C a b) (hL : M.2.2.length ≤ 400) {i : Nat} {x : zL} (hf : zFi a b 0 M.2.2 0 0 = some i) (hx : M.2.2[i]? = some x) :
    ∃ st', F_M_deliver n (nI a) (nI b) st = some (nI x.2.2.1 + 1, st') ∧ zRM C (zBr C n x (M.1, M.2.1, M.2.2.eraseIdx i)).1 (zBr C n x (M.1, M.2.1, M.2.2.eraseIdx i)).2.1 (zBr C n x (M.1, M.2.1, M.2.2.eraseIdx i)).2.2 st' := by
  have hi : i < M.2.2.length := (List.getElem?_eq_some_iff.mp hx).1
  rw [m_del_s2 hn hR ha hb hc, if_pos (z400_le hL), m_place hn hR hl (by omega) (by omega), hf, zbs]
  dsimp only
  unfold F_M_deliver_s2
  obtain ⟨st1, a1, r1⟩ := m_arr hn h1n hR hcr hJ hW hl hx (by omega)
  have e : zPl (some i) = nI i := rfl
  rw [e, if_pos (show (0 : Int32) ≤ nI i from nI_le (a := 0) (b := i) (by omega) (by omega)), a1, zbs]
  exact ⟨st1, rfl, r1⟩
theorem m_run1 (hn : n ≤ 6) (h1n : 1 ≤ n) (hcr : ∀ r, r < n → ∀ j, j < n → ¬ C r j < 0) (I : zM → Prop) (hI : ∀ M, I M → zJx n M.1 ∧ (∀ x ∈ M.2.2, zLn n x) ∧ M.2.2.length ≤ 1024 ∧ ∀ k, k / 6 < n → k % 6 < n → zQw n (C (k / 6)) (M.1 k)) (hI2 : ∀ (M : zM) x T, I M → M.2.2 = x :: T → M.2.2.length ≤ 400 → I (zBr C n x (M.1, M.2.1, T))) (N : Nat) (hN : N ≤ 200) : ∀ (m f c : Nat) (M : zM) (st : zS), m + c = N → m < f → I M → zRM C M.1 M.2.1 M.2.2 st →
    ∃ st', F_M_run_L15 n f (nI N) (nI c) st = some (nI (zRn C n m c M).1, st') ∧ zRM C (zRn C n m c M).2.1 (zRn C n m c M).2.2.1 (zRn C n m c M).2.2.2 st'
  | m, 0, c, M, st, _, h, _, _ => by omega
  | 0, f + 1, c, M, st, h1, h2, h3, hR => by
    rw [F_M_run_L15, if_pos (nI_le (by omega) (by omega))]
    exact ⟨st, rfl, hR⟩
  | m + 1, f + 1, c, M, st, h1, h2, h3, hR => by
    obtain ⟨hJ, hl, hL, hW⟩ := hI M h3
    rw [F_M_run_L15, if_neg (nI_ge (show c < N by omega) (by omega)), hR.2.2.2.2.1]
    cases e : M.2.2 with
    | nil =>
      have er : zRn C n (m + 1) c M = (c, M) := by unfold zRn; rw [e]
      rw [er, if_pos (by decide)]
      exact ⟨st, rfl, hR⟩
    | cons x T =>
      have hlen : M.2.2.length = T.length + 1 := by rw [e]; rfl
      have er : zRn C n (m + 1) c M = if 400 < M.2.2.length then (c, M) else zRn C n m (c + 1) (zBr C n x (M.1, M.2.1, T)) := by
        rw [zRn]
        rw [e]
      rw [← e, er, if_neg (show ¬ nI M.2.2.length ≤ 0 from nI_nle (by omega) (by omega))]
      by_cases hc : 400 < M.2.2.length
      · rw [if_pos hc, if_pos (show (400 : Int32) < nI M.2.2.length from (nI_ltI (a := 400) (b := M.2.2.length) (by decide) (by omega)).mpr hc)]
        exact ⟨st, rfl, hR⟩
      · rw [if_neg hc, if_neg (show ¬ (400 : Int32) < nI M.2.2.length from fun h => hc ((nI_ltI (a := 400) (b := M.2.2.length) (by decide) (by omega)).mp h))]
        obtain ⟨st1, a1, r1⟩ := m_arr (i := 0) hn h1n hR hcr hJ hW hl (x := x) (by rw [e]; rfl) (by omega)
        have et : M.2.2.eraseIdx 0 = T := by rw [e]; rfl
        rw [et] at r1
        have a1 : F_M_arrive n 0 st = _ := a1
        rw [a1, zbs]
        dsimp only
        unfold F_M_run_L15_s1
        rw [nI_1]
        exact m_run1 hn h1n hcr I hI hI2 N hN m f (c + 1) _ st1 (by omega) (by omega) (hI2 M x T h3 e (by omega)) r1
end ZM
