/-! The reference: its mail, and what arrives. -/
def mAt (st : zS) (j : Nat) (x : zL) : Prop := st 10 0 j = nI x.1 ∧ st 11 0 j = nI x.2.1 ∧ st 12 0 j = nI x.2.2.1 ∧ st 13 0 j = nI x.2.2.2.1 ∧ st 14 0 j = x.2.2.2.2
section ZM
variable {n : Nat} {C : Nat → Nat → Int32} {P : Nat → zR} {S : Nat → Int32} {L : List zL} {M : zM} {st : zS}
theorem rm_ml {st' : zS} {L' : List zL} (hR : zRM C P S L st) (h : ∀ a, (1 ≤ a ∧ a < 10) ∨ a = 15 → ∀ j, st' a 0 j = st a 0 j) (hl : L'.length ≤ 1024) (h0 : st' 0 0 0 = nI L'.length) (hm : ∀ (i : Nat) (x : zL), L'[i]? = some x → mAt st' i x) : zRM C P S L' st' := by
  obtain ⟨h1, h2, h3, -, -, -⟩ := hR
  refine ⟨fun a b ha hb => (h 1 (by omega) _).trans (h1 a b ha hb), fun k hk => ?_, fun i hi => (h 15 (by omega) _).trans (h3 i hi), hl, h0, hm⟩
  obtain ⟨g1, g2⟩ := h2 k hk
  exact ⟨fun f hf => (h (2 + f) (by omega) _).trans (g1 f hf), fun j hj => ⟨(h 8 (by omega) _).trans (g2 j hj).1, (h 9 (by omega) _).trans (g2 j hj).2⟩⟩
theorem m_out1 {E : List zL} {N i : Nat} (hN : N < 1024) (hE : ∀ j, E[j]? = if j < i then L[j]? else L[j + 1]?) : ∀ (f p : Nat) (st : zS), p ≤ N → N - p < f → i ≤ p → st 0 0 0 = nI N → (∀ j x, j < p → E[j]? = some x → mAt st j x) → (∀ j x, p < j → L[j]? = some x → mAt st j x) → L.length = N + 1 →
    ∃ st', F_M_takeOut_L12 n f (nI p) st = some (0, st') ∧ (∀ j x, E[j]? = some x → j < N → mAt st' j x) ∧ ∀ a, a < 10 ∨ a = 15 → ∀ k j, st' a k j = st a k j
  | 0, p, st, h1, h2, _, _, _, _, _ => by omega
  | f + 1, p, st, h1, h2, hi, h0, hlo, hhi, hLN => by
    rw [F_M_takeOut_L12, h0]
    by_cases hp : p = N
    · subst hp
      rw [if_pos (nI_le (Nat.le_refl _) (by omega))]
      exact ⟨st, rfl, fun j x hx hj => hlo j x hj hx, fun _ _ _ _ => rfl⟩
    · have hlt : p < N := by omega
      have g1 := zo_in (show p + 1 < 1024 by omega) (by decide)
      have g0 := zo_in (show p < 1024 by omega) (by decide)
      have e1 : Int32.toNatClampNeg (nI (p + 1)) = p + 1 := zo_c (by omega)
      have e0 : Int32.toNatClampNeg (nI p) = p := zo_c (by omega)
      rw [if_neg (nI_ge hlt (by omega)), nI_1, if_neg g1, if_neg g0]
      unfold F_M_takeOut_L12_s1 F_M_takeOut_L12_s2 F_M_takeOut_L12_s3 F_M_takeOut_L12_s4 F_M_takeOut_L12_s5
      simp only [nI_1, if_neg g1, if_neg g0, e1, e0]
      have hlen : p + 1 < L.length := by omega
      obtain ⟨x, hx⟩ : ∃ x, L[p + 1]? = some x := ⟨L[p + 1], List.getElem?_eq_getElem hlen⟩
      obtain ⟨m1, m2, m3, m4, m5⟩ := hhi (p + 1) x (by omega) hx
      have hEp : E[p]? = some x := by rw [hE, if_neg (by omega)]; exact hx
      obtain ⟨st', a, b, d⟩ := m_out1 hN hE f (p + 1) (zs (zs (zs (zs (zs st 10 0 p (st 10 0 (p + 1))) 11 0 p (zs st 10 0 p (st 10 0 (p + 1)) 11 0 (p + 1))) 12 0 p (zs (zs st 10 0 p (st 10 0 (p + 1))) 11 0 p (zs st 10 0 p (st 10 0 (p + 1)) 11 0 (p + 1)) 12 0 (p + 1))) 13 0 p (zs (zs (zs st 10 0 p (st 10 0 (p + 1))) 11 0 p (zs st 10 0 p (st 10 0 (p + 1)) 11 0 (p + 1))) 12 0 p (zs (zs st 10 0 p (st 10 0 (p + 1))) 11 0 p (zs st 10 0 p (st 10 0 (p + 1)) 11 0 (p + 1)) 12 0 (p + 1)) 13 0 (p + 1))) 14 0 p (zs (zs (zs (zs st 10 0 p (st 10 0 (p + 1))) 11 0 p (zs st 10 0 p (st 10 0 (p + 1)) 11 0 (p + 1))) 12 0 p (zs (zs st 10 0 p (st 10 0 (p + 1))) 11 0 p (zs st 10 0 p (st 10 0 (p + 1)) 11 0 (p + 1)) 12 0 (p + 1))) 13 0 p (zs (zs (zs st 10 0 p (st 10 0 (p + 1))) 11 0 p (zs st 10 0 p (st 10 0 (p + 1)) 11 0 (p + 1))) 12 0 p (zs (zs st 10 0 p (st 10 0 (p + 1))) 11 0 p (zs st 10 0 p (st 10 0 (p + 1)) 11 0 (p + 1)) 12 0 (p + 1)) 13 0 (p + 1)) 14 0 (p + 1))) hlt (by omega) (by omega) (by simp [zs]; exact h0) (fun j y hj hy => by
          by_cases e : j = p
          · subst e
            have : x = y := Option.some.inj (hEp.symm.trans hy)
            subst this
            unfold mAt
            simp [zs]
            exact ⟨m1, m2, m3, m4, m5⟩
          · have := hlo j y (by omega) hy
            unfold mAt at this ⊢
            simp [zs, e]
            exact this) (fun j y hj hy => by
          have := hhi j y (by omega) hy
          have e : j ≠ p := by omega
          unfold mAt at this ⊢
          simp [zs, e]
          exact this) hLN
      refine ⟨st', a, b, fun c hc k j => ?_⟩
      rw [d c hc k j, zs_a _ _ _ _ _ _ _ (by omega), zs_a _ _ _ _ _ _ _ (by omega), zs_a _ _ _ _ _ _ _ (by omega), zs_a _ _ _ _ _ _ _ (by omega), zs_a _ _ _ _ _ _ _ (by omega)]
theorem m_out (hR : zRM C P S L st) {i : Nat} (hi : i < L.length) : ∃ st', F_M_takeOut n (nI i) st = some (0, st') ∧ zRM C P S (L.eraseIdx i) st' := by
  obtain ⟨h1, h2, h3, h4, h5, h6⟩ := id hR
  have e : nI L.length - 1 = nI (L.length - 1) := pk_sub (a := L.length) (b := 1) (by omega)
  have hel : (L.eraseIdx i).length = L.length - 1 := List.length_eraseIdx_of_lt hi
  unfold F_M_takeOut F_M_takeOut_s1
  rw [h5, e]
  obtain ⟨st', a, b, d⟩ := m_out1 (n := n) (L := L) (E := L.eraseIdx i) (N := L.length - 1) (i := i) (by omega) (fun j => List.getElem?_eraseIdx) zFuel i (zs st 0 0 0 (nI (L.length - 1))) (by omega) (by unfold zFuel; omega) (Nat.le_refl _) (zs_same _ _ _ _ _) (fun j x hj hx => by
      rw [List.getElem?_eraseIdx, if_pos hj] at hx
      have := h6 j x hx
      unfold mAt
      simp [zs]
      exact this) (fun j x hj hx => by
      have := h6 j x hx
      unfold mAt
      simp [zs]
      exact this) (by omega)
  refine ⟨st', a, rm_ml hR (fun c hc j => ?_) (by omega) ?_ (fun j x hx => b j x hx ?_)⟩
  · rw [d c (by omega), zs_a _ _ _ _ _ _ _ (by omega)]
  · rw [d 0 (by omega), zs_same, hel]
  · have := (List.getElem?_eq_some_iff.mp hx).1; omega
/-- the letters Q stand from place p on, and there the flight ends -/
def mRow (st : zS) (p : Nat) (Q : List zL) : Prop := p + Q.length ≤ 1024 ∧ st 0 0 0 = nI (p + Q.length) ∧ ∀ (i : Nat) (x : zL), Q[i]? = some x → mAt st (p + i) x ∧ x.1 < 2 ^ 31 ∧ x.2.1 < 2 ^ 31
theorem mRow.tail {p : Nat} {x : zL} {Q : List zL} (h : mRow st p (x :: Q)) : mRow st (p + 1) Q := by
  obtain ⟨h1, h2, h3⟩ := h
  simp only [List.length_cons] at h1 h2
  refine ⟨by omega, by rw [h2]; congr 1; omega, fun i y hy => ?_⟩
  have := h3 (i + 1) y (by simpa using hy)
  rw [show p + 1 + i = p + (i + 1) by omega]
  exact this
theorem zRM.row (hR : zRM C P S L st) (hl : ∀ x ∈ L, zLn n x) (hn : n ≤ 6) : mRow st 0 L := by
  obtain ⟨-, -, -, h4, h5, h6⟩ := hR
  refine ⟨by omega, by rw [Nat.zero_add]; exact h5, fun i x hx => ?_⟩
  have := hl x (List.mem_of_getElem? hx)
  obtain ⟨g1, g2, -⟩ := this
  rw [Nat.zero_add]
  exact ⟨h6 i x hx, by omega, by omega⟩
theorem m_place1 {a b : Nat} (ha : a < 2 ^ 31) (hb : b < 2 ^ 31) (k : Int32) : ∀ (Q : List zL) (f p : Nat) (c : Int32), Q.length < f → mRow st p Q → F_M_placeOf_L6 n f (nI a) (nI b) k c (nI p) st = some (zPl (zFi a b k Q c p), st)
  | Q, 0, p, c, h, _ => by omega
  | [], f + 1, p, c, h, hr => by
    rw [F_M_placeOf_L6, hr.2.1, if_pos (nI_le (by simp) (by have := hr.1; simp at this; omega))]
    rfl
  | x :: Q, f + 1, p, c, h, hr => by
    have hl := hr.1
    simp only [List.length_cons] at hl h
    obtain ⟨⟨m1, m2, -⟩, x1, x2⟩ := hr.2.2 0 x (by simp)
    rw [Nat.add_zero] at m1 m2
    have g := zo_in (show p < 1024 by omega) (by decide)
    have ec : Int32.toNatClampNeg (nI p) = p := zo_c (by omega)
    rw [F_M_placeOf_L6, hr.2.1, if_neg (nI_ge (by simp only [List.length_cons]; omega) (by simp only [List.length_cons]; omega)), if_neg g, if_neg g]
    simp only [ec, m1, m2]
    have i1 : nI x.1 = nI a ↔ x.1 = a := nI_eq x1 ha
    have i2 : nI x.2.1 = nI b ↔ x.2.1 = b := nI_eq x2 hb
    have n1 := m_place1 ha hb k Q f (p + 1) c (by omega) hr.tail
    have n2 := m_place1 ha hb k Q f (p + 1) (c + 1) (by omega) hr.tail
    unfold zFi F_M_placeOf_L49
    rw [nI_1]
    by_cases c1 : x.1 = a
    · by_cases c2 : x.2.1 = b
      · have ft : zFT a b x = true := by simp [zFT, c1, c2]
        rw [if_pos (i1.mpr c1), if_pos (i2.mpr c2), if_pos ft]
        by_cases c3 : c = k
        · rw [if_pos c3, if_pos c3]; rfl
        · rw [if_neg c3, if_neg c3]; exact n2
      · have ft : ¬ zFT a b x = true := by simp [zFT, c2]
        rw [if_pos (i1.mpr c1), if_neg (fun e => c2 (i2.mp e)), if_neg ft]; exact n1
    · have ft : ¬ zFT a b x = true := by simp [zFT, c1]
      rw [if_neg (fun e => c1 (i1.mp e)), if_neg ft]; exact n1
theorem m_place (hn : n ≤ 6) (hR : zRM C P S L st) (hl : ∀ x ∈ L, zLn n x) {a b : Nat} (ha : a < 2 ^ 31) (hb : b < 2 ^ 31) (k : Int32) : F_M_placeOf n (nI a) (nI b) k st = some (zPl (zFi a b k L 0 0), st) := by
  unfold F_M_placeOf
  exact m_place1 ha hb k L zFuel 0 0 (by have := hR.2.2.2.1; unfold zFuel; omega) (hR.row hl hn)
theorem m_place_no1 {v w : Int32} (k : Int32) : ∀ (Q : List zL) (f p : Nat) (c : Int32), Q.length < f → mRow st p Q → (∀ x ∈ Q, ¬ (nI x.1 = v ∧ nI x.2.1 = w)) → F_M_placeOf_L6 n f v w k c (nI p) st = some (-1, st)
  | Q, 0, p, c, h, _, _ => by omega
  | [], f + 1, p, c, h, hr, _ => by
    rw [F_M_placeOf_L6, hr.2.1, if_pos (nI_le (by simp) (by have := hr.1; simp at this; omega))]
  | x :: Q, f + 1, p, c, h, hr, hx => by
    have hl := hr.1
    simp only [List.length_cons] at hl h
    obtain ⟨⟨m1, m2, -⟩, x1, x2⟩ := hr.2.2 0 x (by simp)
    rw [Nat.add_zero] at m1 m2
    have g := zo_in (show p < 1024 by omega) (by decide)
    have ec : Int32.toNatClampNeg (nI p) = p := zo_c (by omega)
    rw [F_M_placeOf_L6, hr.2.1, if_neg (nI_ge (by simp only [List.length_cons]; omega) (by simp only [List.length_cons]; omega)), if_neg g, if_neg g]
    simp only [ec, m1, m2]
    have n1 := m_place_no1 k Q f (p + 1) c (by omega) hr.tail (fun y hy => hx y (List.mem_cons_of_mem _ hy))
    have h0 := hx x List.mem_cons_self
    unfold F_M_placeOf_L49
    rw [nI_1]
    by_cases c1 : nI x.1 = v
    · rw [if_pos c1, if_neg (fun e => h0 ⟨c1, e⟩)]; exact n1
    · rw [if_neg c1]; exact n1
theorem m_place_no (hn : n ≤ 6) (hR : zRM C P S L st) (hl : ∀ x ∈ L, zLn n x) {v w : Int32} (k : Int32) (hx : ∀ x ∈ L, ¬ (nI x.1 = v ∧ nI x.2.1 = w)) : F_M_placeOf n v w k st = some (-1, st) := by
  unfold F_M_placeOf
  exact m_place_no1 k L zFuel 0 0 (by have := hR.2.2.2.1; unfold zFuel; omega) (hR.row hl hn) hx
theorem m_arr (hn : n ≤ 6) (h1n : 1 ≤ n) (hR : zRM C M.1 M.2.1 M.2.2 st) (hcr : ∀ r, r < n → ∀ j, j < n → ¬ C r j < 0) (hJ : zJx n M.1) (hW : ∀ k, k / 6 < n → k % 6 < n → zQw n (C (k / 6)) (M.1 k)) (hl : ∀ x ∈ M.2.2, zLn n x) {i : Nat} {x : zL} (hx : M.2.2[i]? = some x) (hL : M.2.2.length + 21 ≤ 1024) :
    ∃ st', F_M_arrive n (nI i) st = some (nI x.2.2.1, st') ∧ zRM C (zBr C n x (M.1, M.2.1, M.2.2.eraseIdx i)).1 (zBr C n x (M.1, M.2.1, M.2.2.eraseIdx i)).2.1 (zBr C n x (M.1, M.2.1, M.2.2.eraseIdx i)).2.2 st' := by
  have hi : i < M.2.2.length := (List.getElem?_eq_some_iff.mp hx).1
  obtain ⟨m1, m2, m3, m4, m5⟩ := hR.2.2.2.2.2 i x hx
  have g := zo_in (show i < 1024 by omega) (by decide)
  have ec : Int32.toNatClampNeg (nI i) = i := zo_c (by omega)
  obtain ⟨st1, a1, r1⟩ := m_out (n := n) hR hi
  obtain ⟨n1, n2, n3, n4, -⟩ := hl x (List.mem_of_getElem? hx)
  have hlen : (M.2.2.eraseIdx i).length ≤ M.2.2.length := List.length_eraseIdx_le _ _
  obtain ⟨fr, to, kd, tg, d⟩ := x
  dsimp only at m1 m2 m3 m4 m5 n1 n2 n3 n4
  have e6 := z6 (r := to) (t := tg) (by omega)
  have hk : (6 * to + tg) / 6 < n ∧ (6 * to + tg) % 6 < n := by omega
  unfold F_M_arrive
  rw [if_neg g, if_neg g, if_neg g, if_neg g, if_neg g]
  simp only [ec, m1, m2, m3, m4, m5]
  rw [a1, zbs]
  dsimp only
  unfold F_M_arrive_s1 F_M_hear
  have r1' : zRM C (va_up M.1 (6 * to + tg) (M.1 (6 * to + tg))) M.2.1 (M.2.2.eraseIdx i) st1 := by rw [zUp_eta]; exact r1
  have k1 : nI kd = 1 ↔ kd = 1 := nI_eq (a := kd) (b := 1) (by omega) (by decide)
  unfold zBr
  dsimp only
  by_cases c : to = tg
  · rw [if_pos (by rw [c]), if_pos c]
    by_cases ck : kd = 1
    · rw [if_pos (k1.mpr ck), if_pos ck]
      obtain ⟨st2, a2, r2⟩ := m_send (n := n) (to := fr) (kd := 2) (show to < 6 by omega) (show tg < 6 by omega) r1' (by decide) (by omega)
      have a2 : F_M_send n (nI to) (nI fr) 2 (nI tg) st1 = _ := a2
      rw [a2, zbs]
      dsimp only
      unfold F_M_hear_s4
      rw [zbs]
      exact ⟨st2, rfl, r2⟩
    · rw [if_neg (fun e => ck (k1.mp e)), if_neg ck, zbs]
      exact ⟨st1, rfl, r1⟩
  · rw [if_neg (fun e => c ((nI_eq (by omega) (by omega)).mp e)), if_neg c]
    have g2 := zo_in (show 36 * fr + (6 * to + tg) < 216 by omega) (by decide)
    have ec2 : Int32.toNatClampNeg (nI (36 * fr + (6 * to + tg))) = 36 * fr + (6 * to + tg) := zo_c (by omega)
    rw [i6, i36', if_neg g2, ec2]
    have r2 := rm_pt (show 6 * to + tg < 36 by omega) r1' (show fr < 6 by omega) d
    have hwk := hW _ hk.1 hk.2
    rw [e6.1] at hwk
    obtain ⟨st3, a3, r3⟩ := m_hear hn h1n (show to < 6 by omega) (show tg < 6 by omega) (hcr to n2) r2 (by rw [zUp_n _ _ (by omega)]; exact hJ _ hk.1 hk.2) (fun j hj h => by rw [zUp_n _ _ (by omega)]; exact hwk j hj h) n1 n3 (by omega)
    rw [a3, zbs]
    exact ⟨st3, rfl, r3⟩
end ZM
