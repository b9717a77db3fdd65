/-! Sending: the mail of a state grows by the letters of a list. -/
section ZP
variable {n k : Nat} {C : Nat → Nat → Int32} {P : Nat → zR} {q : zR} {S S' : Nat → Int32} {L L' : List zL} {lk : Int32} {st st' : zS}
theorem rc_ml (hR : zRC n C P S L lk st) (h6 : ∀ a b, st' 6 a b = st 6 a b) (h7 : ∀ a b, st' 7 a b = st 7 a b) (h8 : ∀ a b, st' 8 a b = st 8 a b) (h9 : ∀ a b, st' 9 a b = st 9 a b) (h0 : st' 0 0 0 = st 0 0 0) (hS : ∀ i, i < 3 → st' 5 0 i = S' i)
    (hm : ∃ fi : Nat, fi + L'.length ≤ 1024 ∧ st' 3 0 0 = nI fi ∧ st' 3 0 1 = nI (fi + L'.length) ∧ ∀ (i : Nat) (x : zL), L'[i]? = some x → st' 4 0 (fi + i) = zPack x) : zRC n C P S' L' lk st' := by
  obtain ⟨g1, g2, g3, g4, -⟩ := hR
  refine ⟨fun a b ha hb => (h6 a b).trans (g1 a b ha hb), fun k ha hb => ?_, hS, h0.trans g4, hm⟩
  obtain ⟨e1, e2, e3⟩ := g2 k ha hb
  exact ⟨fun f hf => (h7 k f).trans (e1 f hf), fun j hj => (h8 k j).trans (e2 j hj), fun j hj => (h9 k j).trans (e3 j hj)⟩
theorem f_size (hR : zRC n C P S L lk st) : F_L_size n st = some (nI L.length, st) := by
  obtain ⟨-, -, -, -, fi, h5, h6, h7, -⟩ := hR
  unfold F_L_size
  rw [h6, h7, pk_sub (by omega), show fi + L.length - fi = L.length by omega]
theorem f_send43 (hk : k / 6 < n ∧ k % 6 < n) (hR : zRC n C (va_up P k q) S L lk st) {to kd : Nat} (hkd : kd < 3) (hne : ¬ st 3 0 1 = 1024) : ∃ st', F_L_send_L43 n k (nI to) (nI kd) st = some (0, st') ∧ zRC n C (va_up P k q) (zCnt [(to, kd, q 0)] S) (zPush k [(to, kd, q 0)] L) lk st' := by
  have e0 := rc_f hR hk (show 0 < 6 by decide)
  obtain ⟨-, -, h3, -, fi, h5, h6, h7, h8⟩ := id hR
  have hlt : fi + L.length < 1024 := by
    rcases Nat.lt_or_ge (fi + L.length) 1024 with h | h
    · exact h
    · exact absurd (by rw [h7, show fi + L.length = 1024 by omega]; rfl) hne
  have g := zo_in hlt (by decide)
  have ec : Int32.toNatClampNeg (nI (fi + L.length)) = fi + L.length := zo_c (by omega)
  have g3 := zo_in hkd (by decide)
  have ec3 : Int32.toNatClampNeg (nI kd) = kd := zo_c (by omega)
  refine ⟨_, ?_, rc_ml (st' := zs (zs (zs st 4 0 (fi + L.length) (zPack (k / 6, to, kd, k % 6, q 0))) 3 0 1 (nI (fi + L.length) + 1)) 5 0 kd (st 5 0 kd + 1)) hR (fun a b => by simp [zs]) (fun a b => by simp [zs]) (fun a b => by simp [zs]) (fun a b => by simp [zs]) (by simp [zs]) (fun i hi => ?_) ⟨fi, ?_, ?_, ?_, fun i x hx => ?_⟩⟩
  · unfold F_L_send_L43 F_L_send_L43_s1 F_L_send_L43_s2 F_L_send_L43_s3
    rw [if_neg hne, if_neg (by rw [h7]; exact g), if_neg g3, if_neg g3]
    rw [ec3, h7, ec, e0]
    rw [zs_a (a' := 3) _ _ _ _ _ _ _ (by decide), h7, zs_a (a' := 5) _ _ _ _ _ _ _ (by decide), zs_a (a' := 5) _ _ _ _ _ _ _ (by decide)]
    rfl
  · show _ = va_up S kd (S kd + 1) i
    by_cases e : i = kd
    · subst e
      rw [zs_same, zUp_s, h3 i hi]
    · rw [zs_idx _ _ _ _ _ e, zUp_n _ _ e, zs_a _ _ _ _ _ _ _ (by decide), zs_a _ _ _ _ _ _ _ (by decide)]
      exact h3 i hi
  · rw [zPush_len]; simp only [List.length_singleton]; omega
  · rw [zs_a _ _ _ _ _ _ _ (by decide), zs_idx _ _ _ _ _ (by decide), zs_a _ _ _ _ _ _ _ (by decide)]; exact h6
  · rw [zs_a _ _ _ _ _ _ _ (by decide), zs_same, nI_1, zPush_len]; rfl
  · rw [zs_a _ _ _ _ _ _ _ (by decide), zs_a _ _ _ _ _ _ _ (by decide)]
    have hx' : (L ++ [(k / 6, to, kd, k % 6, q 0)])[i]? = some x := hx
    by_cases hl : i < L.length
    · rw [List.getElem?_append_left hl] at hx'
      rw [zs_idx _ _ _ _ _ (by omega)]
      exact h8 i x hx'
    · rw [List.getElem?_append_right (by omega)] at hx'
      have hz : i - L.length < 1 := (List.getElem?_eq_some_iff.mp hx').1
      rw [show i - L.length = 0 by omega] at hx'
      cases hx'
      rw [show fi + i = fi + L.length by omega, zs_same]
theorem f_send (hk : k / 6 < n ∧ k % 6 < n) (hR : zRC n C (va_up P k q) S L lk st) {to kd : Nat} (hkd : kd < 3) (hL : L.length < 1024) : ∃ st', F_L_send n k (nI to) (nI kd) st = some (0, st') ∧ zRC n C (va_up P k q) (zCnt [(to, kd, q 0)] S) (zPush k [(to, kd, q 0)] L) lk st' := by
  unfold F_L_send
  by_cases hne : st 3 0 1 = 1024
  · rw [if_pos hne, f_size hR]
    obtain ⟨-, -, h3, -, fi, h5, h6, h7, h8⟩ := id hR
    have ef : Int32.toNatClampNeg (nI fi) = fi := zo_c (by omega)
    have el : Int32.toNatClampNeg (nI L.length) = L.length := zo_c (by omega)
    have ez : Int32.toNatClampNeg 0 = 0 := by decide
    have gc : ¬ zCpyOut (nI fi) 0 (nI L.length) 1024 := by
      unfold zCpyOut
      rw [ef, el, ez]
      rintro ((h | h | h) | h | h)
      · exact nI_pos (by omega) h
      · exact absurd h (by decide)
      · exact nI_pos (by omega) h
      · omega
      · omega
    have hR2 : zRC n C (va_up P k q) S L lk (zs (zs (zrow st 4 0 (va_cpy (st 4 0) (st 4 0) fi 0 L.length)) 3 0 1 (nI L.length)) 3 0 0 0) := by
      refine rc_ml hR (fun a b => by simp [zs, zrow]) (fun a b => by simp [zs, zrow]) (fun a b => by simp [zs, zrow]) (fun a b => by simp [zs, zrow]) (by simp [zs, zrow]) (fun i hi => ?_) ⟨0, by omega, ?_, ?_, fun i x hx => ?_⟩
      · rw [zs_a _ _ _ _ _ _ _ (by decide), zs_a _ _ _ _ _ _ _ (by decide), zrow_n _ _ _ _ (by decide)]; exact h3 i hi
      · rw [zs_same]; rfl
      · rw [zs_idx _ _ _ _ _ (by decide), zs_same, Nat.zero_add]
      · have hl : i < L.length := (List.getElem?_eq_some_iff.mp hx).1
        rw [zs_a _ _ _ _ _ _ _ (by decide), zs_a _ _ _ _ _ _ _ (by decide), zrow_s, pk_cpy_in (by omega) (by omega), show fi + (0 + i - 0) = fi + i by omega]
        exact h8 i x hx
    have hs2 : F_L_size n (zrow st 4 0 (va_cpy (st 4 0) (st 4 0) fi 0 L.length)) = some (nI L.length, zrow st 4 0 (va_cpy (st 4 0) (st 4 0) fi 0 L.length)) := by
      unfold F_L_size
      rw [zrow_n _ _ _ _ (by decide), h6, h7, pk_sub (by omega), show fi + L.length - fi = L.length by omega]
    obtain ⟨st', a, b⟩ := f_send43 (to := to) (kd := kd) hk hR2 hkd (by
      rw [zs_idx _ _ _ _ _ (by decide), zs_same]
      intro e
      have := (nI_eq (a := L.length) (b := 1024) (by omega) (by decide)).mp e
      omega)
    refine ⟨st', ?_, b⟩
    show F_L_send_s1 n k (nI to) (nI kd) (st 3 0 0) 0 (nI L.length) st = _
    unfold F_L_send_s1
    rw [h6, if_neg gc]
    unfold F_L_send_s2
    rw [ef, el, ez, hs2]
    exact a
  · rw [if_neg hne]
    exact f_send43 hk hR hkd hne
theorem zPush_snoc (k : Nat) (l : List Nat) (i kd : Nat) (d : Int32) (L : List zL) : zPush k (zTell (l ++ [i]) kd d) L = zPush k [(i, kd, d)] (zPush k (zTell l kd d) L) := by
  rw [← zPush_app]
  congr 1
  simp [zTell]
theorem zCnt_snoc (l : List Nat) (i kd : Nat) (d : Int32) (S : Nat → Int32) : zCnt (zTell (l ++ [i]) kd d) S = zCnt [(i, kd, d)] (zCnt (zTell l kd d) S) := by
  rw [← zCnt_app]
  congr 1
  simp [zTell]
theorem zTell_len (l : List Nat) (kd : Nat) (d : Int32) : (zTell l kd d).length = l.length := by simp [zTell]
theorem f_upd1 (hn : n ≤ 6) (hk : k / 6 < n ∧ k % 6 < n) (x : Int32) (hL : L.length + 6 ≤ 1024) : ∀ (f i : Nat) (st : zS), i ≤ n → n - i < f → zRC n C (va_up P k q) (zCnt (zTell (zNb (C (k / 6)) x i) 0 (q 0)) S) (zPush k (zTell (zNb (C (k / 6)) x i) 0 (q 0)) L) lk st →
    ∃ st', F_D_updateAllBut_L2 n f k x (nI i) st = some (0, st') ∧ zRC n C (va_up P k q) (zCnt (zTell (zNb (C (k / 6)) x n) 0 (q 0)) S) (zPush k (zTell (zNb (C (k / 6)) x n) 0 (q 0)) L) lk st'
  | 0, i, st, h1, h2, _ => by omega
  | f + 1, i, st, h1, h2, hR => by
    rw [F_D_updateAllBut_L2]
    by_cases hi : i = n
    · subst hi
      rw [if_pos (nI_le (Nat.le_refl _) (by omega))]
      exact ⟨st, rfl, hR⟩
    · have hlt : i < n := by omega
      rw [if_neg (nI_ge hlt (by omega))]
      have e0 : zNb (C (k / 6)) x (i + 1) = if 0 < C (k / 6) i ∧ ¬ nI i = x then zNb (C (k / 6)) x i ++ [i] else zNb (C (k / 6)) x i := rfl
      have ih := fun st => f_upd1 hn hk x hL f (i + 1) st hlt (by omega)
      by_cases hx : nI i = x
      · rw [if_pos hx]
        unfold F_D_updateAllBut_L33
        rw [nI_1]
        exact ih st (by rw [e0, if_neg (fun c => c.2 hx)]; exact hR)
      · rw [if_neg hx, f_isNb hn hk hR hlt]
        by_cases hc : 0 < C (k / 6) i
        · rw [if_pos hc]
          show ∃ st', F_D_updateAllBut_L2_s1 n (F_D_updateAllBut_L2 n f) k x (nI i) 1 st = some (0, st') ∧ _
          unfold F_D_updateAllBut_L2_s1
          rw [if_neg (by decide)]
          obtain ⟨st1, a, b⟩ := f_send (to := i) (kd := 0) hk hR (by decide) (by
            have := zNb_len (C (k / 6)) x i
            rw [zPush_len, zTell_len]; omega)
          rw [show (0 : Int32) = nI 0 from rfl, a]
          show ∃ st', F_D_updateAllBut_L2_s2 n (F_D_updateAllBut_L2 n f) k x (nI i) st1 = some (0, st') ∧ _
          unfold F_D_updateAllBut_L2_s2 F_D_updateAllBut_L33
          rw [nI_1]
          exact ih st1 (by rw [e0, if_pos ⟨hc, hx⟩, zPush_snoc, zCnt_snoc]; exact b)
        · rw [if_neg hc]
          show ∃ st', F_D_updateAllBut_L2_s1 n (F_D_updateAllBut_L2 n f) k x (nI i) 0 st = some (0, st') ∧ _
          unfold F_D_updateAllBut_L2_s1 F_D_updateAllBut_L33
          rw [if_pos rfl, nI_1]
          exact ih st (by rw [e0, if_neg (fun c => hc c.1)]; exact hR)
theorem f_upd (hn : n ≤ 6) (hk : k / 6 < n ∧ k % 6 < n) (hR : zRC n C (va_up P k q) S L lk st) (x : Int32) (hL : L.length + 6 ≤ 1024) : ∃ st', F_D_updateAllBut n k x st = some (0, st') ∧ zRC n C (va_up P k q) (zCnt (zTell (zNb (C (k / 6)) x n) 0 (q 0)) S) (zPush k (zTell (zNb (C (k / 6)) x n) 0 (q 0)) L) lk st' := by
  unfold F_D_updateAllBut
  exact f_upd1 hn hk x hL zFuel 0 st (Nat.zero_le _) (by unfold zFuel; omega) (by
    show zRC n C (va_up P k q) (zCnt [] S) (zPush k [] L) lk st
    rw [zPush_nil]; exact hR)
theorem zAwait_lo (cr : Nat → Int32) (q : zR) {f : Nat} (hf : f < 20) : ∀ i, zAwait cr q i f = q f
  | 0 => rfl
  | i + 1 => by
    show (if 0 < cr i then va_up (zAwait cr q i) (20 + i) 1 else zAwait cr q i) f = q f
    by_cases c : 0 < cr i
    · rw [if_pos c, zUp_n _ _ (by omega)]; exact zAwait_lo cr q hf i
    · rw [if_neg c]; exact zAwait_lo cr q hf i
theorem f_ask1 (hn : n ≤ 6) (hk : k / 6 < n ∧ k % 6 < n) (hL : L.length + 6 ≤ 1024) : ∀ (f i : Nat) (st : zS), i ≤ n → n - i < f → zRC n C (va_up P k (zAwait (C (k / 6)) q i)) (zCnt (zTell (zNb (C (k / 6)) (-1) i) 1 (q 0)) S) (zPush k (zTell (zNb (C (k / 6)) (-1) i) 1 (q 0)) L) lk st →
    ∃ st', F_D_askAll_L2 n f k (nI i) st = some (0, st') ∧ zRC n C (va_up P k (zAwait (C (k / 6)) q n)) (zCnt (zTell (zNb (C (k / 6)) (-1) n) 1 (q 0)) S) (zPush k (zTell (zNb (C (k / 6)) (-1) n) 1 (q 0)) L) lk st'
  | 0, i, st, h1, h2, _ => by omega
  | f + 1, i, st, h1, h2, hR => by
    rw [F_D_askAll_L2]
    by_cases hi : i = n
    · subst hi
      rw [if_pos (nI_le (Nat.le_refl _) (by omega))]
      exact ⟨st, rfl, hR⟩
    · have hlt : i < n := by omega
      rw [if_neg (nI_ge hlt (by omega)), f_isNb hn hk hR hlt]
      have e0 : zNb (C (k / 6)) (-1) (i + 1) = if 0 < C (k / 6) i ∧ ¬ nI i = -1 then zNb (C (k / 6)) (-1) i ++ [i] else zNb (C (k / 6)) (-1) i := rfl
      have e1 : zAwait (C (k / 6)) q (i + 1) = if 0 < C (k / 6) i then va_up (zAwait (C (k / 6)) q i) (20 + i) 1 else zAwait (C (k / 6)) q i := rfl
      have ih := fun st => f_ask1 hn hk hL f (i + 1) st hlt (by omega)
      by_cases hc : 0 < C (k / 6) i
      · rw [if_pos hc]
        show ∃ st', F_D_askAll_L2_s1 n (F_D_askAll_L2 n f) k (nI i) 1 st = some (0, st') ∧ _
        unfold F_D_askAll_L2_s1
        rw [if_neg (by decide)]
        obtain ⟨st1, a, b⟩ := f_send (to := i) (kd := 1) hk hR (by decide) (by
          have := zNb_len (C (k / 6)) (-1) i
          rw [zPush_len, zTell_len]; omega)
        rw [zAwait_lo _ _ (by decide)] at b
        rw [show (1 : Int32) = nI 1 from rfl, a]
        show ∃ st', F_D_askAll_L2_s2 n (F_D_askAll_L2 n f) k (nI i) st1 = some (0, st') ∧ _
        unfold F_D_askAll_L2_s2 F_D_askAll_L2_s3 F_D_askAll_L35
        rw [if_neg (zo_in hlt (by omega)), nI_1, zo_c (show i < 2 ^ 31 by omega)]
        exact ih _ (by rw [e0, if_pos ⟨hc, zo_m1 (by omega)⟩, e1, if_pos hc, zPush_snoc, zCnt_snoc]; exact rc_pw hn b hlt 1)
      · rw [if_neg hc]
        show ∃ st', F_D_askAll_L2_s1 n (F_D_askAll_L2 n f) k (nI i) 0 st = some (0, st') ∧ _
        unfold F_D_askAll_L2_s1 F_D_askAll_L35
        rw [if_pos rfl, nI_1]
        exact ih st (by rw [e0, if_neg (fun c => hc c.1), e1, if_neg hc]; exact hR)
theorem f_ask (hn : n ≤ 6) (hk : k / 6 < n ∧ k % 6 < n) (hR : zRC n C (va_up P k q) S L lk st) (hL : L.length + 6 ≤ 1024) : ∃ st', F_D_askAll n k st = some (0, st') ∧ zRC n C (va_up P k (zAwait (C (k / 6)) q n)) (zCnt (zTell (zNb (C (k / 6)) (-1) n) 1 (q 0)) S) (zPush k (zTell (zNb (C (k / 6)) (-1) n) 1 (q 0)) L) lk st' := by
  unfold F_D_askAll
  exact f_ask1 hn hk hL zFuel 0 st (Nat.zero_le _) (by unfold zFuel; omega) (by
    show zRC n C (va_up P k q) (zCnt [] S) (zPush k [] L) lk st
    rw [zPush_nil]; exact hR)
end ZP
