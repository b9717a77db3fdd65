/-! greet, weighAgain, lose: over all targets of a router. zM: routes, counts, letters. -/
abbrev zM : Type := (Nat → zR) × (Nat → Int32) × List zL
def zAp (k : Nat) (x : zR × List zO) (M : zM) : zM := (va_up M.1 k x.1, zCnt x.2 M.2.1, zPush k x.2 M.2.2)
def zLE (cr : Nat → Int32) (q : zR) (n : Nat) (x : Int32) : zR × List zO := ((zEd cr (zLk cr q n x).1 n).1, (zLk cr q n x).2 ++ (zEd cr (zLk cr q n x).1 n).2)
def zGrS (r o i : Nat) (M : zM) : zM := if M.1 (6 * r + i) 0 = 10000 then M else zAp (6 * r + i) (M.1 (6 * r + i), [(o, 0, M.1 (6 * r + i) 0)]) M
def zWgS (C : Nat → Nat → Int32) (n r o i : Nat) (M : zM) : zM := if r = i then M else zAp (6 * r + i) (if M.1 (6 * r + i) 3 = 0 then zLE (C r) (M.1 (6 * r + i)) n (-1) else zEd (C r) (zGrow (C r) (M.1 (6 * r + i)) (nI o)) n) M
def zLoS (C : Nat → Nat → Int32) (n r o i : Nat) (M : zM) : zM := if r = i then M else zAp (6 * r + i) (if zForget (M.1 (6 * r + i)) o 3 = 0 then zLE (C r) (zForget (M.1 (6 * r + i)) o) n (-1) else zEd (C r) (zForget (M.1 (6 * r + i)) o) n) M
def zIt (f : Nat → zM → zM) : Nat → zM → zM
  | 0, M => M
  | i + 1, M => f i (zIt f i M)
def zJx (n : Nat) (P : Nat → zR) : Prop := ∀ k, k / 6 < n → k % 6 < n → zIx n (P k 2)
theorem zGrow_2 (cr : Nat → Int32) (q : zR) (x : Int32) : zGrow cr q x 2 = q 2 := by
  unfold zGrow
  by_cases c : x = q 2 ∧ q 0 < zThrX cr q x
  · rw [if_pos c, zUp_n _ _ (by decide)]
  · rw [if_neg c]
theorem zForget_2 {n : Nat} (q : zR) (j : Nat) (h2 : zIx n (q 2)) : zIx n (zForget q j 2) := by
  unfold zForget
  by_cases c : nI j = q 2
  · rw [if_pos c]
    by_cases c3 : q 3 = 0
    · rw [if_pos c3, zUp_s]; exact Or.inl rfl
    · rw [if_neg c3, zUp_n _ _ (by decide), zUp_n _ _ (by decide), zUp_s]; exact Or.inl rfl
  · rw [if_neg c, zUp_n _ _ (by omega), zUp_n _ _ (by omega)]; exact h2
theorem zE1_ix (cr : Nat → Int32) (q : zR) (n : Nat) (h2 : zIx n (q 2)) : zIx n ((zE1 cr q n).1 2) := by
  unfold zE1
  by_cases hf : zFn cr (if q 5 = 0 then va_up q 1 10000 else q) n
  · rw [if_pos hf]
    show zIx n (zCalm (zTake cr (if q 5 = 0 then va_up q 1 10000 else q) n) 2)
    unfold zCalm
    rw [zUp_n _ _ (by decide), zUp_n _ _ (by decide), zUp_n _ _ (by decide), zTake_2]
    exact zBest_ix _ _ _
  · rw [if_neg hf]
    show zIx n (zAwait cr (zMeas cr (if q 5 = 0 then va_up q 1 10000 else q)) n 2)
    rw [zAwait_lo _ _ (by decide), zMeas_n _ _ (by decide) (by decide)]
    by_cases h5 : q 5 = 0
    · rw [if_pos h5, zUp_n _ _ (by decide)]; exact h2
    · rw [if_neg h5]; exact h2
theorem zEd_ix (cr : Nat → Int32) (q : zR) (n : Nat) (h2 : zIx n (q 2)) : zIx n ((zEd cr q n).1 2) := by
  have h1 := zE1_ix cr q n h2
  unfold zEd
  by_cases c1 : q 3 = 0
  · rw [if_pos c1]; exact h2
  · rw [if_neg c1]
    by_cases c2 : zWt q n = 0
    · rw [if_pos c2]
      by_cases c3 : (zE1 cr q n).1 3 = 0
      · rw [if_pos c3]; exact h1
      · rw [if_neg c3]
        by_cases c4 : zWt (zE1 cr q n).1 n = 0
        · rw [if_pos c4]; exact zE1_ix cr _ n h1
        · rw [if_neg c4]; exact h1
    · rw [if_neg c2]; exact h2
theorem zLE_ix (cr : Nat → Int32) (q : zR) (n : Nat) (x : Int32) (h2 : zIx n (q 2)) : zIx n ((zLE cr q n x).1 2) := zEd_ix cr _ n (zLk_ix cr q n x h2)
theorem zLE_len (cr : Nat → Int32) (q : zR) (n : Nat) (x : Int32) : (zLE cr q n x).2.length ≤ 3 * (n + 1) := by
  have h1 := zLk_len cr q n x
  have h2 := zEd_len cr (zLk cr q n x).1 n
  unfold zLE
  show ((zLk cr q n x).2 ++ (zEd cr (zLk cr q n x).1 n).2).length ≤ _
  rw [List.length_append]; omega
theorem zAp_ix {n k : Nat} {x : zR × List zO} {M : zM} (h : zJx n M.1) (hx : zIx n (x.1 2)) : zJx n (zAp k x M).1 := by
  intro k' h1 h2
  show zIx n (va_up M.1 k x.1 k' 2)
  by_cases e : k' = k
  · subst e; rw [zUp_s]; exact hx
  · rw [zUp_n _ _ e]; exact h k' h1 h2
theorem zAp_len (k : Nat) (x : zR × List zO) (M : zM) : (zAp k x M).2.2.length = M.2.2.length + x.2.length := zPush_len k x.2 M.2.2
theorem z6 {r t : Nat} (h : t < 6) : (6 * r + t) / 6 = r ∧ (6 * r + t) % 6 = t := by omega
section ZP
variable {n : Nat} {C : Nat → Nat → Int32} {M : zM} {P : Nat → zR} {S : Nat → Int32} {L : List zL} {lk : Int32} {st : zS}
theorem f_route (hn : n ≤ 6) {r t : Nat} (hr : r < n) (ht : t < n) : F_D_route n (nI r) (nI t) st = some (6 * r + t, st) := by
  have hb : r * n + t < n * n := by
    have : (r + 1) * n ≤ n * n := Nat.mul_le_mul_right n hr
    rw [Nat.succ_mul] at this
    omega
  have hm : n * n ≤ 36 := Nat.mul_le_mul hn hn
  have e : nI r * nI n + nI t = nI (r * n + t) := by rw [pk_mul, nI_add]
  have ec : Int32.toNatClampNeg (nI (r * n + t)) = r * n + t := zo_c (by omega)
  unfold F_D_route
  rw [e, if_neg (zo_in hb (by omega)), ec]
  have e1 : (r * n + t) / n = r := by
    rw [Nat.mul_comm, Nat.mul_add_div (by omega), Nat.div_eq_of_lt ht, Nat.add_zero]
  have e2 : (r * n + t) % n = t := by
    rw [Nat.mul_comm, Nat.mul_add_mod, Nat.mod_eq_of_lt ht]
  rw [e1, e2]
theorem f_greet1 (hn : n ≤ 6) {r o : Nat} (hr : r < n) : ∀ (f i : Nat) (M : zM) (st : zS), i ≤ n → n - i < f → M.2.2.length + (n - i) ≤ 1024 → zRC n C M.1 M.2.1 M.2.2 lk st →
    ∃ st' M', F_D_greet_L2 n f (nI r) (nI o) (nI i) st = some (0, st') ∧ zRC n C M'.1 M'.2.1 M'.2.2 lk st' ∧ ∀ M0, zIt (zGrS r o) i M0 = M → zIt (zGrS r o) n M0 = M'
  | 0, i, M, st, h1, h2, _, _ => by omega
  | f + 1, i, M, st, h1, h2, hL, hR => by
    rw [F_D_greet_L2]
    by_cases hi : i = n
    · subst hi
      rw [if_pos (nI_le (Nat.le_refl _) (by omega))]
      exact ⟨st, M, rfl, hR, fun _ h => h⟩
    · have hlt : i < n := by omega
      rw [if_neg (nI_ge hlt (by omega)), f_route hn hr hlt]
      show ∃ st' M', F_D_greet_L2_s1 n (F_D_greet_L2 n f) (nI r) (nI o) (nI i) (6 * r + i) st = some (0, st') ∧ _
      have hk : (6 * r + i) / 6 < n ∧ (6 * r + i) % 6 < n := by
        have := z6 (r := r) (t := i) (by omega)
        omega
      have e0 : st 7 (6 * r + i) 0 = M.1 (6 * r + i) 0 := (hR.2.1 _ hk.1 hk.2).1 0 (by decide)
      unfold F_D_greet_L2_s1
      rw [e0]
      by_cases c : M.1 (6 * r + i) 0 = 10000
      · rw [if_pos c]
        unfold F_D_greet_L40
        rw [nI_1]
        obtain ⟨st', M', a, b, d⟩ := f_greet1 hn (o := o) hr f (i + 1) M st hlt (by omega) (by omega) hR
        refine ⟨st', M', a, b, fun M0 h => d M0 ?_⟩
        show zGrS r o i (zIt (zGrS r o) i M0) = M
        rw [h]
        unfold zGrS
        rw [if_pos c]
      · rw [if_neg c]
        have hR' : zRC n C (va_up M.1 (6 * r + i) (M.1 (6 * r + i))) M.2.1 M.2.2 lk st := by rw [zUp_eta]; exact hR
        obtain ⟨st1, a1, r1⟩ := f_send (to := o) (kd := 0) hk hR' (by decide) (by omega)
        rw [show (0 : Int32) = nI 0 from rfl, a1]
        show ∃ st' M', F_D_greet_L2_s2 n (F_D_greet_L2 n f) (nI r) (nI o) (nI i) st1 = some (nI 0, st') ∧ _
        unfold F_D_greet_L2_s2 F_D_greet_L40
        rw [nI_1]
        obtain ⟨st', M', a, b, d⟩ := f_greet1 hn (o := o) hr f (i + 1) (zAp (6 * r + i) (M.1 (6 * r + i), [(o, 0, M.1 (6 * r + i) 0)]) M) st1 hlt (by omega) (by rw [zAp_len]; simp only [List.length_singleton]; omega) r1
        refine ⟨st', M', a, b, fun M0 h => d M0 ?_⟩
        show zGrS r o i (zIt (zGrS r o) i M0) = _
        rw [h]
        unfold zGrS
        rw [if_neg c]
theorem f_greet (hn : n ≤ 6) {r o : Nat} (hr : r < n) (hL : M.2.2.length + 6 ≤ 1024) (hR : zRC n C M.1 M.2.1 M.2.2 lk st) : ∃ st', F_D_greet n (nI r) (nI o) st = some (0, st') ∧ zRC n C (zIt (zGrS r o) n M).1 (zIt (zGrS r o) n M).2.1 (zIt (zGrS r o) n M).2.2 lk st' := by
  unfold F_D_greet
  obtain ⟨st', M', a, b, d⟩ := f_greet1 hn (o := o) hr zFuel 0 M st (Nat.zero_le _) (by unfold zFuel; omega) (by omega) hR
  rw [d M rfl]
  exact ⟨st', a, b⟩
theorem f_LE (hn : n ≤ 6) {k : Nat} {q : zR} (hk : k / 6 < n ∧ k % 6 < n) (hR : zRC n C (va_up P k q) S L lk st) (h2 : zIx n (q 2)) (hL : L.length + 21 ≤ 1024) : ∃ st1 st2, F_D_look n k (-1) st = some (0, st1) ∧ F_D_endIfDone n k st1 = some (0, st2) ∧ zRC n C (va_up P k (zLE (C (k / 6)) q n (-1)).1) (zCnt (zLE (C (k / 6)) q n (-1)).2 S) (zPush k (zLE (C (k / 6)) q n (-1)).2 L) lk st2 := by
  obtain ⟨st1, a1, r1⟩ := f_look hn hk hR (Or.inl rfl) h2 (by omega)
  have hl := zLk_len (C (k / 6)) q n (-1)
  obtain ⟨st2, a2, r2⟩ := f_end hn hk r1 (zLk_ix _ _ _ _ h2) (by rw [zPush_len]; omega)
  exact ⟨st1, st2, a1, a2, by unfold zLE; rw [zCnt_app, zPush_app]; exact r2⟩
theorem f_weigh1 (hn : n ≤ 6) {r o : Nat} (hr : r < n) (ho : o < n) : ∀ (f i : Nat) (M : zM) (st : zS), i ≤ n → n - i < f → M.2.2.length + 21 * (n - i) ≤ 1024 → zJx n M.1 → zRC n C M.1 M.2.1 M.2.2 lk st →
    ∃ st' M', F_D_weighAgain_L2 n f (nI r) (nI o) (nI i) st = some (0, st') ∧ zRC n C M'.1 M'.2.1 M'.2.2 lk st' ∧ ∀ M0, zIt (zWgS C n r o) i M0 = M → zIt (zWgS C n r o) n M0 = M'
  | 0, i, M, st, h1, h2, _, _, _ => by omega
  | f + 1, i, M, st, h1, h2, hL, hJ, hR => by
    rw [F_D_weighAgain_L2]
    by_cases hi : i = n
    · subst hi
      rw [if_pos (nI_le (Nat.le_refl _) (by omega))]
      exact ⟨st, M, rfl, hR, fun _ h => h⟩
    · have hlt : i < n := by omega
      rw [if_neg (nI_ge hlt (by omega)), f_route hn hr hlt]
      show ∃ st' M', F_D_weighAgain_L2_s1 n (F_D_weighAgain_L2 n f) (nI r) (nI o) (nI i) (6 * r + i) st = some (0, st') ∧ _
      have e6 := z6 (r := r) (t := i) (by omega)
      have hk : (6 * r + i) / 6 < n ∧ (6 * r + i) % 6 < n := by omega
      unfold F_D_weighAgain_L2_s1
      rw [f_isOwn (by omega), e6.1, e6.2]
      by_cases c : r = i
      · rw [if_pos c]
        show ∃ st' M', F_D_weighAgain_L2_s2 n (F_D_weighAgain_L2 n f) (6 * r + i) (nI r) (nI o) (nI i) 1 st = some (0, st') ∧ _
        unfold F_D_weighAgain_L2_s2 F_D_weighAgain_L59
        rw [if_neg (by decide), nI_1]
        obtain ⟨st', M', a, b, d⟩ := f_weigh1 hn hr ho f (i + 1) M st hlt (by omega) (by omega) hJ hR
        refine ⟨st', M', a, b, fun M0 h => d M0 ?_⟩
        show zWgS C n r o i (zIt (zWgS C n r o) i M0) = M
        rw [h]
        unfold zWgS
        rw [if_pos c]
      · rw [if_neg c]
        show ∃ st' M', F_D_weighAgain_L2_s2 n (F_D_weighAgain_L2 n f) (6 * r + i) (nI r) (nI o) (nI i) 0 st = some (0, st') ∧ _
        have e3 : st 7 (6 * r + i) 3 = M.1 (6 * r + i) 3 := (hR.2.1 _ hk.1 hk.2).1 3 (by decide)
        have hR' : zRC n C (va_up M.1 (6 * r + i) (M.1 (6 * r + i))) M.2.1 M.2.2 lk st := by rw [zUp_eta]; exact hR
        have h2' := hJ (6 * r + i) hk.1 hk.2
        unfold F_D_weighAgain_L2_s2
        rw [if_pos rfl, e3]
        by_cases c3 : M.1 (6 * r + i) 3 = 0
        · rw [if_pos c3]
          obtain ⟨st1, st2, a1, a2, r2⟩ := f_LE hn hk hR' h2' (by omega)
          rw [e6.1] at r2
          rw [a1]
          show ∃ st' M', F_D_weighAgain_L2_s3 n (F_D_weighAgain_L2 n f) (6 * r + i) (nI r) (nI o) (nI i) st1 = some (0, st') ∧ _
          unfold F_D_weighAgain_L2_s3 F_D_weighAgain_L53
          rw [a2]
          show ∃ st' M', F_D_weighAgain_L53_s1 n (F_D_weighAgain_L2 n f) (nI r) (nI o) (nI i) st2 = some (0, st') ∧ _
          unfold F_D_weighAgain_L53_s1 F_D_weighAgain_L59
          rw [nI_1]
          have hl := zLE_len (C r) (M.1 (6 * r + i)) n (-1)
          obtain ⟨st', M', a, b, d⟩ := f_weigh1 hn hr ho f (i + 1) (zAp (6 * r + i) (zLE (C r) (M.1 (6 * r + i)) n (-1)) M) st2 hlt (by omega) (by rw [zAp_len]; omega) (zAp_ix hJ (zLE_ix _ _ _ _ h2')) r2
          refine ⟨st', M', a, b, fun M0 h => d M0 ?_⟩
          show zWgS C n r o i (zIt (zWgS C n r o) i M0) = _
          rw [h]
          unfold zWgS
          rw [if_neg c, if_pos c3]
        · rw [if_neg c3]
          obtain ⟨st1, a1, r1⟩ := f_grow hn hk hR' (x := nI o) (Or.inr ⟨o, ho, rfl⟩)
          obtain ⟨st2, a2, r2⟩ := f_end hn hk r1 (by rw [zGrow_2]; exact h2') (by omega)
          rw [e6.1] at r2
          rw [a1]
          show ∃ st' M', F_D_weighAgain_L2_s4 n (F_D_weighAgain_L2 n f) (6 * r + i) (nI r) (nI o) (nI i) st1 = some (0, st') ∧ _
          unfold F_D_weighAgain_L2_s4 F_D_weighAgain_L53
          rw [a2]
          show ∃ st' M', F_D_weighAgain_L53_s1 n (F_D_weighAgain_L2 n f) (nI r) (nI o) (nI i) st2 = some (0, st') ∧ _
          unfold F_D_weighAgain_L53_s1 F_D_weighAgain_L59
          rw [nI_1]
          have hl := zEd_len (C r) (zGrow (C r) (M.1 (6 * r + i)) (nI o)) n
          obtain ⟨st', M', a, b, d⟩ := f_weigh1 hn hr ho f (i + 1) (zAp (6 * r + i) (zEd (C r) (zGrow (C r) (M.1 (6 * r + i)) (nI o)) n) M) st2 hlt (by omega) (by rw [zAp_len]; omega) (zAp_ix hJ (zEd_ix _ _ _ (by rw [zGrow_2]; exact h2'))) r2
          refine ⟨st', M', a, b, fun M0 h => d M0 ?_⟩
          show zWgS C n r o i (zIt (zWgS C n r o) i M0) = _
          rw [h]
          unfold zWgS
          rw [if_neg c, if_neg c3]
theorem f_weigh (hn : n ≤ 6) {r o : Nat} (hr : r < n) (ho : o < n) (hL : M.2.2.length + 126 ≤ 1024) (hJ : zJx n M.1) (hR : zRC n C M.1 M.2.1 M.2.2 lk st) : ∃ st', F_D_weighAgain n (nI r) (nI o) st = some (0, st') ∧ zRC n C (zIt (zWgS C n r o) n M).1 (zIt (zWgS C n r o) n M).2.1 (zIt (zWgS C n r o) n M).2.2 lk st' := by
  unfold F_D_weighAgain
  obtain ⟨st', M', a, b, d⟩ := f_weigh1 hn (o := o) hr ho zFuel 0 M st (Nat.zero_le _) (by unfold zFuel; omega) (by omega) hJ hR
  rw [d M rfl]
  exact ⟨st', a, b⟩
theorem f_lose1 (hn : n ≤ 6) {r o : Nat} (hr : r < n) (ho : o < n) : ∀ (f i : Nat) (M : zM) (st : zS), i ≤ n → n - i < f → M.2.2.length + 21 * (n - i) ≤ 1024 → zJx n M.1 → zRC n C M.1 M.2.1 M.2.2 lk st →
    ∃ st' M', F_D_lose_L2 n f (nI r) (nI o) (nI i) st = some (0, st') ∧ zRC n C M'.1 M'.2.1 M'.2.2 lk st' ∧ ∀ M0, zIt (zLoS C n r o) i M0 = M → zIt (zLoS C n r o) n M0 = M'
  | 0, i, M, st, h1, h2, _, _, _ => by omega
  | f + 1, i, M, st, h1, h2, hL, hJ, hR => by
    rw [F_D_lose_L2]
    by_cases hi : i = n
    · subst hi
      rw [if_pos (nI_le (Nat.le_refl _) (by omega))]
      exact ⟨st, M, rfl, hR, fun _ h => h⟩
    · have hlt : i < n := by omega
      rw [if_neg (nI_ge hlt (by omega)), f_route hn hr hlt]
      show ∃ st' M', F_D_lose_L2_s1 n (F_D_lose_L2 n f) (nI r) (nI o) (nI i) (6 * r + i) st = some (0, st') ∧ _
      have e6 := z6 (r := r) (t := i) (by omega)
      have hk : (6 * r + i) / 6 < n ∧ (6 * r + i) % 6 < n := by omega
      unfold F_D_lose_L2_s1
      rw [f_isOwn (by omega), e6.1, e6.2]
      by_cases c : r = i
      · rw [if_pos c]
        show ∃ st' M', F_D_lose_L2_s2 n (F_D_lose_L2 n f) (6 * r + i) (nI r) (nI o) (nI i) 1 st = some (0, st') ∧ _
        unfold F_D_lose_L2_s2 F_D_lose_L56
        rw [if_neg (by decide), nI_1]
        obtain ⟨st', M', a, b, d⟩ := f_lose1 hn hr ho f (i + 1) M st hlt (by omega) (by omega) hJ hR
        refine ⟨st', M', a, b, fun M0 h => d M0 ?_⟩
        show zLoS C n r o i (zIt (zLoS C n r o) i M0) = M
        rw [h]
        unfold zLoS
        rw [if_pos c]
      · rw [if_neg c]
        show ∃ st' M', F_D_lose_L2_s2 n (F_D_lose_L2 n f) (6 * r + i) (nI r) (nI o) (nI i) 0 st = some (0, st') ∧ _
        have hR' : zRC n C (va_up M.1 (6 * r + i) (M.1 (6 * r + i))) M.2.1 M.2.2 lk st := by rw [zUp_eta]; exact hR
        have h2' : zIx n (zForget (M.1 (6 * r + i)) o 2) := zForget_2 _ _ (hJ (6 * r + i) hk.1 hk.2)
        unfold F_D_lose_L2_s2
        rw [if_pos rfl]
        obtain ⟨st0, a0, r0⟩ := f_forget hn hk hR' ho
        have e3 := rc_f r0 hk (show 3 < 6 by decide)
        rw [a0]
        show ∃ st' M', F_D_lose_L2_s3 n (F_D_lose_L2 n f) (6 * r + i) (nI r) (nI o) (nI i) st0 = some (0, st') ∧ _
        unfold F_D_lose_L2_s3
        rw [e3]
        by_cases c3 : zForget (M.1 (6 * r + i)) o 3 = 0
        · rw [if_pos c3]
          obtain ⟨st1, st2, a1, a2, r2⟩ := f_LE hn hk r0 h2' (by omega)
          rw [e6.1] at r2
          rw [a1]
          show ∃ st' M', F_D_lose_L2_s4 n (F_D_lose_L2 n f) (6 * r + i) (nI r) (nI o) (nI i) st1 = some (0, st') ∧ _
          unfold F_D_lose_L2_s4 F_D_lose_L50
          rw [a2]
          show ∃ st' M', F_D_lose_L50_s1 n (F_D_lose_L2 n f) (nI r) (nI o) (nI i) st2 = some (0, st') ∧ _
          unfold F_D_lose_L50_s1 F_D_lose_L56
          rw [nI_1]
          have hl := zLE_len (C r) (zForget (M.1 (6 * r + i)) o) n (-1)
          obtain ⟨st', M', a, b, d⟩ := f_lose1 hn hr ho f (i + 1) (zAp (6 * r + i) (zLE (C r) (zForget (M.1 (6 * r + i)) o) n (-1)) M) st2 hlt (by omega) (by rw [zAp_len]; omega) (zAp_ix hJ (zLE_ix _ _ _ _ h2')) r2
          refine ⟨st', M', a, b, fun M0 h => d M0 ?_⟩
          show zLoS C n r o i (zIt (zLoS C n r o) i M0) = _
          rw [h]
          unfold zLoS
          rw [if_neg c, if_pos c3]
        · rw [if_neg c3]
          obtain ⟨st2, a2, r2⟩ := f_end hn hk r0 h2' (by omega)
          rw [e6.1] at r2
          unfold F_D_lose_L50
          rw [a2]
          show ∃ st' M', F_D_lose_L50_s1 n (F_D_lose_L2 n f) (nI r) (nI o) (nI i) st2 = some (0, st') ∧ _
          unfold F_D_lose_L50_s1 F_D_lose_L56
          rw [nI_1]
          have hl := zEd_len (C r) (zForget (M.1 (6 * r + i)) o) n
          obtain ⟨st', M', a, b, d⟩ := f_lose1 hn hr ho f (i + 1) (zAp (6 * r + i) (zEd (C r) (zForget (M.1 (6 * r + i)) o) n) M) st2 hlt (by omega) (by rw [zAp_len]; omega) (zAp_ix hJ (zEd_ix _ _ _ h2')) r2
          refine ⟨st', M', a, b, fun M0 h => d M0 ?_⟩
          show zLoS C n r o i (zIt (zLoS C n r o) i M0) = _
          rw [h]
          unfold zLoS
          rw [if_neg c, if_neg c3]
theorem f_lose (hn : n ≤ 6) {r o : Nat} (hr : r < n) (ho : o < n) (hL : M.2.2.length + 126 ≤ 1024) (hJ : zJx n M.1) (hR : zRC n C M.1 M.2.1 M.2.2 lk st) : ∃ st', F_D_lose n (nI r) (nI o) st = some (0, st') ∧ zRC n C (zIt (zLoS C n r o) n M).1 (zIt (zLoS C n r o) n M).2.1 (zIt (zLoS C n r o) n M).2.2 lk st' := by
  unfold F_D_lose
  obtain ⟨st', M', a, b, d⟩ := f_lose1 hn (o := o) hr ho zFuel 0 M st (Nat.zero_le _) (by unfold zFuel; omega) (by omega) hJ hR
  rw [d M rfl]
  exact ⟨st', a, b⟩
end ZP
