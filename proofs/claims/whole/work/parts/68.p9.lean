/-! connect, cut, deliver, run of the program, where they are not refused. -/
theorem z100_gt {l : Nat} (h : 100 < l) (h2 : l ≤ 1024) : ¬ nI l ≤ 100 := nI_ge (a := 100) (b := l) h (by omega)
theorem z100_le {l : Nat} (h : l ≤ 100) : nI l ≤ 100 := nI_le (a := l) (b := 100) h (by decide)
theorem z400_gt {l : Nat} (h : 400 < l) (h2 : l ≤ 1024) : ¬ nI l ≤ 400 := nI_ge (a := 400) (b := l) h (by omega)
theorem z400_le {l : Nat} (h : l ≤ 400) : nI l ≤ 400 := nI_le (a := l) (b := 400) h (by decide)
def zLo (a b : Nat) : Nat := if b < a then b else a
def zHi (a b : Nat) : Nat := if a < b then b else a
theorem zLo_I {a b : Nat} (ha : a < 2 ^ 31) (hb : b < 2 ^ 31) : (if nI b < nI a then nI b else nI a) = nI (zLo a b) := by
  unfold zLo
  by_cases h : b < a
  · rw [if_pos ((nI_ltI hb ha).mpr h), if_pos h]
  · rw [if_neg (fun e => h ((nI_ltI hb ha).mp e)), if_neg h]
theorem zHi_I {a b : Nat} (ha : a < 2 ^ 31) (hb : b < 2 ^ 31) : (if nI a < nI b then nI b else nI a) = nI (zHi a b) := by
  unfold zHi
  by_cases h : a < b
  · rw [if_pos ((nI_ltI ha hb).mpr h), if_pos h]
  · rw [if_neg (fun e => h ((nI_ltI ha hb).mp e)), if_neg h]
theorem zLo_lt {n a b : Nat} (ha : a < n) (hb : b < n) : zLo a b < n := by unfold zLo; by_cases h : b < a <;> simp [h] <;> omega
theorem zHi_lt {n a b : Nat} (ha : a < n) (hb : b < n) : zHi a b < n := by unfold zHi; by_cases h : a < b <;> simp [h] <;> omega
theorem zIt_len {f : Nat → zM → zM} {d : Nat} (h : ∀ i M, (f i M).2.2.length ≤ M.2.2.length + d) (M : zM) : ∀ i, (zIt f i M).2.2.length ≤ M.2.2.length + d * i
  | 0 => by show M.2.2.length ≤ _; omega
  | i + 1 => by
    have h1 := zIt_len h M i
    have h2 := h i (zIt f i M)
    show (f i (zIt f i M)).2.2.length ≤ _
    rw [Nat.mul_succ]; omega
theorem zIt_ix {n : Nat} {f : Nat → zM → zM} (h : ∀ i M, zJx n M.1 → i < n → zJx n (f i M).1) {M : zM} (hM : zJx n M.1) : ∀ i, i ≤ n → zJx n (zIt f i M).1
  | 0, _ => hM
  | i + 1, hi => h i _ (zIt_ix h hM i (by omega)) (by omega)
theorem zGrS_len (r o i : Nat) (M : zM) : (zGrS r o i M).2.2.length ≤ M.2.2.length + 1 := by
  unfold zGrS
  by_cases c : M.1 (6 * r + i) 0 = 10000
  · rw [if_pos c]; omega
  · rw [if_neg c, zAp_len]; simp
theorem zWgS_len (C : Nat → Nat → Int32) (n r o i : Nat) (M : zM) : (zWgS C n r o i M).2.2.length ≤ M.2.2.length + 3 * (n + 1) := by
  unfold zWgS
  by_cases c : r = i
  · rw [if_pos c]; omega
  · rw [if_neg c, zAp_len]
    by_cases c3 : M.1 (6 * r + i) 3 = 0
    · rw [if_pos c3]; have := zLE_len (C r) (M.1 (6 * r + i)) n (-1); omega
    · rw [if_neg c3]; have := zEd_len (C r) (zGrow (C r) (M.1 (6 * r + i)) (nI o)) n; omega
theorem zLoS_len (C : Nat → Nat → Int32) (n r o i : Nat) (M : zM) : (zLoS C n r o i M).2.2.length ≤ M.2.2.length + 3 * (n + 1) := by
  unfold zLoS
  by_cases c : r = i
  · rw [if_pos c]; omega
  · rw [if_neg c, zAp_len]
    by_cases c3 : zForget (M.1 (6 * r + i)) o 3 = 0
    · rw [if_pos c3]; have := zLE_len (C r) (zForget (M.1 (6 * r + i)) o) n (-1); omega
    · rw [if_neg c3]; have := zEd_len (C r) (zForget (M.1 (6 * r + i)) o) n; omega
theorem zWgS_ix {n : Nat} (hn : n ≤ 6) (C : Nat → Nat → Int32) {r : Nat} (hr : r < n) (o i : Nat) (M : zM) (h : zJx n M.1) (hi : i < n) : zJx n (zWgS C n r o i M).1 := by
  have e6 := z6 (r := r) (t := i) (by omega)
  have h2 := h (6 * r + i) (by omega) (by omega)
  unfold zWgS
  by_cases c : r = i
  · rw [if_pos c]; exact h
  · rw [if_neg c]
    refine zAp_ix h ?_
    by_cases c3 : M.1 (6 * r + i) 3 = 0
    · rw [if_pos c3]; exact zLE_ix _ _ _ _ h2
    · rw [if_neg c3]; exact zEd_ix _ _ _ (by rw [zGrow_2]; exact h2)
theorem zLoS_ix {n : Nat} (hn : n ≤ 6) (C : Nat → Nat → Int32) {r : Nat} (hr : r < n) (o i : Nat) (M : zM) (h : zJx n M.1) (hi : i < n) : zJx n (zLoS C n r o i M).1 := by
  have e6 := z6 (r := r) (t := i) (by omega)
  have h2 := zForget_2 (M.1 (6 * r + i)) o (h (6 * r + i) (by omega) (by omega))
  unfold zLoS
  by_cases c : r = i
  · rw [if_pos c]; exact h
  · rw [if_neg c]
    refine zAp_ix h ?_
    by_cases c3 : zForget (M.1 (6 * r + i)) o 3 = 0
    · rw [if_pos c3]; exact zLE_ix _ _ _ _ h2
    · rw [if_neg c3]; exact zEd_ix _ _ _ h2
abbrev zC2 (C : Nat → Nat → Int32) (a b : Nat) (c : Int32) : Nat → Nat → Int32 := zCu (zCu C a b c) b a c
def zCo (C : Nat → Nat → Int32) (n a b : Nat) (c : Int32) (M : zM) : zM :=
  if C a b = 0 then zIt (zGrS (zHi a b) (zLo a b)) n (zIt (zGrS (zLo a b) (zHi a b)) n M)
  else zIt (zWgS (zC2 C a b c) n (zHi a b) (zLo a b)) n (zIt (zWgS (zC2 C a b c) n (zLo a b) (zHi a b)) n M)
abbrev zL2 (L : List zL) (a b : Nat) : List zL := (L.filter (fun x => !zFT a b x)).filter (fun x => !zFT b a x)
def zCt (C : Nat → Nat → Int32) (n a b : Nat) (M : zM) : zM :=
  zIt (zLoS (zC2 C a b 0) n (zHi a b) (zLo a b)) n (zIt (zLoS (zC2 C a b 0) n (zLo a b) (zHi a b)) n (M.1, M.2.1, zL2 M.2.2 a b))
section ZP
variable {n : Nat} {C : Nat → Nat → Int32} {M : zM} {lk : Int32} {st : zS}
theorem f_con_no {v1 v2 v3 : Int32} (h : ¬ zIsR n v1 ∨ ¬ zIsR n v2 ∨ v1 = v2 ∨ v3 < 1 ∨ ¬ v3 ≤ 100) : F_D_connect n v1 v2 v3 st = some (-1, st) := by
  unfold F_D_connect
  rw [f_isR, zbs]
  dsimp only
  unfold F_D_connect_s1
  by_cases h1 : zIsR n v1
  · rw [if_pos h1, if_neg (by decide), f_isR, zbs]
    dsimp only
    unfold F_D_connect_s2
    by_cases h2 : zIsR n v2
    · rw [if_pos h2, if_neg (by decide)]
      by_cases h3 : v1 = v2
      · rw [if_pos h3]
      · rw [if_neg h3]
        by_cases h4 : v3 < 1
        · rw [if_pos h4]
        · rw [if_neg h4]
          by_cases h5 : v3 ≤ 100
          · rcases h with h | h | h | h | h <;> contradiction
          · rw [if_neg h5]
    · rw [if_neg h2, if_pos rfl]
  · rw [if_neg h1, if_pos rfl]
theorem f_con_s3 (hn : n ≤ 6) (hR : zRC n C M.1 M.2.1 M.2.2 lk st) {a b : Nat} (ha : a < n) (hb : b < n) (hab : a ≠ b) {c : Int32} (h1 : ¬ c < 1) (h2 : c ≤ 100) : F_D_connect n (nI a) (nI b) c st = F_D_connect_s3 n (nI a) (nI b) c (nI M.2.2.length) st := by
  unfold F_D_connect
  rw [f_isR, if_pos (zIsR_of hn ha), zbs]
  dsimp only
  unfold F_D_connect_s1
  rw [if_neg (by decide), f_isR, if_pos (zIsR_of hn hb), zbs]
  dsimp only
  unfold F_D_connect_s2
  rw [if_neg (by decide), if_neg (fun e => hab ((nI_eq (by omega) (by omega)).mp e)), if_neg h1, if_pos h2, f_size hR, zbs]
theorem f_con_full (hn : n ≤ 6) (hR : zRC n C M.1 M.2.1 M.2.2 lk st) {a b : Nat} (ha : a < n) (hb : b < n) (hab : a ≠ b) {c : Int32} (h1 : ¬ c < 1) (h2 : c ≤ 100) (hL : 100 < M.2.2.length) (hL2 : M.2.2.length ≤ 1024) : F_D_connect n (nI a) (nI b) c st = some (-2, st) := by
  rw [f_con_s3 hn hR ha hb hab h1 h2]
  unfold F_D_connect_s3
  rw [if_neg (z100_gt hL hL2)]
theorem f_con (hn : n ≤ 6) (hR : zRC n C M.1 M.2.1 M.2.2 lk st) (hJ : zJx n M.1) {a b : Nat} (ha : a < n) (hb : b < n) (hab : a ≠ b) {c : Int32} (h1 : ¬ c < 1) (h2 : c ≤ 100) (hL : M.2.2.length ≤ 100) :
    ∃ st', F_D_connect n (nI a) (nI b) c st = some (if C a b = 0 then lk + 1 else lk, st') ∧ zRC n (zC2 C a b c) (zCo C n a b c M).1 (zCo C n a b c M).2.1 (zCo C n a b c M).2.2 (if C a b = 0 then lk + 1 else lk) st' := by
  have ga := zo_in ha (show n < 2 ^ 31 by omega)
  have gb := zo_in hb (show n < 2 ^ 31 by omega)
  have ea : Int32.toNatClampNeg (nI a) = a := zo_c (by omega)
  have eb : Int32.toNatClampNeg (nI b) = b := zo_c (by omega)
  have hlo := zLo_lt ha hb
  have hhi := zHi_lt ha hb
  have elo := zLo_I (show a < 2 ^ 31 by omega) (show b < 2 ^ 31 by omega)
  have ehi := zHi_I (show a < 2 ^ 31 by omega) (show b < 2 ^ 31 by omega)
  rw [f_con_s3 hn hR ha hb hab h1 h2]
  unfold F_D_connect_s3
  rw [if_pos (z100_le hL), if_neg ga, if_neg gb]
  simp only [ea, eb, rc_c hR ha hb]
  have r2 := rc_pc (rc_pc hR a b c) b a c
  have body : ∀ t0 : Int32, F_D_connect_L65 n (nI a) (nI b) c t0 st = F_D_connect_L65_s2 n t0 (nI a) (nI b) (zs (zs st 6 a b c) 6 b a c) := by
    intro t0
    unfold F_D_connect_L65 F_D_connect_L65_s1
    rw [if_neg ga, if_neg gb, if_neg gb, if_neg ga, ea, eb]
  unfold zCo
  by_cases hc : C a b = 0
  · simp only [if_pos hc]
    rw [body]
    unfold F_D_connect_L65_s2
    rw [if_neg (by decide), elo, ehi, r2.2.2.2.1]
    have r3 := rc_pl r2 (lk + 1)
    have l1 := zIt_len (fun i M => zGrS_len (zLo a b) (zHi a b) i M) M n
    obtain ⟨st4, a4, r4⟩ := f_greet (r := zLo a b) (o := zHi a b) hn hlo (by omega) r3
    obtain ⟨st5, a5, r5⟩ := f_greet (r := zHi a b) (o := zLo a b) hn hhi (by omega) r4
    unfold F_D_connect_L65_s5
    rw [a4, zbs]
    dsimp only
    unfold F_D_connect_L65_s6
    rw [a5, zbs]
    dsimp only
    unfold F_D_connect_L65_s7
    exact ⟨st5, by rw [r5.2.2.2.1], r5⟩
  · simp only [if_neg hc]
    rw [body]
    unfold F_D_connect_L65_s2
    rw [if_pos rfl, elo, ehi]
    have l1 := zIt_len (fun i M => zWgS_len (zC2 C a b c) n (zLo a b) (zHi a b) i M) M n
    have hd : 3 * (n + 1) * n ≤ 126 := by
      have : 3 * (n + 1) ≤ 21 := by omega
      calc 3 * (n + 1) * n ≤ 21 * 6 := Nat.mul_le_mul this hn
        _ = 126 := rfl
    obtain ⟨st4, a4, r4⟩ := f_weigh (r := zLo a b) (o := zHi a b) hn hlo hhi (by omega) hJ r2
    have l2 : (zIt (zWgS (zC2 C a b c) n (zLo a b) (zHi a b)) n M).2.2.length + 126 ≤ 1024 := by omega
    obtain ⟨st5, a5, r5⟩ := f_weigh (M := zIt (zWgS (zC2 C a b c) n (zLo a b) (zHi a b)) n M) (r := zHi a b) (o := zLo a b) hn hhi hlo l2 (zIt_ix (fun i M h hi => zWgS_ix hn _ hlo _ i M h hi) hJ n (Nat.le_refl _)) r4
    rw [a4, zbs]
    dsimp only
    unfold F_D_connect_L65_s3
    rw [a5, zbs]
    dsimp only
    unfold F_D_connect_L65_s4
    exact ⟨st5, by rw [r5.2.2.2.1], r5⟩
theorem f_cut_no {v1 v2 : Int32} (h : F_D_isLink n v1 v2 st = some (0, st)) : F_D_cut n v1 v2 st = some (-1, st) := by
  unfold F_D_cut
  rw [h, zbs]
  dsimp only
  unfold F_D_cut_s1
  rw [if_pos rfl]
theorem f_cut_s2 (hn : n ≤ 6) (hR : zRC n C M.1 M.2.1 M.2.2 lk st) {a b : Nat} (ha : a < n) (hb : b < n) (hc : 0 < C a b) : F_D_cut n (nI a) (nI b) st = F_D_cut_s2 n (nI a) (nI b) (nI M.2.2.length) st := by
  unfold F_D_cut
  rw [f_isLk hn hR ha hb, if_pos hc, zbs]
  dsimp only
  unfold F_D_cut_s1
  rw [if_neg (by decide), f_size hR, zbs]
theorem f_cut_full (hn : n ≤ 6) (hR : zRC n C M.1 M.2.1 M.2.2 lk st) {a b : Nat} (ha : a < n) (hb : b < n) (hc : 0 < C a b) (hL : 100 < M.2.2.length) (hL2 : M.2.2.length ≤ 1024) : F_D_cut n (nI a) (nI b) st = some (-2, st) := by
  rw [f_cut_s2 hn hR ha hb hc]
  unfold F_D_cut_s2
  rw [if_neg (z100_gt hL hL2)]
theorem f_cut (hn : n ≤ 6) (hR : zRC n C M.1 M.2.1 M.2.2 lk st) (hJ : zJx n M.1) (hl : ∀ x ∈ M.2.2, zLok x) {a b : Nat} (ha : a < n) (hb : b < n) (hc : 0 < C a b) (hL : M.2.2.length ≤ 100) :
    ∃ st', F_D_cut n (nI a) (nI b) st = some (nI (M.2.2.length - (zL2 M.2.2 a b).length), st') ∧ zRC n (zC2 C a b 0) (zCt C n a b M).1 (zCt C n a b M).2.1 (zCt C n a b M).2.2 (lk - 1) st' := by
  have ga := zo_in ha (show n < 2 ^ 31 by omega)
  have gb := zo_in hb (show n < 2 ^ 31 by omega)
  have ea : Int32.toNatClampNeg (nI a) = a := zo_c (by omega)
  have eb : Int32.toNatClampNeg (nI b) = b := zo_c (by omega)
  have hlo := zLo_lt ha hb
  have hhi := zHi_lt ha hb
  have elo := zLo_I (show a < 2 ^ 31 by omega) (show b < 2 ^ 31 by omega)
  have ehi := zHi_I (show a < 2 ^ 31 by omega) (show b < 2 ^ 31 by omega)
  have f1 := List.length_filter_le (fun x => !zFT a b x) M.2.2
  have f2 := List.length_filter_le (fun x => !zFT b a x) (M.2.2.filter (fun x => !zFT a b x))
  have f3 : (zL2 M.2.2 a b).length ≤ M.2.2.length := Nat.le_trans f2 f1
  have f4 : (zL2 M.2.2 a b).length + 126 ≤ 1024 := by omega
  rw [f_cut_s2 hn hR ha hb hc]
  unfold F_D_cut_s2
  rw [if_pos (z100_le hL)]
  obtain ⟨st1, a1, r1⟩ := f_drop hR hl (show a < 2 ^ 31 by omega) (show b < 2 ^ 31 by omega)
  obtain ⟨st2, a2, r2⟩ := f_drop r1 (fun x hx => hl x (List.mem_filter.mp hx).1) (show b < 2 ^ 31 by omega) (show a < 2 ^ 31 by omega)
  rw [a1, zbs]
  dsimp only
  unfold F_D_cut_s3
  rw [a2, zbs]
  dsimp only
  unfold F_D_cut_s4
  rw [if_neg ga, if_neg gb, ea, eb]
  unfold F_D_cut_s5
  rw [if_neg gb, if_neg ga, ea, eb]
  unfold F_D_cut_s6
  have r4 := rc_pc (rc_pc r2 a b 0) b a 0
  rw [r4.2.2.2.1]
  have r5 := rc_pl r4 (lk - 1)
  unfold F_D_cut_s7
  rw [elo, ehi]
  have hd : 3 * (n + 1) * n ≤ 126 := by
    have : 3 * (n + 1) ≤ 21 := by omega
    calc 3 * (n + 1) * n ≤ 21 * 6 := Nat.mul_le_mul this hn
      _ = 126 := rfl
  have l1 := zIt_len (fun i M => zLoS_len (zC2 C a b 0) n (zLo a b) (zHi a b) i M) (M.1, M.2.1, zL2 M.2.2 a b) n
  have l1 : _ ≤ (zL2 M.2.2 a b).length + 3 * (n + 1) * n := l1
  obtain ⟨st6, a6, r6⟩ := f_lose (M := (M.1, M.2.1, zL2 M.2.2 a b)) (r := zLo a b) (o := zHi a b) hn hlo hhi f4 hJ r5
  have l2 : (zIt (zLoS (zC2 C a b 0) n (zLo a b) (zHi a b)) n (M.1, M.2.1, zL2 M.2.2 a b)).2.2.length + 126 ≤ 1024 := by omega
  obtain ⟨st7, a7, r7⟩ := f_lose (M := zIt (zLoS (zC2 C a b 0) n (zLo a b) (zHi a b)) n (M.1, M.2.1, zL2 M.2.2 a b)) (r := zHi a b) (o := zLo a b) hn hhi hlo l2 (zIt_ix (f := zLoS (zC2 C a b 0) n (zLo a b) (zHi a b)) (M := (M.1, M.2.1, zL2 M.2.2 a b)) (fun i M h hi => zLoS_ix hn _ hlo _ i M h hi) hJ n (Nat.le_refl _)) r6
  rw [a6, zbs]
  dsimp only
  unfold F_D_cut_s8
  rw [a7, zbs]
  dsimp only
  unfold F_D_cut_s9
  refine ⟨st7, ?_, r7⟩
  have f5 : (zL2 M.2.2 a b).length = ((M.2.2.filter (fun x => !zFT a b x)).filter (fun x => !zFT b a x)).length := rfl
  rw [nI_add]
  congr 2
  congr 1
  omega
/-- deliver -/
theorem f_del_no {v1 v2 : Int32} (h : F_D_isLink n v1 v2 st = some (0, st)) : F_D_deliver n v1 v2 st = some (-1, st) := by
  unfold F_D_deliver
  rw [h, zbs]
  dsimp only
  unfold F_D_deliver_s1
  rw [if_pos rfl]
theorem f_del_s2 (hn : n ≤ 6) (hR : zRC n C M.1 M.2.1 M.2.2 lk st) {a b : Nat} (ha : a < n) (hb : b < n) (hc : 0 < C a b) : F_D_deliver n (nI a) (nI b) st = F_D_deliver_s2 n (nI a) (nI b) (nI M.2.2.length) st := by
  unfold F_D_deliver
  rw [f_isLk hn hR ha hb, if_pos hc, zbs]
  dsimp only
  unfold F_D_deliver_s1
  rw [if_neg (by decide), f_size hR, zbs]
theorem f_del_full (hn : n ≤ 6) (hR : zRC n C M.1 M.2.1 M.2.2 lk st) {a b : Nat} (ha : a < n) (hb : b < n) (hc : 0 < C a b) (hL : 400 < M.2.2.length) (hL2 : M.2.2.length ≤ 1024) : F_D_deliver n (nI a) (nI b) st = some (-2, st) := by
  rw [f_del_s2 hn hR ha hb hc]
  unfold F_D_deliver_s2
  rw [if_neg (z400_gt hL hL2)]
theorem f_del_none (hn : n ≤ 6) (hR : zRC n C M.1 M.2.1 M.2.2 lk st) (hl : ∀ x ∈ M.2.2, zLn n x) {a b : Nat} (ha : a < n) (hb : b < n) (hc : 0 < C a b) (hL : M.2.2.length ≤ 400) (hf : zFi a b 0 M.2.2 0 0 = none) : F_D_deliver n (nI a) (nI b) st = some (0, st) := by
  rw [f_del_s2 hn hR ha hb hc]
  unfold F_D_deliver_s2
  obtain ⟨fi, h1, h2, h3⟩ := f_find hR (fun x hx => (hl x hx).ok hn) (show a < 2 ^ 31 by omega) (show b < 2 ^ 31 by omega) 0
  rw [if_pos (z400_le hL), h3, hf, zbs]
  dsimp only
  unfold F_D_deliver_s3
  rw [if_pos (show zPl (Option.map (fun x => x + fi) none) = -1 from rfl)]
theorem f_del_some (hn : n ≤ 6) (hR : zRC n C M.1 M.2.1 M.2.2 lk st) (hJ : zJx n M.1) (hl : ∀ x ∈ M.2.2, zLn n x) {a b : Nat} (ha : a < n) (hb : b < n) (hc : 0 < C a b) (hL : M.2.2.length ≤ 400) {i : Nat} {x : zL} (hf : zFi a b 0 M.2.2 0 0 = some i) (hx : M.2.2[i]? = some x) :
    ∃ st', F_D_deliver n (nI a) (nI b) st = some (nI x.2.2.1 + 1, st') ∧ zRC n C (zBr C n x (M.1, M.2.1, M.2.2.eraseIdx i)).1 (zBr C n x (M.1, M.2.1, M.2.2.eraseIdx i)).2.1 (zBr C n x (M.1, M.2.1, M.2.2.eraseIdx i)).2.2 lk st' := by
  rw [f_del_s2 hn hR ha hb hc]
  unfold F_D_deliver_s2
  obtain ⟨fi, h1, h2, h3⟩ := f_find hR (fun x hx => (hl x hx).ok hn) (show a < 2 ^ 31 by omega) (show b < 2 ^ 31 by omega) 0
  have hi : i < M.2.2.length := (List.getElem?_eq_some_iff.mp hx).1
  have hfi := h2.1
  rw [if_pos (z400_le hL), h3, hf, zbs]
  dsimp only [Option.map_some]
  unfold F_D_deliver_s3
  have e : zPl (some (i + fi)) = nI (fi + i) := by
    show nI (i + fi) = _
    rw [Nat.add_comm]
  rw [e, if_neg (zo_m1 (by omega))]
  obtain ⟨st1, a1, r1⟩ := f_bring hn hR hJ hl h1 (by omega) hx (by omega)
  rw [a1, zbs]
  exact ⟨st1, rfl, r1⟩
def zRn (C : Nat → Nat → Int32) (n : Nat) : Nat → Nat → zM → Nat × zM
  | 0, c, M => (c, M)
  | m + 1, c, M => match M.2.2 with
    | [] => (c, M)
    | x :: T => if 400 < M.2.2.length then (c, M) else zRn C n m (c + 1) (zBr C n x (M.1, M.2.1, T))
theorem f_run1 (hn : n ≤ 6) (I : zM → Prop) (hI : ∀ M, I M → zJx n M.1 ∧ (∀ x ∈ M.2.2, zLn n x) ∧ M.2.2.length ≤ 1024) (hI2 : ∀ (M : zM) x T, I M → M.2.2 = x :: T → M.2.2.length ≤ 400 → I (zBr C n x (M.1, M.2.1, T))) (N : Nat) (hN : N ≤ 200) : ∀ (m f c : Nat) (M : zM) (st : zS), m + c = N → m < f → I M → zRC n C M.1 M.2.1 M.2.2 lk st →
    ∃ st', F_D_run_L15 n f (nI N) (nI c) st = some (nI (zRn C n m c M).1, st') ∧ zRC n C (zRn C n m c M).2.1 (zRn C n m c M).2.2.1 (zRn C n m c M).2.2.2 lk st' ∧ I (zRn C n m c M).2
  | m, 0, c, M, st, _, h, _, _ => by omega
  | 0, f + 1, c, M, st, h1, h2, h3, hR => by
    rw [F_D_run_L15, if_pos (nI_le (by omega) (by omega))]
    exact ⟨st, rfl, hR, h3⟩
  | m + 1, f + 1, c, M, st, h1, h2, h3, hR => by
    obtain ⟨hJ, hl, hL⟩ := hI M h3
    rw [F_D_run_L15, if_neg (nI_ge (show c < N by omega) (by omega)), f_size hR, zbs]
    dsimp only
    unfold F_D_run_L15_s1
    cases e : M.2.2 with
    | nil =>
      have er : zRn C n (m + 1) c M = (c, M) := by unfold zRn; rw [e]
      rw [er, if_pos (by decide)]
      exact ⟨st, rfl, hR, h3⟩
    | cons x T =>
      have hlen : M.2.2.length = T.length + 1 := by rw [e]; rfl
      have er : zRn C n (m + 1) c M = if 400 < M.2.2.length then (c, M) else zRn C n m (c + 1) (zBr C n x (M.1, M.2.1, T)) := by
        rw [zRn]
        rw [e]
      rw [← e, er, if_neg (show ¬ nI M.2.2.length ≤ 0 from nI_nle (by omega) (by omega)), f_size hR, zbs]
      dsimp only
      unfold F_D_run_L15_s2
      by_cases hc : 400 < M.2.2.length
      · rw [if_pos hc, if_pos (show (400 : Int32) < nI M.2.2.length from (nI_ltI (a := 400) (b := M.2.2.length) (by decide) (by omega)).mpr hc)]
        exact ⟨st, rfl, hR, h3⟩
      · rw [if_neg hc, if_neg (show ¬ (400 : Int32) < nI M.2.2.length from fun h => hc ((nI_ltI (a := 400) (b := M.2.2.length) (by decide) (by omega)).mp h))]
        obtain ⟨-, -, -, -, fi, g5, g6, -⟩ := id hR
        obtain ⟨st1, a1, r1⟩ := f_bring (i := 0) hn hR hJ hl g6 (by omega) (x := x) (by rw [e]; rfl) (by omega)
        rw [Nat.add_zero] at a1
        have et : M.2.2.eraseIdx 0 = T := by rw [e]; rfl
        rw [et] at r1
        rw [g6, a1, zbs]
        dsimp only
        unfold F_D_run_L15_s3
        rw [nI_1]
        exact f_run1 hn I hI hI2 N hN m f (c + 1) _ st1 (by omega) (by omega) (hI2 M x T h3 e (by omega)) r1
end ZP
