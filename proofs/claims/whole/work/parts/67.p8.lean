/-! bring, connect, cut, deliver, run of the program. -/
theorem zbs {α β : Type} (u : α) (f : α → Option β) : (some u).bind f = f u := (Option.bind_some u f).trans (Eq.refl _)
def zLn (n : Nat) (x : zL) : Prop := x.1 < n ∧ x.2.1 < n ∧ x.2.2.1 < 3 ∧ x.2.2.2.1 < n ∧ ∃ d : Nat, d ≤ 10000 ∧ x.2.2.2.2 = nI d
theorem zLn.ok {n : Nat} (hn : n ≤ 6) {x : zL} (h : zLn n x) : zLok x := by
  obtain ⟨h1, h2, h3, h4, d, h5, h6⟩ := h
  exact ⟨by omega, by omega, by omega, by omega, d, by omega, h6⟩
def zBr (C : Nat → Nat → Int32) (n : Nat) (x : zL) (M : zM) : zM :=
  if x.2.1 = x.2.2.2.1 then (if x.2.2.1 = 1 then zAp (6 * x.2.1 + x.2.2.2.1) (M.1 (6 * x.2.1 + x.2.2.2.1), [(x.1, 2, M.1 (6 * x.2.1 + x.2.2.2.1) 0)]) M else M)
  else zAp (6 * x.2.1 + x.2.2.2.1) (zHr (C x.2.1) (va_up (M.1 (6 * x.2.1 + x.2.2.2.1)) (10 + x.1) x.2.2.2.2) n x.1 x.2.2.1) M
abbrev zIsR (n : Nat) (v : Int32) : Prop := ¬ v < 0 ∧ ¬ nI n ≤ v
def zCu (C : Nat → Nat → Int32) (a b : Nat) (c : Int32) : Nat → Nat → Int32 := fun i j => if i = a ∧ j = b then c else C i j
theorem zIsR_nI {n : Nat} (hn : n ≤ 6) {v : Int32} (h : zIsR n v) : ∃ j : Nat, j < n ∧ v = nI j := by
  rcases pk_ix v (n := n) (by omega) with h1 | h1 | h1
  · exact absurd h1 h.1
  · exact absurd h1 h.2
  · exact h1
theorem zIsR_of {n j : Nat} (hn : n ≤ 6) (hj : j < n) : zIsR n (nI j) := ⟨nI_pos (by omega), nI_ge hj (by omega)⟩
section ZP
variable {n : Nat} {C : Nat → Nat → Int32} {M : zM} {P : Nat → zR} {S : Nat → Int32} {L : List zL} {lk : Int32} {st : zS}
theorem rc_pc (hR : zRC n C P S L lk st) (a b : Nat) (c : Int32) : zRC n (zCu C a b c) P S L lk (zs st 6 a b c) := by
  obtain ⟨h1, h2, h3, h4, fi, h5, h6, h7, h8⟩ := hR
  refine ⟨fun i j hi hj => ?_, fun k' ha hb => ?_, fun i hi => ?_, ?_, fi, h5, ?_, ?_, fun i x hx => ?_⟩
  · unfold zs zCu
    by_cases e : i = a ∧ j = b
    · rw [if_pos ⟨rfl, e⟩, if_pos e]
    · rw [if_neg (fun c => e c.2), if_neg e]; exact h1 i j hi hj
  · obtain ⟨g1, g2, g3⟩ := h2 k' ha hb
    exact ⟨fun f hf => by rw [zs_a _ _ _ _ _ _ _ (by decide)]; exact g1 f hf, fun f hf => by rw [zs_a _ _ _ _ _ _ _ (by decide)]; exact g2 f hf, fun f hf => by rw [zs_a _ _ _ _ _ _ _ (by decide)]; exact g3 f hf⟩
  · rw [zs_a _ _ _ _ _ _ _ (by decide)]; exact h3 i hi
  · rw [zs_a _ _ _ _ _ _ _ (by decide)]; exact h4
  · rw [zs_a _ _ _ _ _ _ _ (by decide)]; exact h6
  · rw [zs_a _ _ _ _ _ _ _ (by decide)]; exact h7
  · rw [zs_a _ _ _ _ _ _ _ (by decide)]; exact h8 i x hx
theorem rc_pl (hR : zRC n C P S L lk st) (v : Int32) : zRC n C P S L v (zs st 0 0 0 v) := by
  obtain ⟨h1, h2, h3, h4, fi, h5, h6, h7, h8⟩ := hR
  refine ⟨fun i j hi hj => ?_, fun k' ha hb => ?_, fun i hi => ?_, zs_same _ _ _ _ _, fi, h5, ?_, ?_, fun i x hx => ?_⟩
  · rw [zs_a _ _ _ _ _ _ _ (by decide)]; exact h1 i j hi hj
  · obtain ⟨g1, g2, g3⟩ := h2 k' ha hb
    exact ⟨fun f hf => by rw [zs_a _ _ _ _ _ _ _ (by decide)]; exact g1 f hf, fun f hf => by rw [zs_a _ _ _ _ _ _ _ (by decide)]; exact g2 f hf, fun f hf => by rw [zs_a _ _ _ _ _ _ _ (by decide)]; exact g3 f hf⟩
  · rw [zs_a _ _ _ _ _ _ _ (by decide)]; exact h3 i hi
  · rw [zs_a _ _ _ _ _ _ _ (by decide)]; exact h6
  · rw [zs_a _ _ _ _ _ _ _ (by decide)]; exact h7
  · rw [zs_a _ _ _ _ _ _ _ (by decide)]; exact h8 i x hx
theorem f_isR (v : Int32) : F_D_isRouter n v st = some (if zIsR n v then 1 else 0, st) := by
  unfold F_D_isRouter
  by_cases h1 : v < 0
  · rw [if_pos h1, if_neg (fun c => c.1 h1)]
  · rw [if_neg h1]
    by_cases h2 : nI n ≤ v
    · rw [if_pos h2, if_neg (fun c => c.2 h2)]
    · rw [if_neg h2, if_pos ⟨h1, h2⟩]
theorem f_isRt (v w : Int32) : F_D_isRoute n v w st = some (if zIsR n v ∧ zIsR n w then 1 else 0, st) := by
  unfold F_D_isRoute
  rw [f_isR]
  by_cases h1 : zIsR n v
  · rw [if_pos h1]
    show F_D_isRoute_s1 n w 1 st = _
    unfold F_D_isRoute_s1
    rw [if_neg (by decide), f_isR]
    by_cases h2 : zIsR n w
    · rw [if_pos h2, if_pos ⟨h1, h2⟩]; rfl
    · rw [if_neg h2, if_neg (fun c => h2 c.2)]; rfl
  · rw [if_neg h1, if_neg (fun c => h1 c.1)]; rfl
theorem f_isLk_no {v w : Int32} (h : ¬ (zIsR n v ∧ zIsR n w)) : F_D_isLink n v w st = some (0, st) := by
  unfold F_D_isLink
  rw [f_isR]
  by_cases h1 : zIsR n v
  · rw [if_pos h1]
    show F_D_isLink_s1 n v w 1 st = _
    unfold F_D_isLink_s1
    rw [if_neg (by decide), f_isR, if_neg (fun c => h ⟨h1, c⟩)]
    rfl
  · rw [if_neg h1]; rfl
theorem f_isLk (hn : n ≤ 6) (hR : zRC n C P S L lk st) {a b : Nat} (ha : a < n) (hb : b < n) : F_D_isLink n (nI a) (nI b) st = some (if 0 < C a b then 1 else 0, st) := by
  have ga := zo_in ha (show n < 2 ^ 31 by omega)
  have gb := zo_in hb (show n < 2 ^ 31 by omega)
  have ea : Int32.toNatClampNeg (nI a) = a := zo_c (by omega)
  have eb : Int32.toNatClampNeg (nI b) = b := zo_c (by omega)
  unfold F_D_isLink
  rw [f_isR, if_pos (zIsR_of hn ha)]
  show F_D_isLink_s1 n (nI a) (nI b) 1 st = _
  unfold F_D_isLink_s1
  rw [if_neg (by decide), f_isR, if_pos (zIsR_of hn hb)]
  show F_D_isLink_s2 n (nI a) (nI b) 1 st = _
  unfold F_D_isLink_s2
  rw [if_neg (by decide), if_neg ga, if_neg gb]
  simp only [ea, eb, rc_c hR ha hb]
  by_cases h : 0 < C a b
  · rw [if_neg (fun c => Int32.not_le.mpr h c), if_pos h]
  · rw [if_pos (Int32.not_lt.mp h), if_neg h]
theorem f_bring (hn : n ≤ 6) (hR : zRC n C M.1 M.2.1 M.2.2 lk st) (hJ : zJx n M.1) (hl : ∀ x ∈ M.2.2, zLn n x) {fi i : Nat} {x : zL} (hfi : st 3 0 0 = nI fi) (hf2 : fi < 2 ^ 31) (hx : M.2.2[i]? = some x) (hL : M.2.2.length + 21 ≤ 1024) :
    ∃ st', F_D_bring n (nI (fi + i)) st = some (nI x.2.2.1, st') ∧ zRC n C (zBr C n x (M.1, M.2.1, M.2.2.eraseIdx i)).1 (zBr C n x (M.1, M.2.1, M.2.2.eraseIdx i)).2.1 (zBr C n x (M.1, M.2.1, M.2.2.eraseIdx i)).2.2 lk st' := by
  have hxn := hl x (List.mem_of_getElem? hx)
  obtain ⟨st1, a1, r1⟩ := f_take hR hfi hf2 hx
  obtain ⟨u1, u2, u3, u4, u5⟩ := f_unpack (n := n) (st := st1) (hxn.ok hn)
  obtain ⟨fr, to, kd, tg, d⟩ := x
  obtain ⟨n1, n2, n3, n4, n5⟩ := hxn
  dsimp only at n1 n2 n3 n4 n5 u1 u2 u3 u4 u5
  have e6 := z6 (r := to) (t := tg) (by omega)
  have hk : (6 * to + tg) / 6 < n ∧ (6 * to + tg) % 6 < n := by omega
  have hlen : (M.2.2.eraseIdx i).length ≤ M.2.2.length := List.length_eraseIdx_le _ _
  unfold F_D_bring
  rw [a1]
  rw [zbs]; dsimp only
  unfold F_D_bring_s1
  rw [u1]
  rw [zbs]; dsimp only
  unfold F_D_bring_s2
  rw [u3]
  rw [zbs]; dsimp only
  unfold F_D_bring_s3
  rw [u2]
  rw [zbs]; dsimp only
  unfold F_D_bring_s4
  rw [u4]
  rw [zbs]; dsimp only
  unfold F_D_bring_s5
  rw [f_route hn n2 n4]
  rw [zbs]; dsimp only
  unfold F_D_bring_s6
  rw [f_isOwn (by omega), e6.1, e6.2]
  have r1' : zRC n C (va_up M.1 (6 * to + tg) (M.1 (6 * to + tg))) M.2.1 (M.2.2.eraseIdx i) lk st1 := by rw [zUp_eta]; exact r1
  unfold zBr
  dsimp only
  by_cases c : to = tg
  · rw [if_pos c, if_pos c]
    rw [zbs]; dsimp only
    unfold F_D_bring_s7
    rw [if_neg (by decide)]
    have k1 : nI kd = 1 ↔ kd = 1 := nI_eq (a := kd) (b := 1) (by omega) (by decide)
    by_cases ck : kd = 1
    · rw [if_pos (k1.mpr ck), if_pos ck]
      obtain ⟨st2, a2, r2⟩ := f_send (to := fr) (kd := 2) hk r1' (by decide) (by omega)
      rw [show (2 : Int32) = nI 2 from rfl, a2]
      rw [zbs]; dsimp only
      exact ⟨st2, rfl, r2⟩
    · rw [if_neg (fun e => ck (k1.mp e)), if_neg ck]
      exact ⟨st1, rfl, r1⟩
  · rw [if_neg c, if_neg c]
    rw [zbs]; dsimp only
    unfold F_D_bring_s7
    rw [if_pos rfl, u5]
    rw [zbs]; dsimp only
    unfold F_D_bring_s9
    rw [if_neg (zo_in n1 (by omega)), zo_c (show fr < 2 ^ 31 by omega)]
    have r2 := rc_pt hn r1' n1 d
    obtain ⟨st3, a3, r3⟩ := f_hear hn hk r2 (by rw [zUp_n _ _ (by omega)]; exact hJ _ hk.1 hk.2) n1 n3 (by omega)
    unfold F_D_bring_s10
    rw [a3]
    rw [e6.1] at r3
    rw [zbs]; dsimp only
    exact ⟨st3, rfl, r3⟩
end ZP
