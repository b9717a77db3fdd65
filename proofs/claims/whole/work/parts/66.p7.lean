/-! The mail: letters packed into a number, counted, found, taken, dropped. -/
def zLok (x : zL) : Prop := x.1 < 8 ∧ x.2.1 < 8 ∧ x.2.2.1 < 4 ∧ x.2.2.2.1 < 8 ∧ ∃ d : Nat, d < 16384 ∧ x.2.2.2.2 = nI d
theorem zor (a b : Nat) : nI a ||| nI b = nI (a ||| b) := by
  apply Int32.toBitVec_inj.1
  show BitVec.ofNat 32 a ||| BitVec.ofNat 32 b = BitVec.ofNat 32 (a ||| b)
  apply BitVec.eq_of_getLsbD_eq
  intro i hi
  simp [hi]
theorem zor1 (a i b : Nat) (h : b < 2 ^ i) : a * 2 ^ i ||| b = a * 2 ^ i + b := by rw [← Nat.shiftLeft_eq, Nat.shiftLeft_add_eq_or_of_lt h]
theorem zPack_eq {s r kd tg d : Nat} (hs : s < 8) (hr : r < 8) (hk : kd < 4) (ht : tg < 8) (hd : d < 16384) : zPack (s, r, kd, tg, nI d) = nI ((((s * 8 + r) * 4 + kd) * 8 + tg) * 16384 + d) := by
  unfold zPack
  show ((((nI s <<< (22 &&& 31)) ||| (nI r <<< (19 &&& 31))) ||| (nI kd <<< (17 &&& 31))) ||| (nI tg <<< (14 &&& 31))) ||| nI d = _
  rw [pk_shlN (22 &&& 31) 22 (by decide) (by omega), pk_shlN (19 &&& 31) 19 (by decide) (by omega), pk_shlN (17 &&& 31) 17 (by decide) (by omega), pk_shlN (14 &&& 31) 14 (by decide) (by omega)]
  rw [zor, zor, zor, zor]
  rw [zor1 s 22 (r * 2 ^ 19) (by omega)]
  rw [show s * 2 ^ 22 + r * 2 ^ 19 = (s * 8 + r) * 2 ^ 19 by omega, zor1 (s * 8 + r) 19 (kd * 2 ^ 17) (by omega)]
  rw [show (s * 8 + r) * 2 ^ 19 + kd * 2 ^ 17 = ((s * 8 + r) * 4 + kd) * 2 ^ 17 by omega, zor1 ((s * 8 + r) * 4 + kd) 17 (tg * 2 ^ 14) (by omega)]
  rw [show ((s * 8 + r) * 4 + kd) * 2 ^ 17 + tg * 2 ^ 14 = (((s * 8 + r) * 4 + kd) * 8 + tg) * 2 ^ 14 by omega, zor1 (((s * 8 + r) * 4 + kd) * 8 + tg) 14 d (by omega)]
section ZP
variable {n : Nat} {C : Nat → Nat → Int32} {P : Nat → zR} {S : Nat → Int32} {L : List zL} {lk : Int32} {st : zS}
theorem f_unpack {x : zL} (h : zLok x) : F_L_senderOf n (zPack x) st = some (nI x.1, st) ∧ F_L_receiverOf n (zPack x) st = some (nI x.2.1, st) ∧ F_L_kindOf n (zPack x) st = some (nI x.2.2.1, st) ∧ F_L_targetOf n (zPack x) st = some (nI x.2.2.2.1, st) ∧ F_L_distanceOf n (zPack x) st = some (x.2.2.2.2, st) := by
  obtain ⟨s, r, kd, tg, dd⟩ := x
  obtain ⟨hs, hr, hk, ht, d, hd, e⟩ := h
  dsimp only at hs hr hk ht e
  subst e
  rw [zPack_eq hs hr hk ht hd]
  have hb : (((s * 8 + r) * 4 + kd) * 8 + tg) * 16384 + d < 2 ^ 31 := by omega
  unfold F_L_senderOf F_L_receiverOf F_L_kindOf F_L_targetOf F_L_distanceOf
  refine ⟨?_, ?_, ?_, ?_, ?_⟩
  · rw [pk_shrN hb (22 &&& 31) 22 (by decide), show ((((s * 8 + r) * 4 + kd) * 8 + tg) * 16384 + d) / 2 ^ 22 = s by omega]
  · rw [pk_shrN hb (19 &&& 31) 19 (by decide), pk_andN (by omega) 3 (by decide), show ((((s * 8 + r) * 4 + kd) * 8 + tg) * 16384 + d) / 2 ^ 19 % 2 ^ 3 = r by omega]
  · rw [pk_shrN hb (17 &&& 31) 17 (by decide), pk_andN (by omega) 2 (by decide), show ((((s * 8 + r) * 4 + kd) * 8 + tg) * 16384 + d) / 2 ^ 17 % 2 ^ 2 = kd by omega]
  · rw [pk_shrN hb (14 &&& 31) 14 (by decide), pk_andN (by omega) 3 (by decide), show ((((s * 8 + r) * 4 + kd) * 8 + tg) * 16384 + d) / 2 ^ 14 % 2 ^ 3 = tg by omega]
  · rw [pk_andN (by omega) 14 (by decide), show ((((s * 8 + r) * 4 + kd) * 8 + tg) * 16384 + d) % 2 ^ 14 = d by omega]
abbrev zFT (a b : Nat) (x : zL) : Bool := decide (x.1 = a ∧ x.2.1 = b)
/-- the letters M stand in the row from place p on, and there it ends -/
def zRow (st : zS) (p : Nat) (M : List zL) : Prop := p + M.length ≤ 1024 ∧ st 3 0 1 = nI (p + M.length) ∧ ∀ (i : Nat) (x : zL), M[i]? = some x → st 4 0 (p + i) = zPack x ∧ zLok x
theorem zRow.tail {p : Nat} {x : zL} {M : List zL} (h : zRow st p (x :: M)) : zRow st (p + 1) M := by
  obtain ⟨h1, h2, h3⟩ := h
  simp only [List.length_cons] at h1 h2
  refine ⟨by omega, by rw [h2]; congr 1; omega, fun i y hy => ?_⟩
  have := h3 (i + 1) y (by simpa using hy)
  rw [show p + 1 + i = p + (i + 1) by omega]
  exact this
theorem f_from {p a b : Nat} {x : zL} (hp : p < 1024) (hr : st 4 0 p = zPack x) (hx : zLok x) (ha : a < 2 ^ 31) (hb : b < 2 ^ 31) : F_L_isFromTo n (nI p) (nI a) (nI b) st = some (if zFT a b x = true then 1 else 0, st) := by
  have g := zo_in hp (by decide)
  have ec : Int32.toNatClampNeg (nI p) = p := zo_c (by omega)
  obtain ⟨u1, u2, -⟩ := f_unpack (n := n) (st := st) hx
  have hs : x.1 < 2 ^ 31 := by have := hx.1; omega
  have ht : x.2.1 < 2 ^ 31 := by have := hx.2.1; omega
  unfold F_L_isFromTo
  rw [if_neg g]
  simp only [ec, hr]
  rw [u1]
  show F_L_isFromTo_s1 n (nI p) (nI a) (nI b) (nI x.1) st = _
  unfold F_L_isFromTo_s1
  by_cases c1 : x.1 = a
  · rw [if_pos (by rw [c1]), if_neg g]
    simp only [ec, hr]
    rw [u2]
    show F_L_isFromTo_s2 n (nI b) (nI x.2.1) st = _
    unfold F_L_isFromTo_s2
    by_cases c2 : x.2.1 = b
    · rw [if_pos (by rw [c2]), if_pos (by simp [zFT, c1, c2])]
    · rw [if_neg (fun e => c2 ((nI_eq ht hb).mp e)), if_neg (by simp [zFT, c2])]
  · rw [if_neg (fun e => c1 ((nI_eq hs ha).mp e)), if_neg (by simp [zFT, c1])]
theorem f_count1 {a b : Nat} (ha : a < 2 ^ 31) (hb : b < 2 ^ 31) : ∀ (M : List zL) (f p c : Nat), M.length < f → zRow st p M → F_L_count_L8 n f (nI a) (nI b) (nI c) (nI p) st = some (nI (c + (M.filter (zFT a b)).length), st)
  | M, 0, p, c, h, _ => by omega
  | [], f + 1, p, c, h, hr => by
    rw [F_L_count_L8, hr.2.1, if_pos (nI_le (by simp) (by have := hr.1; simp at this; omega))]
    simp
  | x :: M, f + 1, p, c, h, hr => by
    have hl := hr.1
    simp only [List.length_cons] at hl h
    obtain ⟨e1, e2⟩ := hr.2.2 0 x (by simp)
    rw [Nat.add_zero] at e1
    rw [F_L_count_L8, hr.2.1, if_neg (nI_ge (by simp only [List.length_cons]; omega) (by simp only [List.length_cons]; omega)), f_from (by omega) e1 e2 ha hb]
    by_cases c1 : zFT a b x = true
    · rw [if_pos c1]
      show F_L_count_L8_s1 n (F_L_count_L8 n f) (nI a) (nI b) (nI c) (nI p) 1 st = _
      unfold F_L_count_L8_s1 F_L_count_L31
      rw [if_neg (by decide), nI_1, nI_1, f_count1 ha hb M f (p + 1) (c + 1) (by omega) hr.tail, List.filter_cons_of_pos c1]
      simp only [List.length_cons]
      congr 2
      congr 1
      omega
    · rw [if_neg c1]
      show F_L_count_L8_s1 n (F_L_count_L8 n f) (nI a) (nI b) (nI c) (nI p) 0 st = _
      unfold F_L_count_L8_s1 F_L_count_L31
      rw [if_pos rfl, nI_1, f_count1 ha hb M f (p + 1) c (by omega) hr.tail, List.filter_cons_of_neg c1]
theorem zRC.row (hR : zRC n C P S L lk st) (hl : ∀ x ∈ L, zLok x) : ∃ fi : Nat, st 3 0 0 = nI fi ∧ zRow st fi L := by
  obtain ⟨-, -, -, -, fi, h5, h6, h7, h8⟩ := hR
  exact ⟨fi, h6, h5, h7, fun i x hx => ⟨h8 i x hx, hl x (List.mem_of_getElem? hx)⟩⟩
theorem f_count (hR : zRC n C P S L lk st) (hl : ∀ x ∈ L, zLok x) {a b : Nat} (ha : a < 2 ^ 31) (hb : b < 2 ^ 31) : F_L_count n (nI a) (nI b) st = some (nI (L.filter (zFT a b)).length, st) := by
  obtain ⟨fi, h1, h2⟩ := hR.row hl
  unfold F_L_count
  rw [h1, show (0 : Int32) = nI 0 from rfl, f_count1 ha hb L zFuel fi 0 (by have := h2.1; unfold zFuel; omega) h2, Nat.zero_add]
def zFi (a b : Nat) (k : Int32) : List zL → Int32 → Nat → Option Nat
  | [], _, _ => none
  | x :: M, c, p => if zFT a b x = true then (if c = k then some p else zFi a b k M (c + 1) (p + 1)) else zFi a b k M c (p + 1)
def zPl (o : Option Nat) : Int32 := match o with
  | none => -1
  | some i => nI i
theorem zFi_add (a b : Nat) (k : Int32) (d : Nat) : ∀ (M : List zL) (c : Int32) (p : Nat), zFi a b k M c (p + d) = (zFi a b k M c p).map (· + d)
  | [], c, p => rfl
  | x :: M, c, p => by
    unfold zFi
    by_cases c1 : zFT a b x = true
    · rw [if_pos c1, if_pos c1]
      by_cases c2 : c = k
      · rw [if_pos c2, if_pos c2]; rfl
      · rw [if_neg c2, if_neg c2, show p + d + 1 = (p + 1) + d by omega]; exact zFi_add a b k d M (c + 1) (p + 1)
    · rw [if_neg c1, if_neg c1, show p + d + 1 = (p + 1) + d by omega]; exact zFi_add a b k d M c (p + 1)
theorem zFi_in (a b : Nat) (k : Int32) : ∀ (M : List zL) (c : Int32) (p i : Nat), zFi a b k M c p = some i → ∃ j x, i = p + j ∧ M[j]? = some x ∧ x.1 = a ∧ x.2.1 = b
  | [], c, p, i, h => by cases h
  | x :: M, c, p, i, h => by
    unfold zFi at h
    by_cases c1 : zFT a b x = true
    · rw [if_pos c1] at h
      by_cases c2 : c = k
      · rw [if_pos c2] at h
        cases h
        have := of_decide_eq_true c1
        exact ⟨0, x, rfl, by simp, this.1, this.2⟩
      · rw [if_neg c2] at h
        obtain ⟨j, y, e1, e2, e3⟩ := zFi_in a b k M (c + 1) (p + 1) i h
        exact ⟨j + 1, y, by omega, by simpa using e2, e3⟩
    · rw [if_neg c1] at h
      obtain ⟨j, y, e1, e2, e3⟩ := zFi_in a b k M c (p + 1) i h
      exact ⟨j + 1, y, by omega, by simpa using e2, e3⟩
theorem f_find1 {a b : Nat} (ha : a < 2 ^ 31) (hb : b < 2 ^ 31) (k : Int32) : ∀ (M : List zL) (f p : Nat) (c : Int32), M.length < f → zRow st p M → F_L_find_L9 n f (nI a) (nI b) k c (nI p) st = some (zPl (zFi a b k M c p), st)
  | M, 0, p, c, h, _ => by omega
  | [], f + 1, p, c, h, hr => by
    rw [F_L_find_L9, hr.2.1, if_pos (nI_le (by simp) (by have := hr.1; simp at this; omega))]
    rfl
  | x :: M, f + 1, p, c, h, hr => by
    have hl := hr.1
    simp only [List.length_cons] at hl h
    obtain ⟨e1, e2⟩ := hr.2.2 0 x (by simp)
    rw [Nat.add_zero] at e1
    rw [F_L_find_L9, hr.2.1, if_neg (nI_ge (by simp only [List.length_cons]; omega) (by simp only [List.length_cons]; omega)), f_from (by omega) e1 e2 ha hb]
    unfold zFi
    by_cases c1 : zFT a b x = true
    · rw [if_pos c1, if_pos c1]
      show F_L_find_L9_s1 n (F_L_find_L9 n f) (nI a) (nI b) k c (nI p) 1 st = _
      unfold F_L_find_L9_s1 F_L_find_L41
      rw [if_neg (by decide)]
      by_cases c2 : c = k
      · rw [if_pos c2, if_pos c2]; rfl
      · rw [if_neg c2, if_neg c2, nI_1]
        exact f_find1 ha hb k M f (p + 1) (c + 1) (by omega) hr.tail
    · rw [if_neg c1, if_neg c1]
      show F_L_find_L9_s1 n (F_L_find_L9 n f) (nI a) (nI b) k c (nI p) 0 st = _
      unfold F_L_find_L9_s1 F_L_find_L41
      rw [if_pos rfl, nI_1]
      exact f_find1 ha hb k M f (p + 1) c (by omega) hr.tail
theorem f_find (hR : zRC n C P S L lk st) (hl : ∀ x ∈ L, zLok x) {a b : Nat} (ha : a < 2 ^ 31) (hb : b < 2 ^ 31) (k : Int32) : ∃ fi, st 3 0 0 = nI fi ∧ zRow st fi L ∧ F_L_find n (nI a) (nI b) k st = some (zPl ((zFi a b k L 0 0).map (· + fi)), st) := by
  obtain ⟨fi, h1, h2⟩ := hR.row hl
  refine ⟨fi, h1, h2, ?_⟩
  unfold F_L_find
  rw [h1, f_find1 ha hb k L zFuel fi 0 (by have := h2.1; unfold zFuel; omega) h2, ← zFi_add, Nat.zero_add]
theorem f_take (hR : zRC n C P S L lk st) {fi i : Nat} {x : zL} (hfi : st 3 0 0 = nI fi) (hf2 : fi < 2 ^ 31) (hx : L[i]? = some x) : ∃ st', F_L_take n (nI (fi + i)) st = some (zPack x, st') ∧ zRC n C P S (L.eraseIdx i) lk st' := by
  obtain ⟨-, -, h3, -, fi', h5, h6, h7, h8⟩ := id hR
  have e : fi = fi' := (nI_eq hf2 (by omega)).mp (hfi.symm.trans h6)
  subst e
  have hi : i < L.length := (List.getElem?_eq_some_iff.mp hx).1
  have g := zo_in (show fi + i < 1024 by omega) (by decide)
  have e1 : Int32.toNatClampNeg (nI (fi + i)) = fi + i := zo_c (by omega)
  have e2 : Int32.toNatClampNeg (nI fi) = fi := zo_c (by omega)
  have e3 : Int32.toNatClampNeg (nI (fi + 1)) = fi + 1 := zo_c (by omega)
  have e4 : nI (fi + i) - nI fi = nI i := by rw [pk_sub (by omega)]; congr 1; omega
  have e5 : Int32.toNatClampNeg (nI i) = i := zo_c (by omega)
  have gc : ¬ zCpyOut (nI fi) (nI (fi + 1)) (nI i) 1024 := by
    unfold zCpyOut
    rw [e2, e3, e5]
    rintro ((h | h | h) | h | h)
    · exact nI_pos (by omega) h
    · exact nI_pos (by omega) h
    · exact nI_pos (by omega) h
    · omega
    · omega
  refine ⟨_, ?_, rc_ml (st' := zs (zrow st 4 0 (va_cpy (st 4 0) (st 4 0) fi (fi + 1) i)) 3 0 0 (nI (fi + 1))) hR (fun a b => by simp [zs, zrow]) (fun a b => by simp [zs, zrow]) (fun a b => by simp [zs, zrow]) (fun a b => by simp [zs, zrow]) (by simp [zs, zrow]) (fun j hj => ?_) ⟨fi + 1, ?_, ?_, ?_, fun j y hy => ?_⟩⟩
  · unfold F_L_take F_L_take_s1 F_L_take_s2
    rw [if_neg g, h6, nI_1, e4, if_neg gc, e1, e2, e3, e5, h8 i x hx, zrow_n _ _ _ _ (by decide), h6, nI_1]
  · rw [zs_a _ _ _ _ _ _ _ (by decide), zrow_n _ _ _ _ (by decide)]; exact h3 j hj
  · rw [List.length_eraseIdx_of_lt hi]; omega
  · rw [zs_same]
  · rw [zs_idx _ _ _ _ _ (by decide), zrow_n _ _ _ _ (by decide), h7, List.length_eraseIdx_of_lt hi]
    congr 1; omega
  · rw [zs_a _ _ _ _ _ _ _ (by decide), zrow_s]
    rw [List.getElem?_eraseIdx] at hy
    by_cases c : j < i
    · rw [if_pos c] at hy
      rw [pk_cpy_in (by omega) (by omega), show fi + (fi + 1 + j - (fi + 1)) = fi + j by omega]
      exact h8 j y hy
    · rw [if_neg c] at hy
      rw [pk_cpy_out (by omega), show fi + 1 + j = fi + (j + 1) by omega]
      exact h8 (j + 1) y hy
/-- drop's loop: K stands already from fi on, the rest M from p on -/
theorem f_drop1 {a b : Nat} (ha : a < 2 ^ 31) (hb : b < 2 ^ 31) (fi : Nat) : ∀ (M : List zL) (K : List zL) (f p : Nat) (st : zS), M.length < f → fi + K.length ≤ p → zRow st p M → (∀ (i : Nat) (x : zL), K[i]? = some x → st 4 0 (fi + i) = zPack x) →
    ∃ st', F_L_drop_L11 n f (nI a) (nI b) (nI (fi + K.length)) (nI p) st = some (nI (p + M.length - (fi + K.length) - (M.filter (fun x => !zFT a b x)).length), st') ∧ st' 3 0 1 = nI (fi + K.length + (M.filter (fun x => !zFT a b x)).length) ∧ (∀ (i : Nat) (x : zL), (K ++ M.filter (fun x => !zFT a b x))[i]? = some x → st' 4 0 (fi + i) = zPack x) ∧ (∀ a' k' j, (a' ≠ 4 ∧ a' ≠ 3) → st' a' k' j = st a' k' j) ∧ st' 3 0 0 = st 3 0 0
  | M, K, 0, p, st, h, _, _, _ => by omega
  | [], K, f + 1, p, st, h, hk, hr, hK => by
    have h1 : st 3 0 1 = nI p := by have := hr.2.1; simpa using this
    have hp : p ≤ 1024 := by have := hr.1; simpa using this
    refine ⟨zs st 3 0 1 (nI (fi + K.length)), ?_, ?_, ?_, ?_, ?_⟩
    · rw [F_L_drop_L11, h1, if_pos (nI_le (Nat.le_refl _) (by omega))]
      unfold F_L_drop_L11_s1
      rw [pk_sub hk]
      simp
    · rw [zs_same]; simp
    · intro i x hx
      rw [zs_a _ _ _ _ _ _ _ (by decide)]
      exact hK i x (by simpa using hx)
    · intro a' k' j h'
      rw [zs_a _ _ _ _ _ _ _ h'.2]
    · rw [zs_idx _ _ _ _ _ (by decide)]
  | x :: M, K, f + 1, p, st, h, hk, hr, hK => by
    have hl := hr.1
    simp only [List.length_cons] at hl h
    obtain ⟨e1, e2⟩ := hr.2.2 0 x (by simp)
    rw [Nat.add_zero] at e1
    rw [F_L_drop_L11, hr.2.1, if_neg (nI_ge (by simp only [List.length_cons]; omega) (by simp only [List.length_cons]; omega)), f_from (by omega) e1 e2 ha hb]
    by_cases c1 : zFT a b x = true
    · rw [if_pos c1]
      show ∃ st', F_L_drop_L11_s2 n (F_L_drop_L11 n f) (nI a) (nI b) (nI (fi + K.length)) (nI p) 1 st = _ ∧ _
      unfold F_L_drop_L11_s2 F_L_drop_L47
      rw [if_neg (by decide), nI_1]
      obtain ⟨st', a1, a2, a3, a4, a5⟩ := f_drop1 ha hb fi M K f (p + 1) st (by omega) (by omega) hr.tail hK
      rw [List.filter_cons_of_neg (by simp [c1])]
      refine ⟨st', ?_, a2, a3, a4, a5⟩
      rw [a1]
      simp only [List.length_cons]
      congr 2
      congr 1
      omega
    · rw [if_neg c1]
      show ∃ st', F_L_drop_L11_s2 n (F_L_drop_L11 n f) (nI a) (nI b) (nI (fi + K.length)) (nI p) 0 st = _ ∧ _
      unfold F_L_drop_L11_s2 F_L_drop_L11_s3 F_L_drop_L47
      rw [if_pos rfl, if_neg (zo_in (show p < 1024 by omega) (by decide)), if_neg (zo_in (show fi + K.length < 1024 by omega) (by decide)), nI_1, nI_1, zo_c (show p < 2 ^ 31 by omega), zo_c (show fi + K.length < 2 ^ 31 by omega)]
      have hr' : zRow (zs st 4 0 (fi + K.length) (st 4 0 p)) (p + 1) M := by
        obtain ⟨g1, g2, g3⟩ := hr.tail
        refine ⟨g1, by rw [zs_a _ _ _ _ _ _ _ (by decide)]; exact g2, fun i y hy => ?_⟩
        rw [zs_idx _ _ _ _ _ (by omega)]
        exact g3 i y hy
      have hK' : ∀ (i : Nat) (y : zL), (K ++ [x])[i]? = some y → zs st 4 0 (fi + K.length) (st 4 0 p) 4 0 (fi + i) = zPack y := by
        intro i y hy
        by_cases hi : i < K.length
        · rw [List.getElem?_append_left hi] at hy
          rw [zs_idx _ _ _ _ _ (by omega)]
          exact hK i y hy
        · rw [List.getElem?_append_right (by omega)] at hy
          have hz : i - K.length < 1 := (List.getElem?_eq_some_iff.mp hy).1
          rw [show i - K.length = 0 by omega] at hy
          cases hy
          rw [show fi + i = fi + K.length by omega, zs_same]
          exact e1
      obtain ⟨st', a1, a2, a3, a4, a5⟩ := f_drop1 ha hb fi M (K ++ [x]) f (p + 1) (zs st 4 0 (fi + K.length) (st 4 0 p)) (by omega) (by simp only [List.length_append, List.length_singleton]; omega) hr' hK'
      simp only [List.length_append, List.length_singleton] at a1 a2
      rw [List.filter_cons_of_pos (by simp [c1])]
      refine ⟨st', ?_, ?_, ?_, ?_, ?_⟩
      · rw [show fi + K.length + 1 = fi + (K.length + 1) by omega, a1]
        simp only [List.length_cons]
        congr 2
        congr 1
        omega
      · rw [a2]
        simp only [List.length_cons]
        congr 1
        omega
      · intro i y hy
        exact a3 i y (by simpa using hy)
      · intro a' k' j h'
        rw [a4 a' k' j h', zs_a _ _ _ _ _ _ _ h'.1]
      · rw [a5, zs_a _ _ _ _ _ _ _ (by decide)]
theorem f_drop (hR : zRC n C P S L lk st) (hl : ∀ x ∈ L, zLok x) {a b : Nat} (ha : a < 2 ^ 31) (hb : b < 2 ^ 31) : ∃ st', F_L_drop n (nI a) (nI b) st = some (nI (L.length - (L.filter (fun x => !zFT a b x)).length), st') ∧ zRC n C P S (L.filter (fun x => !zFT a b x)) lk st' := by
  obtain ⟨fi, h1, h2⟩ := hR.row hl
  unfold F_L_drop
  rw [h1]
  obtain ⟨st', a1, a2, a3, a4, a5⟩ := f_drop1 (n := n) ha hb fi L [] zFuel fi st (by have := h2.1; unfold zFuel; omega) (by simp) h2 (fun i x hx => by simp at hx)
  simp only [List.length_nil, Nat.add_zero, List.nil_append] at a1 a2 a3
  refine ⟨st', ?_, rc_ml hR (fun x y => a4 6 x y (by decide)) (fun x y => a4 7 x y (by decide)) (fun x y => a4 8 x y (by decide)) (fun x y => a4 9 x y (by decide)) (a4 0 0 0 (by decide)) (fun i hi => (a4 5 0 i (by decide)).trans (hR.2.2.1 i hi)) ⟨fi, ?_, a5.trans h1, a2, a3⟩⟩
  · rw [a1]
    congr 2
    congr 1
    omega
  · have := List.length_filter_le (fun x => !zFT a b x) L
    have := h2.1
    omega
end ZP
