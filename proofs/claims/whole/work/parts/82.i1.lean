/-! The invariant, of one route. -/
def zDok (x : Int32) : Prop := ∃ d : Nat, d ≤ 10000 ∧ x = nI d
def zCok (n : Nat) (cr : Nat → Int32) : Prop := ∀ j, j < n → ∃ c : Nat, c ≤ 100 ∧ cr j = nI c
abbrev zNe (n : Nat) (cr : Nat → Int32) (x : Int32) : Prop := x = -1 ∨ ∃ j : Nat, j < n ∧ x = nI j ∧ 0 < cr j
def zRw (n : Nat) (cr : Nat → Int32) (q : zR) : Prop := zDok (q 0) ∧ zNe n cr (q 2) ∧ (q 4 = 0 ∨ q 4 = 1) ∧ (q 5 = 0 ∨ q 5 = 1) ∧ (∀ j, j < n → zDok (q (10 + j))) ∧ zQw n cr q
theorem zRw.d {n : Nat} {cr : Nat → Int32} {q : zR} (h : zRw n cr q) : zDok (q 0) := h.1
theorem zRw.nx {n : Nat} {cr : Nat → Int32} {q : zR} (h : zRw n cr q) : zNe n cr (q 2) := h.2.1
theorem zRw.b4 {n : Nat} {cr : Nat → Int32} {q : zR} (h : zRw n cr q) : q 4 = 0 ∨ q 4 = 1 := h.2.2.1
theorem zRw.b5 {n : Nat} {cr : Nat → Int32} {q : zR} (h : zRw n cr q) : q 5 = 0 ∨ q 5 = 1 := h.2.2.2.1
theorem zRw.t {n : Nat} {cr : Nat → Int32} {q : zR} (h : zRw n cr q) : ∀ j, j < n → zDok (q (10 + j)) := h.2.2.2.2.1
theorem zRw.w {n : Nat} {cr : Nat → Int32} {q : zR} (h : zRw n cr q) : zQw n cr q := h.2.2.2.2.2
theorem zRw_mk {n : Nat} {cr : Nat → Int32} {q : zR} (d : zDok (q 0)) (nx : zNe n cr (q 2)) (b4 : q 4 = 0 ∨ q 4 = 1) (b5 : q 5 = 0 ∨ q 5 = 1) (t : ∀ j, j < n → zDok (q (10 + j))) (w : zQw n cr q) : zRw n cr q := ⟨d, nx, b4, b5, t, w⟩
def zOu (n : Nat) (cr : Nat → Int32) (o : List zO) : Prop := ∀ y ∈ o, y.1 < n ∧ 0 < cr y.1 ∧ y.2.1 < 3 ∧ zDok y.2.2
def zBw (n : Nat) (q : zR) : Prop := ¬ q 3 = 0 → ¬ zWt q n = 0
theorem zDok_far : zDok 10000 := ⟨10000, Nat.le_refl _, rfl⟩
theorem zDok_le {x : Int32} (h : zDok x) : x ≤ 10000 := by
  obtain ⟨d, hd, rfl⟩ := h
  exact nI_le (a := d) (b := 10000) hd (by decide)
theorem zNe_ix {n : Nat} {cr : Nat → Int32} {x : Int32} (h : zNe n cr x) : zIx n x := h.imp id (fun ⟨j, hj, e, _⟩ => ⟨j, hj, e⟩)
theorem zCok_nn {n : Nat} {cr : Nat → Int32} (h : zCok n cr) {j : Nat} (hj : j < n) : ¬ cr j < 0 := by
  obtain ⟨c, hc, e⟩ := h j hj
  rw [e]; exact nI_pos (by omega)
theorem zCok_0 {n : Nat} {cr : Nat → Int32} (h : zCok n cr) {j : Nat} (hj : j < n) (h0 : ¬ cr j = 0) : 0 < cr j := by
  rcases Int32.lt_or_lt_of_ne h0 with q | q
  · exact absurd q (zCok_nn h hj)
  · exact q
theorem zOu_nil (n : Nat) (cr : Nat → Int32) : zOu n cr [] := fun y hy => by cases hy
theorem zOu_app {n : Nat} {cr : Nat → Int32} {a b : List zO} (ha : zOu n cr a) (hb : zOu n cr b) : zOu n cr (a ++ b) := fun y hy => (List.mem_append.mp hy).elim (ha y) (hb y)
theorem zNb_pos (cr : Nat → Int32) (x : Int32) : ∀ i j, j ∈ zNb cr x i → 0 < cr j
  | 0, j, h => by simp [zNb] at h
  | i + 1, j, h => by
    unfold zNb at h
    by_cases c : 0 < cr i ∧ ¬ nI i = x
    · rw [if_pos c] at h
      rcases List.mem_append.mp h with h | h
      · exact zNb_pos cr x i j h
      · rw [List.mem_singleton.mp h]; exact c.1
    · rw [if_neg c] at h
      exact zNb_pos cr x i j h
theorem zOu_tell {n : Nat} (cr : Nat → Int32) (x : Int32) {kd : Nat} (hk : kd < 3) {d : Int32} (hd : zDok d) : zOu n cr (zTell (zNb cr x n) kd d) := by
  intro y hy
  obtain ⟨j, hj, e⟩ := List.mem_map.mp hy
  subst e
  exact ⟨zNb_lt cr x n j hj, zNb_pos cr x n j hj, hk, hd⟩
theorem zOu_one {n : Nat} (hn : n ≤ 6) {cr : Nat → Int32} {x : Int32} (hx : zNe n cr x) {d : Int32} (hd : zDok d) : zOu n cr (zOne x 2 d) := by
  unfold zOne
  rcases hx with e | ⟨j, hj, e, hc⟩
  · rw [if_pos e]; exact zOu_nil n cr
  · subst e
    rw [if_neg (zo_m1 (by omega)), zo_c (show j < 2 ^ 31 by omega)]
    intro y hy
    rw [List.mem_singleton.mp hy]
    exact ⟨hj, hc, (by decide : 2 < 3), hd⟩
section ZI
variable {n : Nat} {cr : Nat → Int32} {q : zR}
theorem zThr_ok (hc : zCok n cr) (ht : ∀ j, j < n → zDok (q (10 + j))) {j : Nat} (hj : j < n) : zDok (zThr cr q j) := by
  obtain ⟨c, h1, e1⟩ := hc j hj
  obtain ⟨d, h2, e2⟩ := ht j hj
  unfold zThr
  rw [e1, e2, nI_add]
  by_cases a : nI c = 0
  · rw [if_pos a]; exact zDok_far
  · rw [if_neg a]
    by_cases b : nI (d + c) < 10000
    · rw [if_pos b]
      have := (nI_ltI (a := d + c) (b := 10000) (by omega) (by decide)).mp b
      exact ⟨d + c, by omega, rfl⟩
    · rw [if_neg b]; exact zDok_far
theorem zThrX_ok (hn : n ≤ 6) (hc : zCok n cr) (ht : ∀ j, j < n → zDok (q (10 + j))) {x : Int32} (hx : zIx n x) : zDok (zThrX cr q x) := by
  rcases hx with e | ⟨j, hj, e⟩
  · subst e
    unfold zThrX
    rw [if_pos (by decide)]
    exact zDok_far
  · subst e
    rw [zThrX_nI cr q (by omega)]
    exact zThr_ok hc ht hj
theorem zLst_ok (hc : zCok n cr) (ht : ∀ j, j < n → zDok (q (10 + j))) : ∀ i, i ≤ n → zDok (zLst cr q i)
  | 0, _ => zDok_far
  | i + 1, h => by
    unfold zLst
    by_cases c : zThr cr q i < zLst cr q i
    · rw [if_pos c]; exact zThr_ok hc ht (by omega)
    · rw [if_neg c]; exact zLst_ok hc ht i (by omega)
theorem zBst_nb {far : Int32} (hf : ¬ far = 10000) : ∀ i, zBst cr q far i = -1 ∨ ∃ j : Nat, j < i ∧ zBst cr q far i = nI j ∧ ¬ cr j = 0
  | 0 => Or.inl rfl
  | i + 1 => by
    unfold zBst
    by_cases c : (q (10 + i) < q 1 ∧ zThr cr q i = far) ∧ (zBst cr q far i = -1 ∨ nI i = q 2)
    · rw [if_pos c]
      refine Or.inr ⟨i, by omega, rfl, fun h => hf ?_⟩
      have := c.1.2
      unfold zThr at this
      rw [if_pos h] at this
      exact this.symm
    · rw [if_neg c]
      rcases zBst_nb hf i with h | ⟨j, h1, h2, h3⟩
      · exact Or.inl h
      · exact Or.inr ⟨j, by omega, h2, h3⟩
theorem zBest_nb (hc : zCok n cr) : zNe n cr (zBest cr q n) := by
  unfold zBest
  by_cases c : zLst cr q n = 10000
  · rw [if_pos c]; exact Or.inl rfl
  · rw [if_neg c]
    rcases zBst_nb (cr := cr) (q := q) c n with h | ⟨j, h1, h2, h3⟩
    · exact Or.inl h
    · exact Or.inr ⟨j, h1, h2, zCok_0 hc h1 h3⟩
theorem zTake_n (cr : Nat → Int32) (q : zR) (n : Nat) {f : Nat} (h : 3 ≤ f) : zTake cr q n f = q f := by
  unfold zTake
  rw [zUp_n _ _ (by omega), zUp_n _ _ (by omega), zUp_n _ _ (by omega)]
theorem zTake_ok (hc : zCok n cr) (h : zRw n cr q) : zRw n cr (zTake cr q n) := zRw_mk
  (d := by rw [zTake_0]; exact zLst_ok hc h.t n (Nat.le_refl _))
  (nx := by rw [zTake_2]; exact zBest_nb hc)
  (b4 := by rw [zTake_n _ _ _ (by omega)]; exact h.b4)
  (b5 := by rw [zTake_n _ _ _ (by omega)]; exact h.b5)
  (t := fun j hj => by rw [zTake_n _ _ _ (by omega)]; exact h.t j hj)
  (w := fun j hj hn => by rw [zTake_n _ _ _ (by omega)]; exact h.w j hj hn)
theorem zRw_1 (h : zRw n cr q) (v : Int32) : zRw n cr (va_up q 1 v) := zRw_mk
  (d := by rw [zUp_n _ _ (by omega)]; exact h.d)
  (nx := by rw [zUp_n _ _ (by omega)]; exact h.nx)
  (b4 := by rw [zUp_n _ _ (by omega)]; exact h.b4)
  (b5 := by rw [zUp_n _ _ (by omega)]; exact h.b5)
  (t := fun j hj => by rw [zUp_n _ _ (by omega)]; exact h.t j hj)
  (w := fun j hj hn => by rw [zUp_n _ _ (by omega)]; exact h.w j hj hn)
theorem zRw_3 (h : zRw n cr q) (v : Int32) : zRw n cr (va_up q 3 v) := zRw_mk
  (d := by rw [zUp_n _ _ (by omega)]; exact h.d)
  (nx := by rw [zUp_n _ _ (by omega)]; exact h.nx)
  (b4 := by rw [zUp_n _ _ (by omega)]; exact h.b4)
  (b5 := by rw [zUp_n _ _ (by omega)]; exact h.b5)
  (t := fun j hj => by rw [zUp_n _ _ (by omega)]; exact h.t j hj)
  (w := fun j hj hn => by rw [zUp_n _ _ (by omega)]; exact h.w j hj hn)
theorem zRw_4 (h : zRw n cr q) {v : Int32} (hv : v = 0 ∨ v = 1) : zRw n cr (va_up q 4 v) := zRw_mk
  (d := by rw [zUp_n _ _ (by omega)]; exact h.d)
  (nx := by rw [zUp_n _ _ (by omega)]; exact h.nx)
  (b4 := by rw [zUp_s]; exact hv)
  (b5 := by rw [zUp_n _ _ (by omega)]; exact h.b5)
  (t := fun j hj => by rw [zUp_n _ _ (by omega)]; exact h.t j hj)
  (w := fun j hj hn => by rw [zUp_n _ _ (by omega)]; exact h.w j hj hn)
theorem zRw_5 (h : zRw n cr q) {v : Int32} (hv : v = 0 ∨ v = 1) : zRw n cr (va_up q 5 v) := zRw_mk
  (d := by rw [zUp_n _ _ (by omega)]; exact h.d)
  (nx := by rw [zUp_n _ _ (by omega)]; exact h.nx)
  (b4 := by rw [zUp_n _ _ (by omega)]; exact h.b4)
  (b5 := by rw [zUp_s]; exact hv)
  (t := fun j hj => by rw [zUp_n _ _ (by omega)]; exact h.t j hj)
  (w := fun j hj hn => by rw [zUp_n _ _ (by omega)]; exact h.w j hj hn)
theorem zRw_0 (h : zRw n cr q) {v : Int32} (hv : zDok v) : zRw n cr (va_up q 0 v) := zRw_mk
  (d := by rw [zUp_s]; exact hv)
  (nx := by rw [zUp_n _ _ (by omega)]; exact h.nx)
  (b4 := by rw [zUp_n _ _ (by omega)]; exact h.b4)
  (b5 := by rw [zUp_n _ _ (by omega)]; exact h.b5)
  (t := fun j hj => by rw [zUp_n _ _ (by omega)]; exact h.t j hj)
  (w := fun j hj hn => by rw [zUp_n _ _ (by omega)]; exact h.w j hj hn)
theorem zRw_t (hn : n ≤ 6) (h : zRw n cr q) {i : Nat} (hi : i < n) {v : Int32} (hv : zDok v) : zRw n cr (va_up q (10 + i) v) := zRw_mk
  (d := by rw [zUp_n _ _ (by omega)]; exact h.d)
  (nx := by rw [zUp_n _ _ (by omega)]; exact h.nx)
  (b4 := by rw [zUp_n _ _ (by omega)]; exact h.b4)
  (b5 := by rw [zUp_n _ _ (by omega)]; exact h.b5)
  (t := fun j hj => by
    by_cases e : j = i
    · subst e; rw [zUp_s]; exact hv
    · rw [zUp_n _ _ (by omega)]; exact h.t j hj)
  (w := fun j hj hn => by rw [zUp_n _ _ (by omega)]; exact h.w j hj hn)
theorem zRw_w0 (h : zRw n cr q) {i : Nat} (hi : i < n) (hn : n ≤ 6) : zRw n cr (va_up q (20 + i) 0) := zRw_mk
  (d := by rw [zUp_n _ _ (by omega)]; exact h.d)
  (nx := by rw [zUp_n _ _ (by omega)]; exact h.nx)
  (b4 := by rw [zUp_n _ _ (by omega)]; exact h.b4)
  (b5 := by rw [zUp_n _ _ (by omega)]; exact h.b5)
  (t := fun j hj => by rw [zUp_n _ _ (by omega)]; exact h.t j hj)
  (w := fun j hj hn => by
    by_cases e : j = i
    · subst e; rw [zUp_s]
    · rw [zUp_n _ _ (by omega)]; exact h.w j hj hn)
theorem zAwait_ok (hn : n ≤ 6) (h : zRw n cr q) : zRw n cr (zAwait cr q n) := zRw_mk
  (d := by rw [zAwait_lo _ _ (by omega)]; exact h.d)
  (nx := by rw [zAwait_lo _ _ (by omega)]; exact h.nx)
  (b4 := by rw [zAwait_lo _ _ (by omega)]; exact h.b4)
  (b5 := by rw [zAwait_lo _ _ (by omega)]; exact h.b5)
  (t := fun j hj => by rw [zAwait_lo _ _ (by omega)]; exact h.t j hj)
  (w := fun j hj hn => by rw [zAwait_at, if_neg (fun c => hn c.2)]; exact h.w j hj hn)
theorem zMeas_ok (hn : n ≤ 6) (hc : zCok n cr) (h : zRw n cr q) : zRw n cr (zMeas cr q) := zRw_0 (zRw_5 h (Or.inl rfl)) (zThrX_ok hn hc h.t (zNe_ix h.nx))
theorem zGrow_ok (h : zRw n cr q) (x : Int32) : zRw n cr (zGrow cr q x) := by
  unfold zGrow
  by_cases c : x = q 2 ∧ q 0 < zThrX cr q x
  · rw [if_pos c]; exact zRw_5 h (Or.inr rfl)
  · rw [if_neg c]; exact h
theorem zCalm_ok (h : zRw n cr q) : zRw n cr (zCalm q) := zRw_5 (zRw_4 (zRw_3 h 0) (Or.inl rfl)) (Or.inl rfl)
theorem zCalm_3 (q : zR) : zCalm q 3 = 0 := by
  unfold zCalm
  rw [zUp_n _ _ (by omega), zUp_n _ _ (by omega), zUp_s]
theorem zAk_01 (x : Int32) (q : zR) : zAk x q = 0 ∨ zAk x q = 1 := by
  unfold zAk
  by_cases a : x = -1
  · rw [if_pos a]; exact Or.inl rfl
  · rw [if_neg a]
    by_cases b : x = q 2
    · rw [if_pos b]; exact Or.inr rfl
    · rw [if_neg b]; exact Or.inl rfl
theorem zLk_ok (hn : n ≤ 6) (hc : zCok n cr) (h : zRw n cr q) {x : Int32} (hx : zNe n cr x) : zRw n cr (zLk cr q n x).1 ∧ zOu n cr (zLk cr q n x).2 := by
  have hl := zLst_ok hc h.t n (Nat.le_refl _)
  have ht := zThrX_ok hn hc h.t (zNe_ix h.nx)
  unfold zLk
  by_cases c : zFn cr q n
  · rw [if_pos c]
    refine ⟨zTake_ok hc h, zOu_app (zOu_one hn hx hl) ?_⟩
    by_cases e : zLst cr q n = q 0
    · rw [if_pos e]; exact zOu_nil n cr
    · rw [if_neg e]; exact zOu_tell cr x (by decide) hl
  · rw [if_neg c]
    refine ⟨zAwait_ok hn (zMeas_ok hn hc (zRw_4 (zRw_3 h 1) (zAk_01 x q))), zOu_app ?_ (zOu_tell cr (-1) (by decide) ht)⟩
    by_cases e : zAk x q = 0
    · rw [if_pos e]; exact zOu_one hn hx ht
    · rw [if_neg e]; exact zOu_nil n cr
theorem zQ1_ok (h : zRw n cr q) : zRw n cr (if q 5 = 0 then va_up q 1 10000 else q) := by
  by_cases c : q 5 = 0
  · rw [if_pos c]; exact zRw_1 h _
  · rw [if_neg c]; exact h
theorem zE1_ok (hn : n ≤ 6) (hc : zCok n cr) (h : zRw n cr q) : zRw n cr (zE1 cr q n).1 ∧ zOu n cr (zE1 cr q n).2 := by
  have h' := zQ1_ok h
  have hl := zLst_ok hc h'.t n (Nat.le_refl _)
  have ht := zThrX_ok hn hc h.t (zNe_ix h.nx)
  have hx : zNe n cr (if q 4 = 0 then -1 else q 2) := by
    by_cases c : q 4 = 0
    · rw [if_pos c]; exact Or.inl rfl
    · rw [if_neg c]; exact h.nx
  unfold zE1
  by_cases c : zFn cr (if q 5 = 0 then va_up q 1 10000 else q) n
  · rw [if_pos c]
    exact ⟨zCalm_ok (zTake_ok hc h'), zOu_app (zOu_one hn hx hl) (zOu_tell cr _ (by decide) hl)⟩
  · rw [if_neg c]
    exact ⟨zAwait_ok hn (zMeas_ok hn hc h'), zOu_tell cr (-1) (by decide) ht⟩
theorem zE1_fine (hf : zFn cr (if q 5 = 0 then va_up q 1 10000 else q) n) : (zE1 cr q n).1 3 = 0 := by
  unfold zE1
  rw [if_pos hf]
  exact zCalm_3 (zTake cr (if q 5 = 0 then va_up q 1 10000 else q) n)
theorem zEd_ok (hn : n ≤ 6) (hc : zCok n cr) (h : zRw n cr q) : zRw n cr (zEd cr q n).1 ∧ zOu n cr (zEd cr q n).2 ∧ zBw n (zEd cr q n).1 := by
  obtain ⟨a1, a2⟩ := zE1_ok hn hc h
  obtain ⟨b1, b2⟩ := zE1_ok hn hc a1
  unfold zEd
  by_cases c : q 3 = 0
  · rw [if_pos c]; exact ⟨h, zOu_nil n cr, fun x => absurd c x⟩
  · rw [if_neg c]
    by_cases w : zWt q n = 0
    · rw [if_pos w]
      by_cases c2 : (zE1 cr q n).1 3 = 0
      · rw [if_pos c2]; exact ⟨a1, a2, fun x => absurd c2 x⟩
      · rw [if_neg c2]
        by_cases w2 : zWt (zE1 cr q n).1 n = 0
        · rw [if_pos w2]
          refine ⟨b1, zOu_app a2 b2, fun x => absurd (zE1_fine ?_) x⟩
          have hf : ¬ zFn cr (if q 5 = 0 then va_up q 1 10000 else q) n := fun f => c2 (zE1_fine f)
          have e5 := (zE1_5 cr q n hf).1
          have ew : (zE1 cr q n).1 = zAwait cr (zMeas cr (if q 5 = 0 then va_up q 1 10000 else q)) n := by
            unfold zE1
            rw [if_neg hf]
          have hnl : (zNb cr (-1) n).length = 0 := by
            rw [ew] at w2
            exact (zWt_await (by omega) (fun j hj hz => (zMeas_ok hn hc (zQ1_ok h)).w j hj hz)).mp w2
          exact zFn_lone (by omega) (fun j hj => zCok_nn hc hj) hnl e5
        · rw [if_neg w2]; exact ⟨a1, a2, fun _ => w2⟩
    · rw [if_neg w]; exact ⟨h, zOu_nil n cr, fun _ => w⟩
theorem zLE_ok (hn : n ≤ 6) (hc : zCok n cr) (h : zRw n cr q) {x : Int32} (hx : zNe n cr x) : zRw n cr (zLE cr q n x).1 ∧ zOu n cr (zLE cr q n x).2 ∧ zBw n (zLE cr q n x).1 := by
  obtain ⟨a1, a2⟩ := zLk_ok hn hc h hx
  obtain ⟨b1, b2, b3⟩ := zEd_ok hn hc a1
  exact ⟨b1, zOu_app a2 b2, b3⟩
theorem zHr_ok (hn : n ≤ 6) (hc : zCok n cr) (h : zRw n cr q) {fr kd : Nat} (hfr : fr < n) (hp : 0 < cr fr) : zRw n cr (zHr cr q n fr kd).1 ∧ zOu n cr (zHr cr q n fr kd).2 ∧ zBw n (zHr cr q n fr kd).1 := by
  unfold zHr
  by_cases c : q 3 = 0
  · rw [if_pos c]
    refine zLE_ok hn hc h (x := if kd = 1 then nI fr else -1) ?_
    by_cases k : kd = 1
    · rw [if_pos k]; exact Or.inr ⟨fr, hfr, rfl, hp⟩
    · rw [if_neg k]; exact Or.inl rfl
  · rw [if_neg c]
    by_cases k : kd = 1
    · rw [if_pos k]
      by_cases e : nI fr = q 2
      · rw [if_pos e]; exact zEd_ok hn hc (zRw_5 (zRw_4 h (Or.inr rfl)) (Or.inr rfl))
      · rw [if_neg e]
        obtain ⟨b1, b2, b3⟩ := zEd_ok hn hc h
        refine ⟨b1, zOu_app (fun y hy => ?_) b2, b3⟩
        rw [List.mem_singleton.mp hy]
        exact ⟨hfr, hp, (by decide : 2 < 3), h.d⟩
    · rw [if_neg k]
      refine zEd_ok hn hc (zGrow_ok ?_ _)
      by_cases k2 : kd = 2
      · rw [if_pos k2]; exact zRw_w0 h hfr hn
      · rw [if_neg k2]; exact h
theorem zRw_mono {cr' : Nat → Int32} (h : zRw n cr q) (hm : ∀ j, j < n → 0 < cr j → 0 < cr' j) : zRw n cr' q := zRw_mk
  (d := h.d)
  (nx := h.nx.imp id (fun ⟨j, hj, e, hp⟩ => ⟨j, hj, e, hm j hj hp⟩))
  (b4 := h.b4)
  (b5 := h.b5)
  (t := h.t)
  (w := fun j hj hz => h.w j hj (fun hp => hz (hm j hj hp)))
theorem zForget_ok {cr' : Nat → Int32} (hn : n ≤ 6) (h : zRw n cr q) {o : Nat} (ho : o < n) (hm : ∀ j, j < n → j ≠ o → 0 < cr j → 0 < cr' j) : zRw n cr' (zForget q o) := by
  have h1 : ∀ q' : zR, zDok (q' 0) → (q' 4 = 0 ∨ q' 4 = 1) → (q' 5 = 0 ∨ q' 5 = 1) → zNe n cr' (q' 2) → (∀ j, j < n → q' (10 + j) = (va_up q (10 + o) 10000) (10 + j)) → (∀ j, j < n → q' (20 + j) = va_up q (20 + o) 0 (20 + j)) → zRw n cr' q' := by
    intro q' d b4 b5 nx t w
    refine ⟨d, nx, b4, b5, fun j hj => ?_, fun j hj hz => ?_⟩
    · rw [t j hj]
      by_cases e : j = o
      · subst e; rw [zUp_s]; exact zDok_far
      · rw [zUp_n _ _ (by omega)]; exact h.t j hj
    · rw [w j hj]
      by_cases e : j = o
      · subst e; rw [zUp_s]
      · rw [zUp_n _ _ (by omega)]; exact h.w j hj (fun hp => hz (hm j hj e hp))
  unfold zForget
  by_cases e : nI o = q 2
  · rw [if_pos e]
    by_cases c : q 3 = 0
    · rw [if_pos c]
      refine h1 _ ?_ ?_ ?_ ?_ (fun j hj => ?_) (fun j hj => ?_)
      · rw [zUp_n _ _ (by omega), zUp_n _ _ (by omega), zUp_n _ _ (by omega)]; exact h.d
      · rw [zUp_n _ _ (by omega), zUp_n _ _ (by omega), zUp_n _ _ (by omega)]; exact h.b4
      · rw [zUp_n _ _ (by omega), zUp_n _ _ (by omega), zUp_n _ _ (by omega)]; exact h.b5
      · rw [zUp_s]; exact Or.inl rfl
      · rw [zUp_n _ _ (by omega), zUp_n _ _ (by omega)]
      · rw [zUp_n _ _ (by omega)]
        unfold va_up
        by_cases g : 20 + j = 20 + o
        · rw [if_pos g, if_pos g]
        · rw [if_neg g, if_neg g, if_neg (by omega)]
    · rw [if_neg c]
      refine h1 _ ?_ ?_ ?_ ?_ (fun j hj => ?_) (fun j hj => ?_)
      · rw [zUp_n _ _ (by omega), zUp_n _ _ (by omega), zUp_n _ _ (by omega), zUp_n _ _ (by omega), zUp_n _ _ (by omega)]; exact h.d
      · rw [zUp_n _ _ (by omega), zUp_s]; exact Or.inl rfl
      · rw [zUp_s]
        by_cases g : q 5 = 0 ∧ q 0 = 10000
        · rw [if_pos g]; exact Or.inl rfl
        · rw [if_neg g]; exact Or.inr rfl
      · rw [zUp_n _ _ (by omega), zUp_n _ _ (by omega), zUp_s]; exact Or.inl rfl
      · rw [zUp_n _ _ (by omega), zUp_n _ _ (by omega), zUp_n _ _ (by omega), zUp_n _ _ (by omega)]
      · rw [zUp_n _ _ (by omega), zUp_n _ _ (by omega), zUp_n _ _ (by omega)]
        unfold va_up
        by_cases g : 20 + j = 20 + o
        · rw [if_pos g, if_pos g]
        · rw [if_neg g, if_neg g, if_neg (by omega)]
  · rw [if_neg e]
    refine h1 _ ?_ ?_ ?_ ?_ (fun j hj => ?_) (fun j hj => ?_)
    · rw [zUp_n _ _ (by omega), zUp_n _ _ (by omega)]; exact h.d
    · rw [zUp_n _ _ (by omega), zUp_n _ _ (by omega)]; exact h.b4
    · rw [zUp_n _ _ (by omega), zUp_n _ _ (by omega)]; exact h.b5
    · rw [zUp_n _ _ (by omega), zUp_n _ _ (by omega)]
      exact h.nx.imp id (fun ⟨j, hj, ej, hp⟩ => ⟨j, hj, ej, hm j hj (fun g => e (by rw [ej, g])) hp⟩)
    · rw [zUp_n _ _ (by omega)]
    · unfold va_up
      by_cases g : 20 + j = 20 + o
      · rw [if_pos g, if_pos g]
      · rw [if_neg g, if_neg g, if_neg (by omega)]
end ZI
