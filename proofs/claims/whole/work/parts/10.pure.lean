/-! The mathematics. A route is a function: 0 distance, 1 limit, 2 next, 3 busy, 4 asked, 5 grown, 10+j told by j, 20+j waits for j.
A letter: from, to, kind, target, distance. cr j: the cost of the link to j (0: none). n: how many routers. -/
abbrev zR : Type := Nat → Int32
abbrev zL : Type := Nat × Nat × Nat × Nat × Int32
abbrev zO : Type := Nat × Nat × Int32
def zThr (cr : Nat → Int32) (q : zR) (j : Nat) : Int32 := if cr j = 0 then 10000 else if q (10 + j) + cr j < 10000 then q (10 + j) + cr j else 10000
def zThrX (cr : Nat → Int32) (q : zR) (x : Int32) : Int32 := if x < 0 then 10000 else zThr cr q x.toNatClampNeg
def zLst (cr : Nat → Int32) (q : zR) : Nat → Int32
  | 0 => 10000
  | i + 1 => if zThr cr q i < zLst cr q i then zThr cr q i else zLst cr q i
def zSrv (cr : Nat → Int32) (q : zR) (far : Int32) (j : Nat) : Prop := q (10 + j) < q 1 ∧ zThr cr q j = far
def zBst (cr : Nat → Int32) (q : zR) (far : Int32) : Nat → Int32
  | 0 => -1
  | i + 1 => if (q (10 + i) < q 1 ∧ zThr cr q i = far) ∧ (zBst cr q far i = -1 ∨ nI i = q 2) then nI i else zBst cr q far i
def zBest (cr : Nat → Int32) (q : zR) (n : Nat) : Int32 := if zLst cr q n = 10000 then -1 else zBst cr q (zLst cr q n) n
def zFine (cr : Nat → Int32) (q : zR) (n : Nat) : Prop := (zLst cr q n = 10000 ∧ q 1 = 10000) ∨ (¬ zLst cr q n = 10000 ∧ ¬ zBest cr q n = -1)
def zTake (cr : Nat → Int32) (q : zR) (n : Nat) : zR := va_up (va_up (va_up q 2 (zBest cr q n)) 0 (zLst cr q n)) 1 (if zLst cr q n < q 1 then zLst cr q n else q 1)
/-- the neighbours below i, but one, in order -/
def zNb (cr : Nat → Int32) (but : Int32) : Nat → List Nat
  | 0 => []
  | i + 1 => if 0 < cr i ∧ ¬ nI i = but then zNb cr but i ++ [i] else zNb cr but i
def zAwait (cr : Nat → Int32) (q : zR) : Nat → zR
  | 0 => q
  | i + 1 => if 0 < cr i then va_up (zAwait cr q i) (20 + i) 1 else zAwait cr q i
def zTell (L : List Nat) (kd : Nat) (d : Int32) : List zO := L.map (fun j => (j, kd, d))
def zMeas (cr : Nat → Int32) (q : zR) : zR := va_up (va_up q 5 0) 0 (zThrX cr q (q 2))
def zGrow (cr : Nat → Int32) (q : zR) (x : Int32) : zR := if x = q 2 ∧ q 0 < zThrX cr q x then va_up q 5 1 else q
def zCalm (q : zR) : zR := va_up (va_up (va_up q 3 0) 4 0) 5 0
def zOne (x : Int32) (kd : Nat) (d : Int32) : List zO := if x = -1 then [] else [(x.toNatClampNeg, kd, d)]
/-- what the mail becomes -/
def zPush (k : Nat) (o : List zO) (L : List zL) : List zL := L ++ o.map (fun x => (k / 6, x.1, x.2.1, k % 6, x.2.2))
def zCnt (o : List zO) (se : Nat → Int32) : Nat → Int32 := o.foldl (fun f x => va_up f x.2.1 (f x.2.1 + 1)) se
theorem zPush_nil (k : Nat) (L : List zL) : zPush k [] L = L := by simp [zPush]
theorem zPush_app (k : Nat) (o1 o2 : List zO) (L : List zL) : zPush k (o1 ++ o2) L = zPush k o2 (zPush k o1 L) := by simp [zPush]
theorem zPush_len (k : Nat) (o : List zO) (L : List zL) : (zPush k o L).length = L.length + o.length := by simp [zPush]
theorem zCnt_app (o1 o2 : List zO) (se : Nat → Int32) : zCnt (o1 ++ o2) se = zCnt o2 (zCnt o1 se) := by simp [zCnt]
theorem zNb_len (cr : Nat → Int32) (but : Int32) : ∀ i, (zNb cr but i).length ≤ i
  | 0 => Nat.le_refl _
  | i + 1 => by
    have h := zNb_len cr but i
    unfold zNb
    by_cases c : 0 < cr i ∧ ¬ nI i = but
    · rw [if_pos c]; simp; omega
    · rw [if_neg c]; omega
theorem zNb_lt (cr : Nat → Int32) (but : Int32) : ∀ i j, j ∈ zNb cr but i → j < i
  | 0, j, h => by simp [zNb] at h
  | i + 1, j, h => by
    unfold zNb at h
    by_cases c : 0 < cr i ∧ ¬ nI i = but
    · rw [if_pos c] at h
      rcases List.mem_append.mp h with h | h
      · have := zNb_lt cr but i j h; omega
      · have := List.mem_singleton.mp h; omega
    · rw [if_neg c] at h
      have := zNb_lt cr but i j h; omega
theorem zUp_eta {α : Type} (f : Nat → α) (k : Nat) : va_up f k (f k) = f := by
  funext j
  unfold va_up
  by_cases h : j = k
  · rw [if_pos h, h]
  · rw [if_neg h]
theorem zUp_s {α : Type} (f : Nat → α) (k : Nat) (v : α) : va_up f k v k = v := by simp [va_up]
theorem zUp_n {α : Type} (f : Nat → α) {k j : Nat} (v : α) (h : j ≠ k) : va_up f k v j = f j := by simp [va_up, h]
theorem zUp_uu {α : Type} (f : Nat → α) (k : Nat) (v w : α) : va_up (va_up f k v) k w = va_up f k w := by
  funext j
  unfold va_up
  by_cases h : j = k
  · rw [if_pos h, if_pos h]
  · rw [if_neg h, if_neg h, if_neg h]
theorem zUp_comm {α : Type} (f : Nat → α) {i j : Nat} (v w : α) (h : i ≠ j) : va_up (va_up f i v) j w = va_up (va_up f j w) i v := by
  funext x
  unfold va_up
  by_cases h1 : x = j
  · rw [if_pos h1]
    by_cases h2 : x = i
    · exact absurd (h2.symm.trans h1) h
    · rw [if_neg h2, if_pos h1]
  · rw [if_neg h1]
    by_cases h2 : x = i
    · rw [if_pos h2, if_pos h2]
    · rw [if_neg h2, if_neg h2, if_neg h1]
