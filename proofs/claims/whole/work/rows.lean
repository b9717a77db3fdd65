section
/-! The mathematics. A route is a function: 0 distance, 1 limit, 2 next, 3 busy, 4 asked, 5 grown, 10+j told by j, 20+j waits for j.
A letter: from, to, kind, target, distance. cr j: the cost of the link to j (0: none). n: how many routers. -/
abbrev zR : Type := Nat → Int32
abbrev zL : Type := Nat × Nat × Nat × Nat × Int32
abbrev zO : Type := Nat × Nat × Int32
def zThr (cr : Nat → Int32) (q : zR) (j : Nat) : Int32 := if cr j = 0 then 10000 else if q (10 + j) + cr j < 10000 then q (10 + j) + cr j else 10000
def zThrX (cr : Nat → Int32) (q : zR) (x : Int32) : Int32 := if x < 0 then 10000 else zThr cr q x.toNatClampNeg
def zLst (cr : Nat → Int32) (q : zR) : Nat → Int32
  | 0 => 10000
  | i + 1 => if zThr cr q i < zLst cr q i then zThr cr q i else zLst cr q i
def zSrv (cr : Nat → Int32) (q : zR) (far : Int32) (j : Nat) : Prop := q (10 + j) < q 1 ∧ zThr cr q j = far
def zBst (cr : Nat → Int32) (q : zR) (far : Int32) : Nat → Int32
  | 0 => -1
  | i + 1 => if (q (10 + i) < q 1 ∧ zThr cr q i = far) ∧ (zBst cr q far i = -1 ∨ nI i = q 2) then nI i else zBst cr q far i
def zBest (cr : Nat → Int32) (q : zR) (n : Nat) : Int32 := if zLst cr q n = 10000 then -1 else zBst cr q (zLst cr q n) n
def zFine (cr : Nat → Int32) (q : zR) (n : Nat) : Prop := (zLst cr q n = 10000 ∧ q 1 = 10000) ∨ (¬ zLst cr q n = 10000 ∧ ¬ zBest cr q n = -1)
def zTake (cr : Nat → Int32) (q : zR) (n : Nat) : zR := va_up (va_up (va_up q 2 (zBest cr q n)) 0 (zLst cr q n)) 1 (if zLst cr q n < q 1 then zLst cr q n else q 1)
/-- the neighbours below i, but one, in order -/
def zNb (cr : Nat → Int32) (but : Int32) : Nat → List Nat
  | 0 => []
  | i + 1 => if 0 < cr i ∧ ¬ nI i = but then zNb cr but i ++ [i] else zNb cr but i
def zAwait (cr : Nat → Int32) (q : zR) : Nat → zR
  | 0 => q
  | i + 1 => if 0 < cr i then va_up (zAwait cr q i) (20 + i) 1 else zAwait cr q i
def zTell (L : List Nat) (kd : Nat) (d : Int32) : List zO := L.map (fun j => (j, kd, d))
def zMeas (cr : Nat → Int32) (q : zR) : zR := va_up (va_up q 5 0) 0 (zThrX cr q (q 2))
def zGrow (cr : Nat → Int32) (q : zR) (x : Int32) : zR := if x = q 2 ∧ q 0 < zThrX cr q x then va_up q 5 1 else q
def zCalm (q : zR) : zR := va_up (va_up (va_up q 3 0) 4 0) 5 0
def zOne (x : Int32) (kd : Nat) (d : Int32) : List zO := if x = -1 then [] else [(x.toNatClampNeg, kd, d)]
/-- what the mail becomes -/
def zPush (k : Nat) (o : List zO) (L : List zL) : List zL := L ++ o.map (fun x => (k / 6, x.1, x.2.1, k % 6, x.2.2))
def zCnt (o : List zO) (se : Nat → Int32) : Nat → Int32 := o.foldl (fun f x => va_up f x.2.1 (f x.2.1 + 1)) se
theorem zPush_nil (k : Nat) (L : List zL) : zPush k [] L = L := by simp [zPush]
theorem zPush_app (k : Nat) (o1 o2 : List zO) (L : List zL) : zPush k (o1 ++ o2) L = zPush k o2 (zPush k o1 L) := by simp [zPush]
theorem zPush_len (k : Nat) (o : List zO) (L : List zL) : (zPush k o L).length = L.length + o.length := by simp [zPush]
theorem zCnt_app (o1 o2 : List zO) (se : Nat → Int32) : zCnt (o1 ++ o2) se = zCnt o2 (zCnt o1 se) := by simp [zCnt]
theorem zNb_len (cr : Nat → Int32) (but : Int32) : ∀ i, (zNb cr but i).length ≤ i
  | 0 => Nat.le_refl _
  | i + 1 => by
    have h := zNb_len cr but i
    unfold zNb
    by_cases c : 0 < cr i ∧ ¬ nI i = but
    · rw [if_pos c]; simp; omega
    · rw [if_neg c]; omega
theorem zNb_lt (cr : Nat → Int32) (but : Int32) : ∀ i j, j ∈ zNb cr but i → j < i
  | 0, j, h => by simp [zNb] at h
  | i + 1, j, h => by
    unfold zNb at h
    by_cases c : 0 < cr i ∧ ¬ nI i = but
    · rw [if_pos c] at h
      rcases List.mem_append.mp h with h | h
      · have := zNb_lt cr but i j h; omega
      · have := List.mem_singleton.mp h; omega
    · rw [if_neg c] at h
      have := zNb_lt cr but i j h; omega
theorem zUp_eta {α : Type} (f : Nat → α) (k : Nat) : va_up f k (f k) = f := by
  funext j
  unfold va_up
  by_cases h : j = k
  · rw [if_pos h, h]
  · rw [if_neg h]
theorem zUp_s {α : Type} (f : Nat → α) (k : Nat) (v : α) : va_up f k v k = v := by simp [va_up]
theorem zUp_n {α : Type} (f : Nat → α) {k j : Nat} (v : α) (h : j ≠ k) : va_up f k v j = f j := by simp [va_up, h]
theorem zUp_uu {α : Type} (f : Nat → α) (k : Nat) (v w : α) : va_up (va_up f k v) k w = va_up f k w := by
  funext j
  unfold va_up
  by_cases h : j = k
  · rw [if_pos h, if_pos h]
  · rw [if_neg h, if_neg h, if_neg h]
theorem zUp_comm {α : Type} (f : Nat → α) {i j : Nat} (v w : α) (h : i ≠ j) : va_up (va_up f i v) j w = va_up (va_up f j w) i v := by
  funext x
  unfold va_up
  by_cases h1 : x = j
  · rw [if_pos h1]
    by_cases h2 : x = i
    · exact absurd (h2.symm.trans h1) h
    · rw [if_neg h2, if_pos h1]
  · rw [if_neg h1]
    by_cases h2 : x = i
    · rw [if_pos h2, if_pos h2]
    · rw [if_neg h2, if_neg h2, if_neg h1]
end
section
/-! Rows over a world by keys: a key is a kind and a number; ad: where its cell lies, ct: what it holds. Contracts zC with one list of words Ts for all methods. -/
abbrev zK : Type := Nat × Nat
abbrev zW (ks : List zK) (ad : zK → Nat) (ct : zK → va_E) : va_W := ks.map (fun k => (ad k, ct k))
def zGood (Ts : List Cond) : Prop := ∀ w ∈ Ts, ((w.onTables && w.keeps) = true ∨ ∃ ty, w = .arrayClass ty)
theorem zW_at {ks : List zK} {ad : zK → Nat} {ct : zK → va_E} {k : zK} (hk : k ∈ ks) : ∃ q : Nat, ks[q]? = some k ∧ (zW ks ad ct)[q]? = some (ad k, ct k) := by
  obtain ⟨q, hq⟩ := List.getElem?_of_mem hk
  exact ⟨q, hq, by rw [List.getElem?_map, hq]; rfl⟩
theorem zW_set {ks : List zK} {ad : zK → Nat} {ct ct' : zK → va_E} {A : Nat → Prop} {k0 : zK} {q : Nat} {e : va_E} (hD : va_D A (zW ks ad ct)) (hq : ks[q]? = some k0) (he : ct' k0 = e) (ho : ∀ k, k ∈ ks → k ≠ k0 → ct' k = ct k) : (zW ks ad ct).set q (ad k0, e) = zW ks ad ct' := by
  apply List.ext_getElem?
  intro i
  have hq' : (zW ks ad ct)[q]? = some (ad k0, ct k0) := by rw [List.getElem?_map, hq]; rfl
  by_cases hi : i = q
  · subst hi
    rw [List.getElem?_set_self (List.getElem?_eq_some_iff.mp hq').1, List.getElem?_map, hq, ← he]
    rfl
  · rw [List.getElem?_set_ne (Ne.symm hi), List.getElem?_map, List.getElem?_map]
    cases hk : ks[i]? with
    | none => rfl
    | some k =>
      have hne : k ≠ k0 := fun h => hi (hD.1 i q (ad k, ct k) (ad k0, ct k0) (by rw [List.getElem?_map, hk]; rfl) hq' (by rw [h]))
      show some (ad k, ct k) = some (ad k, ct' k)
      rw [ho k (List.mem_of_getElem? hk) hne]
theorem zW_to {ks : List zK} {ad : zK → Nat} {ct ct' : zK → va_E} (h : ∀ k, k ∈ ks → ct k = ct' k) : zW ks ad ct = zW ks ad ct' := by
  apply List.map_congr_left
  intro k hk
  rw [h k hk]
theorem zD_to {ks : List zK} {ad : zK → Nat} {ct ct' : zK → va_E} {A : Nat → Prop} (hD : va_D A (zW ks ad ct)) : va_D A (zW ks ad ct') := by
  have key : ∀ (i : Nat) (x : Nat × va_E), (zW ks ad ct')[i]? = some x → ∃ y, (zW ks ad ct)[i]? = some y ∧ y.1 = x.1 := by
    intro i x hx
    rw [List.getElem?_map] at hx
    cases hk : ks[i]? with
    | none => rw [hk] at hx; cases hx
    | some k =>
      rw [hk] at hx
      cases hx
      exact ⟨(ad k, ct k), by rw [List.getElem?_map, hk]; rfl, rfl⟩
  refine ⟨fun i j x y hi hj hxy => ?_, fun k x hx => ?_⟩
  · obtain ⟨x0, h1, h2⟩ := key i x hi
    obtain ⟨y0, h3, h4⟩ := key j y hj
    exact hD.1 i j x0 y0 h1 h3 (h2.trans (hxy.trans h4.symm))
  · obtain ⟨x0, h1, h2⟩ := key k x hx
    rw [← h2]
    exact hD.2 k x0 h1
/-- the world: the cell of key j holds E j of its own row of numbers -/
abbrev zS : Type := Nat → Nat → Nat → Int32
def zs (s : zS) (a k i : Nat) (v : Int32) : zS := fun a' k' i' => if a' = a ∧ k' = k ∧ i' = i then v else s a' k' i'
def zV (D : va_G) (cl : List vw_C) (ks : List zK) (ad : zK → Nat) (E : zK → (Nat → Int32) → va_E) (st : zS) (H : Heap) : Prop := va_P D cl (zW ks ad (fun j => E j (st j.1 j.2))) H
def zD (A : Nat → Prop) (ks : List zK) (ad : zK → Nat) : Prop := ∀ ct, va_D A (zW ks ad ct)
abbrev zOut (x : Int32) (n : Nat) : Prop := x < 0 ∨ n ≤ x.toNatClampNeg
theorem zs_row (st : zS) (a k i : Nat) (v : Int32) : zs st a k i v a k = va_up (st a k) i v := by
  funext j
  unfold zs va_up
  by_cases h : j = i
  · rw [if_pos ⟨rfl, rfl, h⟩, if_pos h]
  · rw [if_neg (fun c => h c.2.2), if_neg h]
theorem zs_off (st : zS) (a k i : Nat) (v : Int32) {a' k' : Nat} (h : (a', k') ≠ (a, k)) : zs st a k i v a' k' = st a' k' := by
  funext j
  unfold zs
  rw [if_neg (fun c => h (by rw [c.1, c.2.1]))]
section ZRA
variable {p : Program} {l : Launch} {e : Env} {R : Room} {s : State} {m : MethodId} {args : Array Value} {below : List Frame} {meth : Method} {c : Code} {H : Heap} {locs : List Loc} {cells slots : Nat} {Q : State → Prop}
variable {cc : ByteArray} {pc nL : Nat} {ls : Array Slot} {rest : List Value} {D : va_G} {cl : List vw_C} {A : Nat → Prop} {tys : List (ClassId × FieldType)} {H0 : Heap} {Ts : List Cond} {own : String} {ks : List zK} {ad : zK → Nat} {E : zK → (Nat → Int32) → va_E} {st : zS}
theorem zV_at (hP : zV D cl ks ad E st H) {a k : Nat} (hk0 : (a, k) ∈ ks) {x : va_E} (he : E (a, k) (st a k) = x) : ∃ q : Nat, ks[q]? = some (a, k) ∧ (zW ks ad (fun j => E j (st j.1 j.2)))[q]? = some (ad (a, k), x) := by
  obtain ⟨q, h1, h2⟩ := zW_at (ad := ad) (ct := fun j => E j (st j.1 j.2)) hk0
  refine ⟨q, h1, ?_⟩
  rw [h2]
  show some (ad (a, k), E (a, k) (st a k)) = _
  rw [he]
theorem zV_set (hD : zD A ks ad) {a k i : Nat} {v : Int32} {q : Nat} {x : va_E} (hq : ks[q]? = some (a, k)) (he : E (a, k) (va_up (st a k) i v) = x) (hP : va_P D cl ((zW ks ad (fun j => E j (st j.1 j.2))).set q (ad (a, k), x)) H) : zV D cl ks ad E (zs st a k i v) H := by
  rw [zW_set (ct' := fun j => E j (zs st a k i v j.1 j.2)) (hD _) hq (by show E (a, k) (zs st a k i v a k) = x; rw [zs_row]; exact he) (fun j _ hne => by
    show E j (zs st a k i v j.1 j.2) = E j (st j.1 j.2)
    rw [zs_off st a k i v (a' := j.1) (k' := j.2) hne])] at hP
  exact hP
theorem zr_top {x y : Int32} (h : x = y) (k : W p l e R s m args below meth c H locs cells slots Q (F0 m pc ls (.int y :: rest))) : W p l e R s m args below meth c H locs cells slots Q (F0 m pc ls (.int x :: rest)) := by rw [h]; exact k
theorem zr_get (S : CallFix p m c cc nL s args Ts own) {C : String} {T : u_T} {N ci index : Nat} (hin : ∀ w ∈ u_ws C T N, w ∈ Ts) (hK : va_K D cl tys s) (hP : zV D cl ks ad E st H) {a kn : Nat} (hk0 : (a, kn) ∈ ks) {fs : List Value} (he : E (a, kn) (st a kn) = .inr (ci, fs)) (hc : cl[ci]? = some (C, T, N)) (k : Nat) (hk : k < N) (hlink : Cond.fieldLink own index (T k).1 (T k).2.1 (T k).2.2.1 ∈ Ts) {v : Value} (hv : fs[k]? = some v) (hdg : decode cc pc = .ok (.getfield index, 3))
    (kk : W p l e R s m args below meth c H locs cells slots Q (F0 m (pc + 3) ls (v :: rest))) : W p l e R s m args below meth c H locs cells slots Q (F0 m pc ls (.ref (ad (a, kn)) :: rest)) := by
  obtain ⟨q, -, hq⟩ := zV_at hP hk0 he
  exact va_get S.1 S.2.1 S.2.2.2.2 hin S.2.2.2.1 hK hP q hq hc k hk (S.2.2.2.2 _ hlink) (fun _ h => h) hv hdg kk
theorem zr_put (S : CallFix p m c cc nL s args Ts own) {C : String} {T : u_T} {N ci index : Nat} (hin : ∀ w ∈ u_ws C T N, w ∈ Ts) (ty0 : Nat → FieldType) (hty : ∀ k, k < N → parseFieldDescriptor (T k).2.2.1 = some (ty0 k)) (hnm : ∀ a, a < N → ∀ b, b < N → a ≠ b → (T a).2.1 ≠ (T b).2.1) (hK : va_K D cl tys s) (hP : zV D cl ks ad E st H) (hD : zD A ks ad) (hS : va_S A H0 H locs) {a kn : Nat} (hk0 : (a, kn) ∈ ks) {fs : List Value} (he : E (a, kn) (st a kn) = .inr (ci, fs)) (hc : cl[ci]? = some (C, T, N)) (k : Nat) (hk : k < N) (hlink : Cond.fieldLink own index (T k).1 (T k).2.1 (T k).2.2.1 ∈ Ts) (hfin : (T k).2.2.2 = false) {v : Int32} (hn : narrow (ty0 k) (.int v) = .int v) (hfit : fits (ty0 k) (.int v) = true) (hl : k < fs.length) (i : Nat) (he' : E (a, kn) (va_up (st a kn) i v) = .inr (ci, fs.set k (.int v)))
    (hdg : decode cc pc = .ok (.putfield index, 3)) (kk : ∀ (H1 : Heap) (locs1 : List Loc), zV D cl ks ad E (zs st a kn i v) H1 → va_S A H0 H1 locs1 → W p l e R s m args below meth c H1 locs1 cells slots Q (F0 m (pc + 3) ls rest)) : W p l e R s m args below meth c H locs cells slots Q (F0 m pc ls (.int v :: .ref (ad (a, kn)) :: rest)) := by
  obtain ⟨q, hq0, hq⟩ := zV_at hP hk0 he
  refine va_put S.1 S.2.1 S.2.2.2.2 hin ty0 hty hnm S.2.2.2.1 hK hP (hD _) hS q hq hc k hk (S.2.2.2.2 _ hlink) (fun _ h => h) hfin (hty k hk) hn hfit hl hdg (fun H1 locs1 hP1 hD1 hS1 => ?_)
  exact kk H1 locs1 (zV_set hD hq0 he' hP1) hS1
theorem zr_iald (S : CallFix p m c cc nL s args Ts own) (hK : va_K D cl tys s) (hP : zV D cl ks ad E st H) {a kn : Nat} (hk0 : (a, kn) ∈ ks) {cA : ClassId} {n : Nat} {f : Nat → Int32} (he : E (a, kn) (st a kn) = .inl (cA, n, .inl f)) (t0 : Nat) (ht : tys[t0]? = some (cA, .int)) {x : Int32} (hx : ¬ zOut x n) (hdg : decode cc pc = .ok (.iaload, 1))
    (kk : W p l e R s m args below meth c H locs cells slots Q (F0 m (pc + 1) ls (.int (f x.toNatClampNeg) :: rest))) : W p l e R s m args below meth c H locs cells slots Q (F0 m pc ls (.int x :: .ref (ad (a, kn)) :: rest)) := by
  obtain ⟨q, -, hq⟩ := zV_at hP hk0 he
  exact va_iald S.1 S.2.1 hK hP q t0 hq ht hx hdg kk
theorem zr_zald (S : CallFix p m c cc nL s args Ts own) (hK : va_K D cl tys s) (hP : zV D cl ks ad E st H) {a kn : Nat} (hk0 : (a, kn) ∈ ks) {cA : ClassId} {n : Nat} {f : Nat → Int32} (he : E (a, kn) (st a kn) = .inl (cA, n, .inl f)) (t0 : Nat) (ht : tys[t0]? = some (cA, .boolean)) {x : Int32} (hx : ¬ zOut x n) (hdg : decode cc pc = .ok (.baload, 1))
    (kk : W p l e R s m args below meth c H locs cells slots Q (F0 m (pc + 1) ls (.int (f x.toNatClampNeg) :: rest))) : W p l e R s m args below meth c H locs cells slots Q (F0 m pc ls (.int x :: .ref (ad (a, kn)) :: rest)) := by
  obtain ⟨q, -, hq⟩ := zV_at hP hk0 he
  exact va_zald S.1 S.2.1 hK hP q t0 hq ht hx hdg kk
theorem zr_alen (S : CallFix p m c cc nL s args Ts own) (hK : va_K D cl tys s) (hP : zV D cl ks ad E st H) {a kn : Nat} (hk0 : (a, kn) ∈ ks) {cA : ClassId} {x : vp_A} (he : E (a, kn) (st a kn) = .inl (cA, x)) (t0 : Nat) {ty : FieldType} (ht : tys[t0]? = some (cA, ty)) {n : Nat} (hn : x.1 = n) (hdg : decode cc pc = .ok (.arraylength, 1))
    (kk : W p l e R s m args below meth c H locs cells slots Q (F0 m (pc + 1) ls (.int (nI n) :: rest))) : W p l e R s m args below meth c H locs cells slots Q (F0 m pc ls (.ref (ad (a, kn)) :: rest)) := by
  obtain ⟨q, -, hq⟩ := zV_at hP hk0 he
  exact va_alen S.1 S.2.1 hK hP q t0 hq ht (v := nI n) (by rw [hn]; rfl) hdg kk
theorem zr_aald (S : CallFix p m c cc nL s args Ts own) (hK : va_K D cl tys s) (hP : zV D cl ks ad E st H) {a kn : Nat} (hk0 : (a, kn) ∈ ks) {cA : ClassId} {n : Nat} {f : Nat → Option Nat} (he : E (a, kn) (st a kn) = .inl (cA, n, .inr (.inr (.inr (.inr f))))) (t0 : Nat) {ty : FieldType} (ht : tys[t0]? = some (cA, ty)) (hty : ty.isReference = true) {b : Nat} {x : Int32} (hx : ¬ zOut x n) (hv : f x.toNatClampNeg = some b) (hdg : decode cc pc = .ok (.aaload, 1))
    (kk : W p l e R s m args below meth c H locs cells slots Q (F0 m (pc + 1) ls (.ref b :: rest))) : W p l e R s m args below meth c H locs cells slots Q (F0 m pc ls (.int x :: .ref (ad (a, kn)) :: rest)) := by
  obtain ⟨q, -, hq⟩ := zV_at hP hk0 he
  have hlt : x.toNatClampNeg < n := Nat.not_le.mp fun q => hx (Or.inr q)
  exact W.aald (v := .ref b) (ty := ty) S.1 S.2.1 (hP q _ hq) ((hK.2 t0 _ ht).1 n (fun j => va_rf (f j))) hty (fun q => by cases q) (by show ¬ (x < 0 ∨ (arrV _ _ _).slots.size ≤ _); rw [arrV_size]; exact hx) (by show (arrV _ _ _).slots[_]? = _; rw [arrV_read _ _ hlt, hv]; rfl) rfl rfl hdg kk
theorem zr_iast (S : CallFix p m c cc nL s args Ts own) (hK : va_K D cl tys s) (hP : zV D cl ks ad E st H) (hD : zD A ks ad) (hS : va_S A H0 H locs) {a kn : Nat} (hk0 : (a, kn) ∈ ks) {cA : ClassId} {n : Nat} (he : ∀ f, E (a, kn) f = .inl (cA, n, .inl f)) (t0 : Nat) (ht : tys[t0]? = some (cA, .int)) {x y : Int32} (hx : ¬ zOut x n) (hdg : decode cc pc = .ok (.iastore, 1))
    (kk : ∀ (H1 : Heap) (locs1 : List Loc), zV D cl ks ad E (zs st a kn x.toNatClampNeg y) H1 → va_S A H0 H1 locs1 → W p l e R s m args below meth c H1 locs1 cells slots Q (F0 m (pc + 1) ls rest)) : W p l e R s m args below meth c H locs cells slots Q (F0 m pc ls (.int y :: .int x :: .ref (ad (a, kn)) :: rest)) := by
  obtain ⟨q, hq0, hq⟩ := zV_at hP hk0 (he _)
  refine va_iast S.1 S.2.1 hK hP (hD _) hS q t0 hq ht hx hdg (fun H1 locs1 hP1 hD1 hS1 => ?_)
  exact kk H1 locs1 (zV_set hD hq0 (he _) hP1) hS1
theorem zr_zast (S : CallFix p m c cc nL s args Ts own) (hK : va_K D cl tys s) (hP : zV D cl ks ad E st H) (hD : zD A ks ad) (hS : va_S A H0 H locs) {a kn : Nat} (hk0 : (a, kn) ∈ ks) {cA : ClassId} {n : Nat} (he : ∀ f, E (a, kn) f = .inl (cA, n, .inl f)) (t0 : Nat) (ht : tys[t0]? = some (cA, .boolean)) {x y : Int32} (hx : ¬ zOut x n) (hy : y = 0 ∨ y = 1) (hdg : decode cc pc = .ok (.bastore, 1))
    (kk : ∀ (H1 : Heap) (locs1 : List Loc), zV D cl ks ad E (zs st a kn x.toNatClampNeg y) H1 → va_S A H0 H1 locs1 → W p l e R s m args below meth c H1 locs1 cells slots Q (F0 m (pc + 1) ls rest)) : W p l e R s m args below meth c H locs cells slots Q (F0 m pc ls (.int y :: .int x :: .ref (ad (a, kn)) :: rest)) := by
  obtain ⟨q, hq0, hq⟩ := zV_at hP hk0 (he _)
  have hnar : vp_nar .boolean y = y := by rcases hy with rfl | rfl <;> rfl
  refine va_zast S.1 S.2.1 hK hP (hD _) hS q t0 hq ht hx hdg (fun H1 locs1 hP1 hD1 hS1 => ?_)
  rw [hnar] at hP1
  exact kk H1 locs1 (zV_set hD hq0 (he _) hP1) hS1
theorem zr_recv {a kn ci : Nat} {fs : List Value} {q : vw_C} (hK : va_K D cl tys s) (hP : zV D cl ks ad E st H) (hk0 : (a, kn) ∈ ks) (he : E (a, kn) (st a kn) = .inr (ci, fs)) (hc : cl[ci]? = some q) : ∃ cell : Cell, H[ad (a, kn)]? = some cell ∧ cell.vm.isStatics = false ∧ s.vm.findClass q.1 = some cell.cls := by
  obtain ⟨i, -, hi⟩ := zV_at hP hk0 he
  exact va_recv hK hP hc hi
/-- a method's contract, with no cell made: from a heap with P it returns r and a heap with Po r; nothing old outside A is changed -/
def zC (Ts : List Cond) (D : va_G) (cl : List vw_C) (tys : List (ClassId × FieldType)) (A : Nat → Prop) (l : Launch) (y : MethodName) (b : ByteArray) (nM : Nat) (ret : Option FieldType) (rm : Room) (av : List Value) (P : Heap → Prop) (Po : Option Value → Heap → Prop) : Prop :=
  Met l y (.code y b nM ret :: Ts) rm (fun v U => v = av.toArray ∧ va_K D cl tys U ∧ P U.heap) (fun _ st oc t => (∃ r, oc = .returned r ∧ Po r t.heap) ∧ va_F A st t) 0 0 A
/-- the state that a method's walk must come to -/
abbrev zQ (below : List Frame) (A : Nat → Prop) (Po : Option Value → Heap → Prop) (args : Array Value) (s : State) : State → Prop := MQ below (fun _ st oc t => (∃ r, oc = .returned r ∧ Po r t.heap) ∧ va_F A st t) args s 0 0 A
theorem zC_of {y : MethodName} {b : ByteArray} {nM : Nat} {ret : Option FieldType} {rm : Room} {av : List Value} {P : Heap → Prop} {Po : Option Value → Heap → Prop} (hy : plainName y.cls = true) (hle : (lg_sl av).length ≤ nM)
    (body : ∀ (p : Program) (e : Env) (s : State) (m : MethodId) (args : Array Value) (below : List Frame) (meth : Method) (c : Code) (ls : Array Slot), CallFix p m c b nM s args Ts y.cls → meth.sig.returnType = ret → meth.locks = false → va_K D cl tys s → P s.heap → lv_has ls nM (lv_args 0 av) → W p l e rm s m args below meth c s.heap [] 0 0 (zQ below A Po args s) (F0 m 0 ls [])) : zC Ts D cl tys A l y b nM ret rm av P Po := by
  refine Met.ofW (cc := b) (maxL := nM) (ret := ret) hy rfl ?_
  intro p e s m args below meth c s₁ B hml hv
  obtain ⟨rfl, hK, hP⟩ := hv
  have hts := atoms_spec (ws := .code y b nM ret :: Ts) B.pre
  rw [lg_entry_eq]
  exact body p e s m _ below meth c _ ⟨B.exec, B.bytes, hml, findClass_of_methodNamed B.named, fun w h => hts w (List.mem_cons_of_mem _ h)⟩ B.returns B.notSynchronized hK hP (lv_entry av hle)
theorem zr_iret {Po : Option Value → Heap → Prop} {v : Int32} (S : CallFix p m c cc nL s args Ts own) (hr : meth.sig.returnType = some .int) (hlk : meth.locks = false) (hS : va_S A s.heap H locs) (hdg : decode cc pc = .ok (.ireturn, 1)) (hPo : Po (some (.int v)) H) : W p l e R s m args below meth c H locs 0 0 (zQ below A Po args s) (F0 m pc ls [.int v]) :=
  W.iret (v := v) S.1 S.2.1 hr (fun t ht _ => ⟨⟨_, rfl, by rw [ht]; exact hPo⟩, hS.F ht⟩) hS.2.2 hdg hlk
theorem zr_zret {Po : Option Value → Heap → Prop} {v : Int32} (S : CallFix p m c cc nL s args Ts own) (hr : meth.sig.returnType = some .boolean) (hlk : meth.locks = false) (hv : v = 0 ∨ v = 1) (hS : va_S A s.heap H locs) (hdg : decode cc pc = .ok (.ireturn, 1)) (hPo : Po (some (.int v)) H) : W p l e R s m args below meth c H locs 0 0 (zQ below A Po args s) (F0 m pc ls [.int v]) :=
  W.zret (v := v) S.1 S.2.1 hr (by rcases hv with rfl | rfl <;> rfl) (fun t ht _ => ⟨⟨_, rfl, by rw [ht]; exact hPo⟩, hS.F ht⟩) hS.2.2 hdg hlk
theorem zr_vret {Po : Option Value → Heap → Prop} (S : CallFix p m c cc nL s args Ts own) (hr : meth.sig.returnType = none) (hlk : meth.locks = false) (hS : va_S A s.heap H locs) (hdg : decode cc pc = .ok (.return_, 1)) (hPo : Po none H) : W p l e R s m args below meth c H locs 0 0 (zQ below A Po args s) (F0 m pc ls []) :=
  W.vret S.1 S.2.1 hr (fun t ht _ => ⟨⟨_, rfl, by rw [ht]; exact hPo⟩, hS.F ht⟩) hS.2.2 hdg hlk
/-- behind a call -/
theorem zr_back {A0 A1 : Nat → Prop} {Po : Option Value → Heap → Prop} {st0 : List Value} {free : Addr → Prop} (hr : va_Run p l e R s m args below meth c H locs cells slots 0 0 (F0 m pc ls st0) rest (fun st oc t => (∃ r, oc = .returned r ∧ Po r t.heap) ∧ va_F A1 st t) free) (hS : va_S A0 H0 H locs) (hA : ∀ q, A1 q → A0 q) (hf : ∀ q, free q → A0 q)
    (kk : ∀ (r : Option Value) (H1 : Heap) (locs1 : List Loc), Po r H1 → H.size ≤ H1.size → (∀ q : Nat, q < H.size → ¬ A1 q → H1[q]? = H[q]?) → va_S A0 H0 H1 locs1 → W p l e R s m args below meth c H1 locs1 cells slots Q (F0 m (pc + 3) ls (r.toList ++ rest))) : W p l e R s m args below meth c H locs cells slots Q (F0 m pc ls st0) := by
  intro T hT X
  obtain ⟨v, st₀, t, T', L, h0, X', hL, e1, e2, ⟨⟨r, hv, hp⟩, hz, hk⟩, st⟩ := hr T hT X
  cases hv
  rw [h0] at hz hk
  obtain ⟨t2, a1, b1⟩ := kk v T'.heap (locs ++ L) (by rw [e1]; exact hp) (by rw [e1]; exact hz) (fun q h1 h2 => by rw [e1]; exact hk q h1 h2)
    ⟨Nat.le_trans hS.1 (by rw [e1]; exact hz), fun q h1 h2 => by rw [e1, hk q (Nat.lt_of_lt_of_le h1 hS.1) (fun z => h2 (hA q z))]; exact hS.2.1 q h1 h2, fun q hq => by
      rcases List.mem_append.mp hq with h | h
      · exact hS.2.2 q h
      · exact hf _ (hL q h)⟩ T' rfl X'
  exact ⟨t2, st t2 a1, b1⟩
/-- what a call asks of the callee's name, once a callee -/
def zN (Ts : List Cond) (y : MethodName) (b : ByteArray) (nM : Nat) (ret : Option FieldType) (n : Nat) : Prop :=
  Cond.initialized y.cls ∈ Ts ∧ Cond.code y b nM ret ∈ Ts ∧ y.cls ≠ "java/lang/invoke/MethodHandle" ∧ y.cls ≠ "java/lang/invoke/VarHandle" ∧ (parseMethodDescriptor y.desc).map (fun d => d.parameters.length) = some n
def zNV (Ts : List Cond) (y : MethodName) (b : ByteArray) (nM : Nat) (ret : Option FieldType) (n : Nat) : Prop := zN Ts y b nM ret n ∧ Cond.instanceMethod y ∈ Ts ∧ Cond.selects y.cls y y ∈ Ts
theorem zr_callB {y : MethodName} {b : ByteArray} {nM n index : Nat} {ret : Option FieldType} {rm : Room} (hG : zGood Ts) (hts : ∀ w ∈ Ts, w.before args s = true) (hN : zN Ts y b nM ret n) (hlink : Cond.methodLink own index y ∈ Ts) (hrm : rm.cells = 0 ∧ rm.slots = 0) (hR : rm.frames + 1 ≤ R.frames ∧ 8 + (nM + 11) + rm.locals ≤ R.locals) : CallB R s args own index y b nM ret (.code y b nM ret :: Ts) rm 0 0 n := by
  obtain ⟨h1, h2, h3, h4, h5⟩ := hN
  refine callB_of n hts (fun w hw => ?_) rfl hrm.1 hrm.2 (hts _ h1) (hts _ hlink) ⟨h3, h4, h5⟩ hR
  rcases List.mem_cons.mp hw with rfl | hw
  · exact ⟨h2, hG _ h2⟩
  · exact ⟨hw, hG _ hw⟩
theorem zr_blind {av : List Value} {P : Heap → Prop} : FrameBlind (fun v U => v = av.toArray ∧ va_K D cl tys U ∧ P U.heap) := fun _ U g mk q => ⟨q.1, va_K.moved (u := U) (U := U.calling g mk _) (Vm.Alike.refl U.vm) q.2.1, q.2.2⟩
theorem zr_callV {A1 : Nat → Prop} {y : MethodName} {b : ByteArray} {nM index a : Nat} {ret : Option FieldType} {rm : Room} {As : List Value} {P : Heap → Prop} {Po : Option Value → Heap → Prop} (S : CallFix p m c cc nL s args Ts own) (hG : zGood Ts) (hM : zC Ts D cl tys A1 l y b nM ret rm (.ref a :: As) P Po) (hN : zNV Ts y b nM ret As.length) (hlink : Cond.methodLink own index y ∈ Ts) (hrm : rm.cells = 0 ∧ rm.slots = 0) (hR : rm.frames + 1 ≤ R.frames ∧ 8 + (nM + 11) + rm.locals ≤ R.locals) (hcs : cells ≤ R.cells ∧ slots ≤ R.slots) (hK : va_K D cl tys s) (hrecv : ∃ cell : Cell, H[a]? = some cell ∧ cell.vm.isStatics = false ∧ s.vm.findClass y.cls = some cell.cls) (hP : P H) (hsize : ls.size = nL) (hrest : (rest.map fun v => v.category).sum ≤ 8) {A0 : Nat → Prop} (hS : va_S A0 H0 H locs) (hA : ∀ q, A1 q → A0 q) (hdg : decode cc pc = .ok (.invokevirtual index, 3)) {st0 : List Value} (hst : st0 = As.reverse ++ .ref a :: rest)
    (kk : ∀ (r : Option Value) (H1 : Heap) (locs1 : List Loc), Po r H1 → H.size ≤ H1.size → (∀ q : Nat, q < H.size → ¬ A1 q → H1[q]? = H[q]?) → va_S A0 H0 H1 locs1 → W p l e R s m args below meth c H1 locs1 cells slots Q (F0 m (pc + 3) ls (r.toList ++ rest))) : W p l e R s m args below meth c H locs cells slots Q (F0 m pc ls st0) := by
  refine zr_back (rest := rest) (A1 := A1) (free := A1) (Po := Po) ?_ hS hA hA kk
  exact va_runV (C := y.cls) (As := As) (b := a) S hM ⟨zr_callB hG S.2.2.2.2 hN.1 hlink hrm hR, S.2.2.2.2 _ hN.2.1, S.2.2.2.2 _ hN.2.2⟩ ⟨zr_blind, hrecv, fun U hU hW => ⟨rfl, va_K.moved hW.alike hK, by rw [hU]; exact hP⟩⟩ rfl rfl hsize hst (lv_room hrest) hdg hcs
theorem zr_callS {A1 : Nat → Prop} {y : MethodName} {b : ByteArray} {nM index : Nat} {ret : Option FieldType} {rm : Room} {As : List Value} {P : Heap → Prop} {Po : Option Value → Heap → Prop} (S : CallFix p m c cc nL s args Ts own) (hG : zGood Ts) (hM : zC Ts D cl tys A1 l y b nM ret rm As P Po) (hN : zN Ts y b nM ret As.length ∧ Cond.static y ∈ Ts) (hlink : Cond.methodLink own index y ∈ Ts) (hrm : rm.cells = 0 ∧ rm.slots = 0) (hR : rm.frames + 1 ≤ R.frames ∧ 8 + (nM + 11) + rm.locals ≤ R.locals) (hcs : cells ≤ R.cells ∧ slots ≤ R.slots) (hK : va_K D cl tys s) (hP : P H) (hsize : ls.size = nL) (hrest : (rest.map fun v => v.category).sum ≤ 8) {A0 : Nat → Prop} (hS : va_S A0 H0 H locs) (hA : ∀ q, A1 q → A0 q) (hdg : decode cc pc = .ok (.invokestatic index, 3)) {st0 : List Value} (hst : st0 = As.reverse ++ rest)
    (kk : ∀ (r : Option Value) (H1 : Heap) (locs1 : List Loc), Po r H1 → H.size ≤ H1.size → (∀ q : Nat, q < H.size → ¬ A1 q → H1[q]? = H[q]?) → va_S A0 H0 H1 locs1 → W p l e R s m args below meth c H1 locs1 cells slots Q (F0 m (pc + 3) ls (r.toList ++ rest))) : W p l e R s m args below meth c H locs cells slots Q (F0 m pc ls st0) := by
  refine zr_back (rest := rest) (A1 := A1) (free := A1) (Po := Po) ?_ hS hA hA kk
  exact va_runS (As := As) S hM ⟨zr_callB hG S.2.2.2.2 hN.1 hlink hrm hR, S.2.2.2.2 _ hN.2⟩ ⟨zr_blind, fun U hU hW => ⟨rfl, va_K.moved hW.alike hK, by rw [hU]; exact hP⟩⟩ rfl rfl hsize hst (lv_room hrest) hdg hcs
end ZRA
end
section
/-! More rows: a copy within one array, a reference handed back, switches, booleans. -/
def zFuel : Nat := 3000
theorem zbind {α β : Type} {u : α} {f : α → Option β} {o : Option β} (h : (some u).bind f = o) : f u = o := h
def zrow (st : zS) (a k : Nat) (g : Nat → Int32) : zS := fun a' k' => if a' = a ∧ k' = k then g else st a' k'
abbrev zCpyOut (sp dp ln : Int32) (n : Nat) : Prop := (sp < 0 ∨ dp < 0 ∨ ln < 0) ∨ n < sp.toNatClampNeg + ln.toNatClampNeg ∨ n < dp.toNatClampNeg + ln.toNatClampNeg
theorem zrow_s (st : zS) (a k : Nat) (g : Nat → Int32) : zrow st a k g a k = g := by
  unfold zrow
  rw [if_pos ⟨rfl, rfl⟩]
theorem zrow_n (st : zS) (a k : Nat) (g : Nat → Int32) {a' k' : Nat} (h : (a', k') ≠ (a, k)) : zrow st a k g a' k' = st a' k' := by
  unfold zrow
  rw [if_neg (fun c => h (by rw [c.1, c.2]))]
theorem zb_n {v : Int32} (h : v = 0 ∨ v = 1) : narrow .boolean (.int v) = .int v := by rcases h with rfl | rfl <;> rfl
theorem zb_f {v : Int32} (h : v = 0 ∨ v = 1) : fits .boolean (.int v) = true := by rcases h with rfl | rfl <;> rfl
theorem zsw_2 {x : Int32} (h0 : ¬ x = 0) (h1 : ¬ x = 1) (h2 : ¬ x = 2) : x.toInt < 0 ∨ 2 < x.toInt := by
  have e0 : x.toInt ≠ 0 := fun h => h0 (Int32.toInt_inj.mp h)
  have e1 : x.toInt ≠ 1 := fun h => h1 (Int32.toInt_inj.mp h)
  have e2 : x.toInt ≠ 2 := fun h => h2 (Int32.toInt_inj.mp h)
  omega
theorem zsw_5 {x : Int32} (h0 : ¬ x = 0) (h1 : ¬ x = 1) (h2 : ¬ x = 2) (h3 : ¬ x = 3) (h4 : ¬ x = 4) (h5 : ¬ x = 5) : x.toInt < 0 ∨ 5 < x.toInt := by
  have e0 : x.toInt ≠ 0 := fun h => h0 (Int32.toInt_inj.mp h)
  have e1 : x.toInt ≠ 1 := fun h => h1 (Int32.toInt_inj.mp h)
  have e2 : x.toInt ≠ 2 := fun h => h2 (Int32.toInt_inj.mp h)
  have e3 : x.toInt ≠ 3 := fun h => h3 (Int32.toInt_inj.mp h)
  have e4 : x.toInt ≠ 4 := fun h => h4 (Int32.toInt_inj.mp h)
  have e5 : x.toInt ≠ 5 := fun h => h5 (Int32.toInt_inj.mp h)
  omega
section ZRB
variable {p : Program} {l : Launch} {e : Env} {R : Room} {s : State} {m : MethodId} {args : Array Value} {below : List Frame} {meth : Method} {c : Code} {H : Heap} {locs : List Loc} {cells slots : Nat} {Q : State → Prop}
variable {cc : ByteArray} {pc nL : Nat} {ls : Array Slot} {rest : List Value} {D : va_G} {cl : List vw_C} {A : Nat → Prop} {tys : List (ClassId × FieldType)} {H0 : Heap} {Ts : List Cond} {own : String} {ks : List zK} {ad : zK → Nat} {E : zK → (Nat → Int32) → va_E} {st : zS}
theorem zr_aret {Po : Option Value → Heap → Prop} {a : Nat} {C : String} (S : CallFix p m c cc nL s args Ts own) (hr : meth.sig.returnType = some (.object C)) (hlk : meth.locks = false) (hS : va_S A s.heap H locs) (hdg : decode cc pc = .ok (.areturn, 1)) (hPo : Po (some (.ref a)) H) : W p l e R s m args below meth c H locs 0 0 (zQ below A Po args s) (F0 m pc ls [.ref a]) :=
  W.aret (v := .ref a) (rt := .object C) S.1 S.2.1 hr (Or.inl ⟨_, rfl⟩) (Or.inr ⟨_, rfl⟩) (fun t ht _ => ⟨⟨_, rfl, by rw [ht]; exact hPo⟩, hS.F ht⟩) hS.2.2 hdg hlk
theorem zr_copy (S : CallFix p m c cc nL s args Ts own) (hsz : ls.size = nL) {index : Nat} (hlink : Cond.methodLink own index arraycopyName ∈ Ts) (hnat : Cond.native arraycopyName ∈ Ts) (hstat : Cond.static arraycopyName ∈ Ts) (hini : Cond.initialized "java/lang/System" ∈ Ts) (hK : va_K D cl tys s) (hP : zV D cl ks ad E st H) (hD : zD A ks ad) (hS : va_S A H0 H locs) {a kn : Nat} (hk0 : (a, kn) ∈ ks) {cA : ClassId} {n : Nat} (he : ∀ f, E (a, kn) f = .inl (cA, n, .inl f)) (t0 : Nat) (ht : tys[t0]? = some (cA, .int)) {sp dp ln : Int32} (hx : ¬ zCpyOut sp dp ln n)
    (hframes : 1 ≤ R.frames) (hlocals : (rest.map fun v => v.category).sum + (nativeFrameWords "java/lang/System" "arraycopy" 5 + 11) ≤ R.locals) (hdg : decode cc pc = .ok (.invokestatic index, 3))
    (kk : ∀ (H1 : Heap) (locs1 : List Loc), zV D cl ks ad E (zrow st a kn (va_cpy (st a kn) (st a kn) sp.toNatClampNeg dp.toNatClampNeg ln.toNatClampNeg)) H1 → va_S A H0 H1 locs1 → W p l e R s m args below meth c H1 locs1 cells slots Q (F0 m (pc + 3) ls rest)) : W p l e R s m args below meth c H locs cells slots Q (F0 m pc ls (.int ln :: .int dp :: .ref (ad (a, kn)) :: .int sp :: .ref (ad (a, kn)) :: rest)) := by
  obtain ⟨q, hq0, hq⟩ := zV_at hP hk0 (he _)
  have h1 : ¬ sp < 0 := fun h => hx (Or.inl (Or.inl h))
  have h2 : ¬ dp < 0 := fun h => hx (Or.inl (Or.inr (Or.inl h)))
  have h3 : ¬ ln < 0 := fun h => hx (Or.inl (Or.inr (Or.inr h)))
  have h4 : sp.toNatClampNeg + ln.toNatClampNeg ≤ n := Nat.not_lt.mp fun h => hx (Or.inr (Or.inl h))
  have h5 : dp.toNatClampNeg + ln.toNatClampNeg ≤ n := Nat.not_lt.mp fun h => hx (Or.inr (Or.inr h))
  refine va_copyi S.1 S.2.1 (S.2.2.1.trans hsz.symm) S.2.2.2.1 (S.2.2.2.2 _ hlink) (S.2.2.2.2 _ hnat) (S.2.2.2.2 _ hstat) (S.2.2.2.2 _ hini) hK hP (hD _) hS q q t0 t0 hq hq ht ht rfl h1 h2 h3 h4 h5 (fun _ _ => rfl) hframes hlocals hdg (fun H1 locs1 hP1 hD1 hS1 => ?_)
  refine kk H1 locs1 ?_ hS1
  rw [zW_set (ct' := fun j => E j (zrow st a kn (va_cpy (st a kn) (st a kn) sp.toNatClampNeg dp.toNatClampNeg ln.toNatClampNeg) j.1 j.2)) (hD _) hq0 (by show E (a, kn) (zrow st a kn _ a kn) = _; rw [zrow_s, he]) (fun j _ hne => by
    show E j (zrow st a kn _ j.1 j.2) = E j (st j.1 j.2)
    rw [zrow_n st a kn _ (a' := j.1) (k' := j.2) hne])] at hP1
  exact hP1
end ZRB
end
section
/-! Names, tables, the worlds of the program (zcE over zKs n) and of the reference (zmE over zKm), the one list of words zT. Printed by wip/whole/emit.py. -/
def N_D : String := "DiffusingRoutes"
def N_R : String := "DiffusingRoutes$Route"
def N_L : String := "DiffusingRoutes$Mail"
def N_M : String := "DiffusingRoutesModel"
def FT_D : u_T := fun k => match k with
  | 0 => ("DiffusingRoutes", "routers", "I", true)
  | 1 => ("DiffusingRoutes", "costs", "[[I", true)
  | 2 => ("DiffusingRoutes", "routes", "[LDiffusingRoutes$Route;", true)
  | 3 => ("DiffusingRoutes", "mail", "LDiffusingRoutes$Mail;", true)
  | _ => ("DiffusingRoutes", "links", "I", false)
def t_D : Nat → FieldType := fun k => match k with
  | 0 => .int
  | 1 => .array (.array .int)
  | 2 => .array (.object "DiffusingRoutes$Route")
  | 3 => .object "DiffusingRoutes$Mail"
  | _ => .int
theorem n_D : ∀ a, a < 5 → ∀ b, b < 5 → a ≠ b → (FT_D a).2.1 ≠ (FT_D b).2.1 := by decide +kernel
theorem t_D_ok : ∀ k, k < 5 → parseFieldDescriptor (FT_D k).2.2.1 = some (t_D k) := by decide +kernel
def FT_R : u_T := fun k => match k with
  | 0 => ("DiffusingRoutes$Route", "router", "I", true)
  | 1 => ("DiffusingRoutes$Route", "target", "I", true)
  | 2 => ("DiffusingRoutes$Route", "costs", "[I", true)
  | 3 => ("DiffusingRoutes$Route", "told", "[I", true)
  | 4 => ("DiffusingRoutes$Route", "awaited", "[Z", true)
  | 5 => ("DiffusingRoutes$Route", "distance", "I", false)
  | 6 => ("DiffusingRoutes$Route", "limit", "I", false)
  | 7 => ("DiffusingRoutes$Route", "next", "I", false)
  | 8 => ("DiffusingRoutes$Route", "busy", "Z", false)
  | 9 => ("DiffusingRoutes$Route", "asked", "Z", false)
  | _ => ("DiffusingRoutes$Route", "grown", "Z", false)
def t_R : Nat → FieldType := fun k => match k with
  | 0 => .int
  | 1 => .int
  | 2 => .array .int
  | 3 => .array .int
  | 4 => .array .boolean
  | 5 => .int
  | 6 => .int
  | 7 => .int
  | 8 => .boolean
  | 9 => .boolean
  | _ => .boolean
theorem n_R : ∀ a, a < 11 → ∀ b, b < 11 → a ≠ b → (FT_R a).2.1 ≠ (FT_R b).2.1 := by decide +kernel
theorem t_R_ok : ∀ k, k < 11 → parseFieldDescriptor (FT_R k).2.2.1 = some (t_R k) := by decide +kernel
def FT_L : u_T := fun k => match k with
  | 0 => ("DiffusingRoutes$Mail", "row", "[I", true)
  | 1 => ("DiffusingRoutes$Mail", "sent", "[I", true)
  | 2 => ("DiffusingRoutes$Mail", "first", "I", false)
  | _ => ("DiffusingRoutes$Mail", "end", "I", false)
def t_L : Nat → FieldType := fun k => match k with
  | 0 => .array .int
  | 1 => .array .int
  | 2 => .int
  | _ => .int
theorem n_L : ∀ a, a < 4 → ∀ b, b < 4 → a ≠ b → (FT_L a).2.1 ≠ (FT_L b).2.1 := by decide +kernel
theorem t_L_ok : ∀ k, k < 4 → parseFieldDescriptor (FT_L k).2.2.1 = some (t_L k) := by decide +kernel
def FT_M : u_T := fun k => match k with
  | 0 => ("DiffusingRoutesModel", "routers", "I", true)
  | 1 => ("DiffusingRoutesModel", "costs", "[I", true)
  | 2 => ("DiffusingRoutesModel", "distances", "[I", true)
  | 3 => ("DiffusingRoutesModel", "limits", "[I", true)
  | 4 => ("DiffusingRoutesModel", "nexts", "[I", true)
  | 5 => ("DiffusingRoutesModel", "busy", "[Z", true)
  | 6 => ("DiffusingRoutesModel", "asked", "[Z", true)
  | 7 => ("DiffusingRoutesModel", "grown", "[Z", true)
  | 8 => ("DiffusingRoutesModel", "tolds", "[I", true)
  | 9 => ("DiffusingRoutesModel", "waiting", "[Z", true)
  | 10 => ("DiffusingRoutesModel", "flying", "I", false)
  | 11 => ("DiffusingRoutesModel", "from", "[I", true)
  | 12 => ("DiffusingRoutesModel", "to", "[I", true)
  | 13 => ("DiffusingRoutesModel", "kinds", "[I", true)
  | 14 => ("DiffusingRoutesModel", "targets", "[I", true)
  | 15 => ("DiffusingRoutesModel", "carried", "[I", true)
  | _ => ("DiffusingRoutesModel", "sent", "[I", true)
def t_M : Nat → FieldType := fun k => match k with
  | 0 => .int
  | 1 => .array .int
  | 2 => .array .int
  | 3 => .array .int
  | 4 => .array .int
  | 5 => .array .boolean
  | 6 => .array .boolean
  | 7 => .array .boolean
  | 8 => .array .int
  | 9 => .array .boolean
  | 10 => .int
  | 11 => .array .int
  | 12 => .array .int
  | 13 => .array .int
  | 14 => .array .int
  | 15 => .array .int
  | _ => .array .int
theorem n_M : ∀ a, a < 17 → ∀ b, b < 17 → a ≠ b → (FT_M a).2.1 ≠ (FT_M b).2.1 := by decide +kernel
theorem t_M_ok : ∀ k, k < 17 → parseFieldDescriptor (FT_M k).2.2.1 = some (t_M k) := by decide +kernel
abbrev zcl : List vw_C := [(N_D, FT_D, 5), (N_R, FT_R, 11), (N_L, FT_L, 4), (N_M, FT_M, 17)]
abbrev zty (cI cZ cR cA : ClassId) : List (ClassId × FieldType) := [(cI, .int), (cZ, .boolean), (cR, .object N_R), (cA, .array .int)]
def zRt (n : Nat) : List Nat := (List.range 36).filter (fun k => decide (k / 6 < n ∧ k % 6 < n))
def zKs (n : Nat) : List zK := [(0, 0), (1, 0), (2, 0), (3, 0), (4, 0), (5, 0)] ++ (List.range n).map (fun r => (6, r)) ++ (zRt n).map (fun k => (7, k)) ++ (zRt n).map (fun k => (8, k)) ++ (zRt n).map (fun k => (9, k))
def zKm : List zK := (List.range 16).map (fun a => (a, 0))
abbrev zrefs (f : Nat → Option Nat) : (Nat → Int32) ⊕ (Nat → Int64) ⊕ (Nat → UInt32) ⊕ (Nat → UInt64) ⊕ (Nat → Option Nat) := .inr (.inr (.inr (.inr f)))
def zcE (n : Nat) (cI cZ cR cA : ClassId) (ad : zK → Nat) (j : zK) (f : Nat → Int32) : va_E := match j.1 with
  | 0 => .inr (0, [.int (nI n), .ref (ad (1, 0)), .ref (ad (2, 0)), .ref (ad (3, 0)), .int (f 0)])
  | 1 => .inl (cA, n, .inr (.inr (.inr (.inr (fun r => some (ad (6, r)))))))
  | 2 => .inl (cR, n * n, .inr (.inr (.inr (.inr (fun i => some (ad (7, 6 * (i / n) + i % n)))))))
  | 3 => .inr (2, [.ref (ad (4, 0)), .ref (ad (5, 0)), .int (f 0), .int (f 1)])
  | 4 => .inl (cI, 1024, .inl f)
  | 5 => .inl (cI, 3, .inl f)
  | 6 => .inl (cI, n, .inl f)
  | 7 => .inr (1, [.int (nI (j.2 / 6)), .int (nI (j.2 % 6)), .ref (ad (6, j.2 / 6)), .ref (ad (8, j.2)), .ref (ad (9, j.2)), .int (f 0), .int (f 1), .int (f 2), .int (f 3), .int (f 4), .int (f 5)])
  | 8 => .inl (cI, n, .inl f)
  | _ => .inl (cZ, n, .inl f)
def zmE (n : Nat) (cI cZ : ClassId) (ad : zK → Nat) (j : zK) (f : Nat → Int32) : va_E := match j.1 with
  | 0 => .inr (3, [.int (nI n), .ref (ad (1, 0)), .ref (ad (2, 0)), .ref (ad (3, 0)), .ref (ad (4, 0)), .ref (ad (5, 0)), .ref (ad (6, 0)), .ref (ad (7, 0)), .ref (ad (8, 0)), .ref (ad (9, 0)), .int (f 0), .ref (ad (10, 0)), .ref (ad (11, 0)), .ref (ad (12, 0)), .ref (ad (13, 0)), .ref (ad (14, 0)), .ref (ad (15, 0))])
  | 1 => .inl (cI, 36, .inl f)
  | 2 => .inl (cI, 36, .inl f)
  | 3 => .inl (cI, 36, .inl f)
  | 4 => .inl (cI, 36, .inl f)
  | 5 => .inl (cZ, 36, .inl f)
  | 6 => .inl (cZ, 36, .inl f)
  | 7 => .inl (cZ, 36, .inl f)
  | 8 => .inl (cI, 216, .inl f)
  | 9 => .inl (cZ, 216, .inl f)
  | 10 => .inl (cI, 1024, .inl f)
  | 11 => .inl (cI, 1024, .inl f)
  | 12 => .inl (cI, 1024, .inl f)
  | 13 => .inl (cI, 1024, .inl f)
  | 14 => .inl (cI, 1024, .inl f)
  | _ => .inl (cI, 3, .inl f)
theorem zk_0 {n : Nat} : (((0 : Nat), (0 : Nat)) : zK) ∈ zKs n := by simp [zKs]
theorem zk_1 {n : Nat} : (((1 : Nat), (0 : Nat)) : zK) ∈ zKs n := by simp [zKs]
theorem zk_2 {n : Nat} : (((2 : Nat), (0 : Nat)) : zK) ∈ zKs n := by simp [zKs]
theorem zk_3 {n : Nat} : (((3 : Nat), (0 : Nat)) : zK) ∈ zKs n := by simp [zKs]
theorem zk_4 {n : Nat} : (((4 : Nat), (0 : Nat)) : zK) ∈ zKs n := by simp [zKs]
theorem zk_5 {n : Nat} : (((5 : Nat), (0 : Nat)) : zK) ∈ zKs n := by simp [zKs]
theorem zkm_0 : (((0 : Nat), (0 : Nat)) : zK) ∈ zKm := by simp [zKm]
theorem zkm_1 : (((1 : Nat), (0 : Nat)) : zK) ∈ zKm := by simp [zKm]
theorem zkm_2 : (((2 : Nat), (0 : Nat)) : zK) ∈ zKm := by simp [zKm]
theorem zkm_3 : (((3 : Nat), (0 : Nat)) : zK) ∈ zKm := by simp [zKm]
theorem zkm_4 : (((4 : Nat), (0 : Nat)) : zK) ∈ zKm := by simp [zKm]
theorem zkm_5 : (((5 : Nat), (0 : Nat)) : zK) ∈ zKm := by simp [zKm]
theorem zkm_6 : (((6 : Nat), (0 : Nat)) : zK) ∈ zKm := by simp [zKm]
theorem zkm_7 : (((7 : Nat), (0 : Nat)) : zK) ∈ zKm := by simp [zKm]
theorem zkm_8 : (((8 : Nat), (0 : Nat)) : zK) ∈ zKm := by simp [zKm]
theorem zkm_9 : (((9 : Nat), (0 : Nat)) : zK) ∈ zKm := by simp [zKm]
theorem zkm_10 : (((10 : Nat), (0 : Nat)) : zK) ∈ zKm := by simp [zKm]
theorem zkm_11 : (((11 : Nat), (0 : Nat)) : zK) ∈ zKm := by simp [zKm]
theorem zkm_12 : (((12 : Nat), (0 : Nat)) : zK) ∈ zKm := by simp [zKm]
theorem zkm_13 : (((13 : Nat), (0 : Nat)) : zK) ∈ zKm := by simp [zKm]
theorem zkm_14 : (((14 : Nat), (0 : Nat)) : zK) ∈ zKm := by simp [zKm]
theorem zkm_15 : (((15 : Nat), (0 : Nat)) : zK) ∈ zKm := by simp [zKm]
theorem zk_rt {n k : Nat} : k ∈ zRt n ↔ k < 36 ∧ k / 6 < n ∧ k % 6 < n := by simp [zRt]
theorem zk_6i {n r : Nat} : (((6 : Nat), r) : zK) ∈ zKs n ↔ r < n := by simp [zKs]
theorem zk_7i {n k : Nat} : (((7 : Nat), k) : zK) ∈ zKs n ↔ k < 36 ∧ k / 6 < n ∧ k % 6 < n := by simp [zKs, zk_rt]
theorem zk_8i {n k : Nat} : (((8 : Nat), k) : zK) ∈ zKs n ↔ k < 36 ∧ k / 6 < n ∧ k % 6 < n := by simp [zKs, zk_rt]
theorem zk_9i {n k : Nat} : (((9 : Nat), k) : zK) ∈ zKs n ↔ k < 36 ∧ k / 6 < n ∧ k % 6 < n := by simp [zKs, zk_rt]
theorem zk_67 {n k : Nat} (h : (((7 : Nat), k) : zK) ∈ zKs n) : (((6 : Nat), k / 6) : zK) ∈ zKs n := zk_6i.mpr (zk_7i.mp h).2.1
theorem zk_87 {n k : Nat} (h : (((7 : Nat), k) : zK) ∈ zKs n) : (((8 : Nat), k) : zK) ∈ zKs n := zk_8i.mpr (zk_7i.mp h)
theorem zk_97 {n k : Nat} (h : (((7 : Nat), k) : zK) ∈ zKs n) : (((9 : Nat), k) : zK) ∈ zKs n := zk_9i.mpr (zk_7i.mp h)
theorem zk_6 {n : Nat} {x : Int32} (g : ¬ zOut x n) : (((6 : Nat), x.toNatClampNeg) : zK) ∈ zKs n := zk_6i.mpr (Nat.not_le.mp fun q => g (Or.inr q))
theorem zk_7n {n i : Nat} (hn : 2 ≤ n ∧ n ≤ 6) (h : i < n * n) : (((7 : Nat), 6 * (i / n) + i % n) : zK) ∈ zKs n := by
  have h1 : i / n < n := Nat.div_lt_of_lt_mul h
  have h2 : i % n < n := Nat.mod_lt _ (by omega)
  refine zk_7i.mpr ⟨by omega, ?_, ?_⟩ <;> omega
theorem zk_7 {n : Nat} {x : Int32} (hn : 2 ≤ n ∧ n ≤ 6) (g : ¬ zOut x (n * n)) : (((7 : Nat), 6 * (x.toNatClampNeg / n) + x.toNatClampNeg % n) : zK) ∈ zKs n := zk_7n hn (Nat.not_le.mp fun q => g (Or.inr q))
abbrev b_D_isRouter : ByteArray := prog_1_method_17_code
def y_D_isRouter : MethodName := ⟨N_D, "isRouter", "(I)Z"⟩
def rm_D_isRouter : Room := { frames := 0, cells := 0, slots := 0, locals := 0 }
abbrev b_L_size : ByteArray := prog_2_method_7_code
def y_L_size : MethodName := ⟨N_L, "size", "()I"⟩
def rm_L_size : Room := { frames := 0, cells := 0, slots := 0, locals := 0 }
abbrev b_D_route : ByteArray := prog_1_method_20_code
def y_D_route : MethodName := ⟨N_D, "route", "(II)LDiffusingRoutes$Route;"⟩
def rm_D_route : Room := { frames := 0, cells := 0, slots := 0, locals := 0 }
abbrev b_L_send : ByteArray := prog_2_method_8_code
def y_L_send : MethodName := ⟨N_L, "send", "(LDiffusingRoutes$Route;II)V"⟩
def rm_L_send : Room := { frames := 1, cells := 0, slots := 0, locals := 68 }
abbrev b_D_greet : ByteArray := prog_1_method_22_code
def y_D_greet : MethodName := ⟨N_D, "greet", "(II)V"⟩
def rm_D_greet : Room := { frames := 2, cells := 0, slots := 0, locals := 91 }
abbrev b_R_isOwn : ByteArray := prog_3_method_2_code
def y_R_isOwn : MethodName := ⟨N_R, "isOwn", "()Z"⟩
def rm_R_isOwn : Room := { frames := 0, cells := 0, slots := 0, locals := 0 }
abbrev b_R_through : ByteArray := prog_3_method_5_code
def y_R_through : MethodName := ⟨N_R, "through", "(I)I"⟩
def rm_R_through : Room := { frames := 1, cells := 0, slots := 0, locals := 21 }
abbrev b_R_growIfFarther : ByteArray := prog_3_method_10_code
def y_R_growIfFarther : MethodName := ⟨N_R, "growIfFarther", "(I)V"⟩
def rm_R_growIfFarther : Room := { frames := 2, cells := 0, slots := 0, locals := 42 }
abbrev b_R_least : ByteArray := prog_3_method_7_code
def y_R_least : MethodName := ⟨N_R, "least", "()I"⟩
def rm_R_least : Room := { frames := 2, cells := 0, slots := 0, locals := 42 }
abbrev b_R_best : ByteArray := prog_3_method_8_code
def y_R_best : MethodName := ⟨N_R, "best", "(I)I"⟩
def rm_R_best : Room := { frames := 2, cells := 0, slots := 0, locals := 42 }
abbrev b_R_takeBest : ByteArray := prog_3_method_6_code
def y_R_takeBest : MethodName := ⟨N_R, "takeBest", "()Z"⟩
def rm_R_takeBest : Room := { frames := 3, cells := 0, slots := 0, locals := 66 }
abbrev b_R_isNeighbour : ByteArray := prog_3_method_3_code
def y_R_isNeighbour : MethodName := ⟨N_R, "isNeighbour", "(I)Z"⟩
def rm_R_isNeighbour : Room := { frames := 0, cells := 0, slots := 0, locals := 0 }
abbrev b_D_updateAllBut : ByteArray := prog_1_method_30_code
def y_D_updateAllBut : MethodName := ⟨N_D, "updateAllBut", "(LDiffusingRoutes$Route;I)V"⟩
def rm_D_updateAllBut : Room := { frames := 2, cells := 0, slots := 0, locals := 91 }
abbrev b_R_measureAnew : ByteArray := prog_3_method_9_code
def y_R_measureAnew : MethodName := ⟨N_R, "measureAnew", "()V"⟩
def rm_R_measureAnew : Room := { frames := 2, cells := 0, slots := 0, locals := 42 }
abbrev b_D_askAll : ByteArray := prog_1_method_29_code
def y_D_askAll : MethodName := ⟨N_D, "askAll", "(LDiffusingRoutes$Route;)V"⟩
def rm_D_askAll : Room := { frames := 2, cells := 0, slots := 0, locals := 91 }
abbrev b_D_look : ByteArray := prog_1_method_27_code
def y_D_look : MethodName := ⟨N_D, "look", "(LDiffusingRoutes$Route;I)V"⟩
def rm_D_look : Room := { frames := 4, cells := 0, slots := 0, locals := 114 }
abbrev b_R_isWaiting : ByteArray := prog_3_method_4_code
def y_R_isWaiting : MethodName := ⟨N_R, "isWaiting", "()Z"⟩
def rm_R_isWaiting : Room := { frames := 0, cells := 0, slots := 0, locals := 0 }
abbrev b_R_calmDown : ByteArray := prog_3_method_11_code
def y_R_calmDown : MethodName := ⟨N_R, "calmDown", "()V"⟩
def rm_R_calmDown : Room := { frames := 0, cells := 0, slots := 0, locals := 0 }
abbrev b_D_endIfDone : ByteArray := prog_1_method_28_code
def y_D_endIfDone : MethodName := ⟨N_D, "endIfDone", "(LDiffusingRoutes$Route;)V"⟩
def rm_D_endIfDone : Room := { frames := 4, cells := 0, slots := 0, locals := 114 }
abbrev b_D_weighAgain : ByteArray := prog_1_method_23_code
def y_D_weighAgain : MethodName := ⟨N_D, "weighAgain", "(II)V"⟩
def rm_D_weighAgain : Room := { frames := 5, cells := 0, slots := 0, locals := 137 }
abbrev b_D_connect : ByteArray := prog_1_method_2_code
def y_D_connect : MethodName := ⟨N_D, "connect", "(III)I"⟩
def rm_D_connect : Room := { frames := 6, cells := 0, slots := 0, locals := 161 }
abbrev b_D_isLink : ByteArray := prog_1_method_19_code
def y_D_isLink : MethodName := ⟨N_D, "isLink", "(II)Z"⟩
def rm_D_isLink : Room := { frames := 1, cells := 0, slots := 0, locals := 21 }
abbrev b_L_senderOf : ByteArray := prog_2_method_2_code
def y_L_senderOf : MethodName := ⟨N_L, "senderOf", "(I)I"⟩
def rm_L_senderOf : Room := { frames := 0, cells := 0, slots := 0, locals := 0 }
abbrev b_L_receiverOf : ByteArray := prog_2_method_3_code
def y_L_receiverOf : MethodName := ⟨N_L, "receiverOf", "(I)I"⟩
def rm_L_receiverOf : Room := { frames := 0, cells := 0, slots := 0, locals := 0 }
abbrev b_L_isFromTo : ByteArray := prog_2_method_9_code
def y_L_isFromTo : MethodName := ⟨N_L, "isFromTo", "(III)Z"⟩
def rm_L_isFromTo : Room := { frames := 1, cells := 0, slots := 0, locals := 20 }
abbrev b_L_drop : ByteArray := prog_2_method_13_code
def y_L_drop : MethodName := ⟨N_L, "drop", "(II)I"⟩
def rm_L_drop : Room := { frames := 2, cells := 0, slots := 0, locals := 43 }
abbrev b_R_forget : ByteArray := prog_3_method_12_code
def y_R_forget : MethodName := ⟨N_R, "forget", "(I)V"⟩
def rm_R_forget : Room := { frames := 0, cells := 0, slots := 0, locals := 0 }
abbrev b_D_lose : ByteArray := prog_1_method_24_code
def y_D_lose : MethodName := ⟨N_D, "lose", "(II)V"⟩
def rm_D_lose : Room := { frames := 5, cells := 0, slots := 0, locals := 137 }
abbrev b_D_cut : ByteArray := prog_1_method_3_code
def y_D_cut : MethodName := ⟨N_D, "cut", "(II)I"⟩
def rm_D_cut : Room := { frames := 6, cells := 0, slots := 0, locals := 161 }
abbrev b_L_find : ByteArray := prog_2_method_11_code
def y_L_find : MethodName := ⟨N_L, "find", "(III)I"⟩
def rm_L_find : Room := { frames := 2, cells := 0, slots := 0, locals := 43 }
abbrev b_L_take : ByteArray := prog_2_method_12_code
def y_L_take : MethodName := ⟨N_L, "take", "(I)I"⟩
def rm_L_take : Room := { frames := 1, cells := 0, slots := 0, locals := 68 }
abbrev b_L_kindOf : ByteArray := prog_2_method_4_code
def y_L_kindOf : MethodName := ⟨N_L, "kindOf", "(I)I"⟩
def rm_L_kindOf : Room := { frames := 0, cells := 0, slots := 0, locals := 0 }
abbrev b_L_targetOf : ByteArray := prog_2_method_5_code
def y_L_targetOf : MethodName := ⟨N_L, "targetOf", "(I)I"⟩
def rm_L_targetOf : Room := { frames := 0, cells := 0, slots := 0, locals := 0 }
abbrev b_L_distanceOf : ByteArray := prog_2_method_6_code
def y_L_distanceOf : MethodName := ⟨N_L, "distanceOf", "(I)I"⟩
def rm_L_distanceOf : Room := { frames := 0, cells := 0, slots := 0, locals := 0 }
abbrev b_D_hear : ByteArray := prog_1_method_26_code
def y_D_hear : MethodName := ⟨N_D, "hear", "(LDiffusingRoutes$Route;II)V"⟩
def rm_D_hear : Room := { frames := 5, cells := 0, slots := 0, locals := 137 }
abbrev b_D_bring : ByteArray := prog_1_method_25_code
def y_D_bring : MethodName := ⟨N_D, "bring", "(I)I"⟩
def rm_D_bring : Room := { frames := 6, cells := 0, slots := 0, locals := 160 }
abbrev b_D_deliver : ByteArray := prog_1_method_4_code
def y_D_deliver : MethodName := ⟨N_D, "deliver", "(II)I"⟩
def rm_D_deliver : Room := { frames := 7, cells := 0, slots := 0, locals := 185 }
abbrev b_D_run : ByteArray := prog_1_method_5_code
def y_D_run : MethodName := ⟨N_D, "run", "(I)I"⟩
def rm_D_run : Room := { frames := 7, cells := 0, slots := 0, locals := 185 }
abbrev b_D_cost : ByteArray := prog_1_method_6_code
def y_D_cost : MethodName := ⟨N_D, "cost", "(II)I"⟩
def rm_D_cost : Room := { frames := 2, cells := 0, slots := 0, locals := 43 }
abbrev b_D_isRoute : ByteArray := prog_1_method_18_code
def y_D_isRoute : MethodName := ⟨N_D, "isRoute", "(II)Z"⟩
def rm_D_isRoute : Room := { frames := 1, cells := 0, slots := 0, locals := 21 }
abbrev b_D_distance : ByteArray := prog_1_method_7_code
def y_D_distance : MethodName := ⟨N_D, "distance", "(II)I"⟩
def rm_D_distance : Room := { frames := 2, cells := 0, slots := 0, locals := 43 }
abbrev b_D_limit : ByteArray := prog_1_method_8_code
def y_D_limit : MethodName := ⟨N_D, "limit", "(II)I"⟩
def rm_D_limit : Room := { frames := 2, cells := 0, slots := 0, locals := 43 }
abbrev b_D_next : ByteArray := prog_1_method_9_code
def y_D_next : MethodName := ⟨N_D, "next", "(II)I"⟩
def rm_D_next : Room := { frames := 2, cells := 0, slots := 0, locals := 43 }
abbrev b_D_state : ByteArray := prog_1_method_10_code
def y_D_state : MethodName := ⟨N_D, "state", "(II)I"⟩
def rm_D_state : Room := { frames := 2, cells := 0, slots := 0, locals := 43 }
abbrev b_D_told : ByteArray := prog_1_method_11_code
def y_D_told : MethodName := ⟨N_D, "told", "(III)I"⟩
def rm_D_told : Room := { frames := 2, cells := 0, slots := 0, locals := 43 }
abbrev b_D_waits : ByteArray := prog_1_method_12_code
def y_D_waits : MethodName := ⟨N_D, "waits", "(III)Z"⟩
def rm_D_waits : Room := { frames := 2, cells := 0, slots := 0, locals := 43 }
abbrev b_L_count : ByteArray := prog_2_method_10_code
def y_L_count : MethodName := ⟨N_L, "count", "(II)I"⟩
def rm_L_count : Room := { frames := 2, cells := 0, slots := 0, locals := 43 }
abbrev b_D_flight : ByteArray := prog_1_method_13_code
def y_D_flight : MethodName := ⟨N_D, "flight", "(II)I"⟩
def rm_D_flight : Room := { frames := 3, cells := 0, slots := 0, locals := 67 }
abbrev b_D_message : ByteArray := prog_1_method_14_code
def y_D_message : MethodName := ⟨N_D, "message", "(IIII)I"⟩
def rm_D_message : Room := { frames := 3, cells := 0, slots := 0, locals := 68 }
abbrev b_D_hops : ByteArray := prog_1_method_15_code
def y_D_hops : MethodName := ⟨N_D, "hops", "(II)I"⟩
def rm_D_hops : Room := { frames := 2, cells := 0, slots := 0, locals := 43 }
abbrev b_D_countBusy : ByteArray := prog_1_method_21_code
def y_D_countBusy : MethodName := ⟨N_D, "countBusy", "()I"⟩
def rm_D_countBusy : Room := { frames := 0, cells := 0, slots := 0, locals := 0 }
abbrev b_D_total : ByteArray := prog_1_method_16_code
def y_D_total : MethodName := ⟨N_D, "total", "(I)I"⟩
def rm_D_total : Room := { frames := 1, cells := 0, slots := 0, locals := 25 }
abbrev b_M_isRouter : ByteArray := prog_5_method_2_code
def y_M_isRouter : MethodName := ⟨N_M, "isRouter", "(I)Z"⟩
def rm_M_isRouter : Room := { frames := 0, cells := 0, slots := 0, locals := 0 }
abbrev b_M_isLink : ByteArray := prog_5_method_3_code
def y_M_isLink : MethodName := ⟨N_M, "isLink", "(II)Z"⟩
def rm_M_isLink : Room := { frames := 1, cells := 0, slots := 0, locals := 21 }
abbrev b_M_send : ByteArray := prog_5_method_4_code
def y_M_send : MethodName := ⟨N_M, "send", "(IIII)V"⟩
def rm_M_send : Room := { frames := 0, cells := 0, slots := 0, locals := 0 }
abbrev b_M_tellAll : ByteArray := prog_5_method_5_code
def y_M_tellAll : MethodName := ⟨N_M, "tellAll", "(IIII)I"⟩
def rm_M_tellAll : Room := { frames := 1, cells := 0, slots := 0, locals := 24 }
abbrev b_M_takeOut : ByteArray := prog_5_method_6_code
def y_M_takeOut : MethodName := ⟨N_M, "takeOut", "(I)V"⟩
def rm_M_takeOut : Room := { frames := 0, cells := 0, slots := 0, locals := 0 }
abbrev b_M_placeOf : ByteArray := prog_5_method_7_code
def y_M_placeOf : MethodName := ⟨N_M, "placeOf", "(III)I"⟩
def rm_M_placeOf : Room := { frames := 0, cells := 0, slots := 0, locals := 0 }
abbrev b_M_through : ByteArray := prog_5_method_8_code
def y_M_through : MethodName := ⟨N_M, "through", "(III)I"⟩
def rm_M_through : Room := { frames := 0, cells := 0, slots := 0, locals := 0 }
abbrev b_M_least : ByteArray := prog_5_method_9_code
def y_M_least : MethodName := ⟨N_M, "least", "(II)I"⟩
def rm_M_least : Room := { frames := 1, cells := 0, slots := 0, locals := 24 }
abbrev b_M_isSure : ByteArray := prog_5_method_10_code
def y_M_isSure : MethodName := ⟨N_M, "isSure", "(IIII)Z"⟩
def rm_M_isSure : Room := { frames := 1, cells := 0, slots := 0, locals := 24 }
abbrev b_M_isFine : ByteArray := prog_5_method_11_code
def y_M_isFine : MethodName := ⟨N_M, "isFine", "(II)Z"⟩
def rm_M_isFine : Room := { frames := 2, cells := 0, slots := 0, locals := 49 }
abbrev b_M_settle : ByteArray := prog_5_method_12_code
def y_M_settle : MethodName := ⟨N_M, "settle", "(II)V"⟩
def rm_M_settle : Room := { frames := 2, cells := 0, slots := 0, locals := 49 }
abbrev b_M_askAll : ByteArray := prog_5_method_13_code
def y_M_askAll : MethodName := ⟨N_M, "askAll", "(II)Z"⟩
def rm_M_askAll : Room := { frames := 2, cells := 0, slots := 0, locals := 50 }
abbrev b_M_end : ByteArray := prog_5_method_15_code
def y_M_end : MethodName := ⟨N_M, "end", "(II)V"⟩
def rm_M_end : Room := { frames := 3, cells := 0, slots := 0, locals := 75 }
abbrev b_M_look : ByteArray := prog_5_method_14_code
def y_M_look : MethodName := ⟨N_M, "look", "(III)V"⟩
def rm_M_look : Room := { frames := 4, cells := 0, slots := 0, locals := 101 }
abbrev b_M_endIfDone : ByteArray := prog_5_method_16_code
def y_M_endIfDone : MethodName := ⟨N_M, "endIfDone", "(II)V"⟩
def rm_M_endIfDone : Room := { frames := 4, cells := 0, slots := 0, locals := 101 }
abbrev b_M_hear : ByteArray := prog_5_method_17_code
def y_M_hear : MethodName := ⟨N_M, "hear", "(IIIII)V"⟩
def rm_M_hear : Room := { frames := 5, cells := 0, slots := 0, locals := 127 }
abbrev b_M_recost : ByteArray := prog_5_method_18_code
def y_M_recost : MethodName := ⟨N_M, "recost", "(II)V"⟩
def rm_M_recost : Room := { frames := 5, cells := 0, slots := 0, locals := 127 }
abbrev b_M_greet : ByteArray := prog_5_method_19_code
def y_M_greet : MethodName := ⟨N_M, "greet", "(II)V"⟩
def rm_M_greet : Room := { frames := 1, cells := 0, slots := 0, locals := 24 }
abbrev b_M_lose : ByteArray := prog_5_method_20_code
def y_M_lose : MethodName := ⟨N_M, "lose", "(II)V"⟩
def rm_M_lose : Room := { frames := 5, cells := 0, slots := 0, locals := 127 }
abbrev b_M_links : ByteArray := prog_5_method_21_code
def y_M_links : MethodName := ⟨N_M, "links", "()I"⟩
def rm_M_links : Room := { frames := 0, cells := 0, slots := 0, locals := 0 }
abbrev b_M_connect : ByteArray := prog_5_method_22_code
def y_M_connect : MethodName := ⟨N_M, "connect", "(III)I"⟩
def rm_M_connect : Room := { frames := 6, cells := 0, slots := 0, locals := 151 }
abbrev b_M_cut : ByteArray := prog_5_method_23_code
def y_M_cut : MethodName := ⟨N_M, "cut", "(II)I"⟩
def rm_M_cut : Room := { frames := 6, cells := 0, slots := 0, locals := 152 }
abbrev b_M_arrive : ByteArray := prog_5_method_24_code
def y_M_arrive : MethodName := ⟨N_M, "arrive", "(I)I"⟩
def rm_M_arrive : Room := { frames := 6, cells := 0, slots := 0, locals := 153 }
abbrev b_M_deliver : ByteArray := prog_5_method_25_code
def y_M_deliver : MethodName := ⟨N_M, "deliver", "(II)I"⟩
def rm_M_deliver : Room := { frames := 7, cells := 0, slots := 0, locals := 179 }
abbrev b_M_run : ByteArray := prog_5_method_26_code
def y_M_run : MethodName := ⟨N_M, "run", "(I)I"⟩
def rm_M_run : Room := { frames := 7, cells := 0, slots := 0, locals := 179 }
abbrev b_M_cost : ByteArray := prog_5_method_27_code
def y_M_cost : MethodName := ⟨N_M, "cost", "(II)I"⟩
def rm_M_cost : Room := { frames := 2, cells := 0, slots := 0, locals := 43 }
abbrev b_M_distance : ByteArray := prog_5_method_28_code
def y_M_distance : MethodName := ⟨N_M, "distance", "(II)I"⟩
def rm_M_distance : Room := { frames := 1, cells := 0, slots := 0, locals := 21 }
abbrev b_M_limit : ByteArray := prog_5_method_29_code
def y_M_limit : MethodName := ⟨N_M, "limit", "(II)I"⟩
def rm_M_limit : Room := { frames := 1, cells := 0, slots := 0, locals := 21 }
abbrev b_M_next : ByteArray := prog_5_method_30_code
def y_M_next : MethodName := ⟨N_M, "next", "(II)I"⟩
def rm_M_next : Room := { frames := 1, cells := 0, slots := 0, locals := 21 }
abbrev b_M_state : ByteArray := prog_5_method_31_code
def y_M_state : MethodName := ⟨N_M, "state", "(II)I"⟩
def rm_M_state : Room := { frames := 1, cells := 0, slots := 0, locals := 21 }
abbrev b_M_told : ByteArray := prog_5_method_32_code
def y_M_told : MethodName := ⟨N_M, "told", "(III)I"⟩
def rm_M_told : Room := { frames := 2, cells := 0, slots := 0, locals := 43 }
abbrev b_M_waits : ByteArray := prog_5_method_33_code
def y_M_waits : MethodName := ⟨N_M, "waits", "(III)Z"⟩
def rm_M_waits : Room := { frames := 1, cells := 0, slots := 0, locals := 21 }
abbrev b_M_flight : ByteArray := prog_5_method_34_code
def y_M_flight : MethodName := ⟨N_M, "flight", "(II)I"⟩
def rm_M_flight : Room := { frames := 2, cells := 0, slots := 0, locals := 43 }
abbrev b_M_message : ByteArray := prog_5_method_35_code
def y_M_message : MethodName := ⟨N_M, "message", "(IIII)I"⟩
def rm_M_message : Room := { frames := 1, cells := 0, slots := 0, locals := 25 }
abbrev b_M_hops : ByteArray := prog_5_method_36_code
def y_M_hops : MethodName := ⟨N_M, "hops", "(II)I"⟩
def rm_M_hops : Room := { frames := 1, cells := 0, slots := 0, locals := 21 }
abbrev b_M_total : ByteArray := prog_5_method_37_code
def y_M_total : MethodName := ⟨N_M, "total", "(I)I"⟩
def rm_M_total : Room := { frames := 1, cells := 0, slots := 0, locals := 22 }
def zT_0 : List Cond := [Cond.code Lib.Math.max.name Lib.Math.max.code 2 (some .int), Cond.code Lib.Math.min.name Lib.Math.min.code 2 (some .int), Cond.fieldLink N_D 102 N_R "grown" "Z", Cond.fieldLink N_D 105 N_R "asked" "Z", Cond.fieldLink N_D 108 N_R "told" "[I", Cond.fieldLink N_D 112 N_R "awaited" "[Z", Cond.fieldLink N_D 119 N_L "row" "[I", Cond.fieldLink N_D 131 N_L "sent" "[I", Cond.fieldLink N_D 18 N_D "routers" "I", Cond.fieldLink N_D 24 N_D "costs" "[[I", Cond.fieldLink N_D 29 N_D "routes" "[LDiffusingRoutes$Route;", Cond.fieldLink N_D 39 N_D "mail" "LDiffusingRoutes$Mail;", Cond.fieldLink N_D 51 N_D "links" "I", Cond.fieldLink N_D 79 N_L "first" "I", Cond.fieldLink N_D 89 N_R "distance" "I", Cond.fieldLink N_D 92 N_R "limit" "I", Cond.fieldLink N_D 95 N_R "next" "I", Cond.fieldLink N_D 98 N_R "busy" "Z", Cond.fieldLink N_L 11 N_L "row" "[I", Cond.fieldLink N_L 15 N_L "sent" "[I", Cond.fieldLink N_L 18 N_L "end" "I", Cond.fieldLink N_L 22 N_L "first" "I", Cond.fieldLink N_L 35 N_R "router" "I", Cond.fieldLink N_L 40 N_R "target" "I", Cond.fieldLink N_L 43 N_R "distance" "I", Cond.fieldLink N_M 13 N_M "distances" "[I", Cond.fieldLink N_M 16 N_M "limits" "[I", Cond.fieldLink N_M 19 N_M "nexts" "[I", Cond.fieldLink N_M 22 N_M "busy" "[Z", Cond.fieldLink N_M 26 N_M "asked" "[Z", Cond.fieldLink N_M 29 N_M "grown" "[Z", Cond.fieldLink N_M 32 N_M "tolds" "[I", Cond.fieldLink N_M 35 N_M "waiting" "[Z", Cond.fieldLink N_M 38 N_M "from" "[I", Cond.fieldLink N_M 41 N_M "to" "[I", Cond.fieldLink N_M 44 N_M "kinds" "[I", Cond.fieldLink N_M 47 N_M "targets" "[I", Cond.fieldLink N_M 50 N_M "carried" "[I", Cond.fieldLink N_M 53 N_M "sent" "[I", Cond.fieldLink N_M 56 N_M "routers" "I", Cond.fieldLink N_M 64 N_M "flying" "I", Cond.fieldLink N_M 7 N_M "costs" "[I", Cond.fieldLink N_R 15 N_R "target" "I", Cond.fieldLink N_R 18 N_R "costs" "[I", Cond.fieldLink N_R 22 N_R "told" "[I", Cond.fieldLink N_R 31 N_R "awaited" "[Z", Cond.fieldLink N_R 35 N_R "distance" "I", Cond.fieldLink N_R 38 N_R "limit" "I", Cond.fieldLink N_R 41 N_R "next" "I", Cond.fieldLink N_R 61 N_R "grown" "Z", Cond.fieldLink N_R 65 N_R "busy" "Z", Cond.fieldLink N_R 68 N_R "asked" "Z", Cond.fieldLink N_R 9 N_R "router" "I", Cond.initialized "java/lang/Math", Cond.initialized "java/lang/System", Cond.methodLink N_D 116 y_L_count, Cond.methodLink N_D 122 y_L_kindOf, Cond.methodLink N_D 125 y_L_targetOf, Cond.methodLink N_D 128 y_L_distanceOf, Cond.methodLink N_D 134 y_D_countBusy]
def zT_1 : List Cond := [Cond.methodLink N_D 137 y_L_send, Cond.methodLink N_D 141 y_R_isOwn, Cond.methodLink N_D 145 y_R_growIfFarther, Cond.methodLink N_D 149 y_D_look, Cond.methodLink N_D 15 Lib.Math.max.name, Cond.methodLink N_D 153 y_D_endIfDone, Cond.methodLink N_D 157 y_R_forget, Cond.methodLink N_D 160 y_L_take, Cond.methodLink N_D 163 y_L_senderOf, Cond.methodLink N_D 166 y_L_receiverOf, Cond.methodLink N_D 169 y_D_hear, Cond.methodLink N_D 172 y_R_takeBest, Cond.methodLink N_D 175 y_D_updateAllBut, Cond.methodLink N_D 178 y_R_measureAnew, Cond.methodLink N_D 181 y_D_askAll, Cond.methodLink N_D 184 y_R_isWaiting, Cond.methodLink N_D 187 y_R_calmDown, Cond.methodLink N_D 190 y_R_isNeighbour, Cond.methodLink N_D 43 y_D_isRouter, Cond.methodLink N_D 47 y_L_size, Cond.methodLink N_D 54 y_D_greet, Cond.methodLink N_D 58 y_D_weighAgain, Cond.methodLink N_D 61 y_D_isLink, Cond.methodLink N_D 65 y_L_drop, Cond.methodLink N_D 68 y_D_lose, Cond.methodLink N_D 71 y_L_find, Cond.methodLink N_D 75 y_D_bring, Cond.methodLink N_D 82 y_D_isRoute, Cond.methodLink N_D 85 y_D_route, Cond.methodLink N_D 9 Lib.Math.min.name, Cond.methodLink N_L 25 y_L_size, Cond.methodLink N_L 29 arraycopyName, Cond.methodLink N_L 46 y_L_senderOf, Cond.methodLink N_L 50 y_L_receiverOf, Cond.methodLink N_L 53 y_L_isFromTo, Cond.methodLink N_M 101 y_M_look, Cond.methodLink N_M 105 y_M_endIfDone, Cond.methodLink N_M 108 y_M_isLink, Cond.methodLink N_M 111 y_M_recost, Cond.methodLink N_M 114 y_M_greet, Cond.methodLink N_M 117 y_M_links, Cond.methodLink N_M 121 y_M_takeOut, Cond.methodLink N_M 125 y_M_lose, Cond.methodLink N_M 128 y_M_hear, Cond.methodLink N_M 132 y_M_placeOf, Cond.methodLink N_M 135 y_M_arrive, Cond.methodLink N_M 60 y_M_isRouter, Cond.methodLink N_M 67 y_M_send, Cond.methodLink N_M 71 y_M_through, Cond.methodLink N_M 75 y_M_least, Cond.methodLink N_M 79 y_M_isSure, Cond.methodLink N_M 83 y_M_tellAll, Cond.methodLink N_M 87 y_M_isFine, Cond.methodLink N_M 91 y_M_settle, Cond.methodLink N_M 95 y_M_askAll, Cond.methodLink N_M 98 y_M_end, Cond.methodLink N_R 44 Lib.Math.min.name, Cond.methodLink N_R 50 y_R_least, Cond.methodLink N_R 54 y_R_best, Cond.methodLink N_R 58 y_R_through]
def zT_2 : List Cond := [Cond.native arraycopyName, Cond.static Lib.Math.max.name, Cond.static Lib.Math.min.name, Cond.static arraycopyName, Cond.code y_D_isRouter b_D_isRouter 2 (some .boolean), Cond.initialized N_D, Cond.instanceMethod y_D_isRouter, Cond.selects N_D y_D_isRouter y_D_isRouter, Cond.code y_L_size b_L_size 1 (some .int), Cond.initialized N_L, Cond.instanceMethod y_L_size, Cond.selects N_L y_L_size y_L_size, Cond.code y_D_route b_D_route 3 (some (.object N_R)), Cond.instanceMethod y_D_route, Cond.selects N_D y_D_route y_D_route, Cond.code y_L_send b_L_send 4 none, Cond.instanceMethod y_L_send, Cond.selects N_L y_L_send y_L_send, Cond.code y_D_greet b_D_greet 5 none, Cond.instanceMethod y_D_greet, Cond.selects N_D y_D_greet y_D_greet, Cond.code y_R_isOwn b_R_isOwn 1 (some .boolean), Cond.initialized N_R, Cond.instanceMethod y_R_isOwn, Cond.selects N_R y_R_isOwn y_R_isOwn, Cond.code y_R_through b_R_through 2 (some .int), Cond.instanceMethod y_R_through, Cond.selects N_R y_R_through y_R_through, Cond.code y_R_growIfFarther b_R_growIfFarther 2 none, Cond.instanceMethod y_R_growIfFarther, Cond.selects N_R y_R_growIfFarther y_R_growIfFarther, Cond.code y_R_least b_R_least 3 (some .int), Cond.instanceMethod y_R_least, Cond.selects N_R y_R_least y_R_least, Cond.code y_R_best b_R_best 5 (some .int), Cond.instanceMethod y_R_best, Cond.selects N_R y_R_best y_R_best, Cond.code y_R_takeBest b_R_takeBest 4 (some .boolean), Cond.instanceMethod y_R_takeBest, Cond.selects N_R y_R_takeBest y_R_takeBest, Cond.code y_R_isNeighbour b_R_isNeighbour 2 (some .boolean), Cond.instanceMethod y_R_isNeighbour, Cond.selects N_R y_R_isNeighbour y_R_isNeighbour, Cond.code y_D_updateAllBut b_D_updateAllBut 4 none, Cond.instanceMethod y_D_updateAllBut, Cond.selects N_D y_D_updateAllBut y_D_updateAllBut, Cond.code y_R_measureAnew b_R_measureAnew 1 none, Cond.instanceMethod y_R_measureAnew, Cond.selects N_R y_R_measureAnew y_R_measureAnew, Cond.code y_D_askAll b_D_askAll 3 none, Cond.instanceMethod y_D_askAll, Cond.selects N_D y_D_askAll y_D_askAll, Cond.code y_D_look b_D_look 4 none, Cond.instanceMethod y_D_look, Cond.selects N_D y_D_look y_D_look, Cond.code y_R_isWaiting b_R_isWaiting 5 (some .boolean), Cond.instanceMethod y_R_isWaiting, Cond.selects N_R y_R_isWaiting y_R_isWaiting, Cond.code y_R_calmDown b_R_calmDown 1 none, Cond.instanceMethod y_R_calmDown]
def zT_3 : List Cond := [Cond.selects N_R y_R_calmDown y_R_calmDown, Cond.code y_D_endIfDone b_D_endIfDone 4 none, Cond.instanceMethod y_D_endIfDone, Cond.selects N_D y_D_endIfDone y_D_endIfDone, Cond.code y_D_weighAgain b_D_weighAgain 5 none, Cond.instanceMethod y_D_weighAgain, Cond.selects N_D y_D_weighAgain y_D_weighAgain, Cond.code y_D_connect b_D_connect 7 (some .int), Cond.instanceMethod y_D_connect, Cond.selects N_D y_D_connect y_D_connect, Cond.code y_D_isLink b_D_isLink 3 (some .boolean), Cond.instanceMethod y_D_isLink, Cond.selects N_D y_D_isLink y_D_isLink, Cond.code y_L_senderOf b_L_senderOf 1 (some .int), Cond.static y_L_senderOf, Cond.code y_L_receiverOf b_L_receiverOf 1 (some .int), Cond.static y_L_receiverOf, Cond.code y_L_isFromTo b_L_isFromTo 4 (some .boolean), Cond.instanceMethod y_L_isFromTo, Cond.selects N_L y_L_isFromTo y_L_isFromTo, Cond.code y_L_drop b_L_drop 5 (some .int), Cond.instanceMethod y_L_drop, Cond.selects N_L y_L_drop y_L_drop, Cond.code y_R_forget b_R_forget 2 none, Cond.instanceMethod y_R_forget, Cond.selects N_R y_R_forget y_R_forget, Cond.code y_D_lose b_D_lose 5 none, Cond.instanceMethod y_D_lose, Cond.selects N_D y_D_lose y_D_lose, Cond.code y_D_cut b_D_cut 6 (some .int), Cond.instanceMethod y_D_cut, Cond.selects N_D y_D_cut y_D_cut, Cond.code y_L_find b_L_find 6 (some .int), Cond.instanceMethod y_L_find, Cond.selects N_L y_L_find y_L_find, Cond.code y_L_take b_L_take 3 (some .int), Cond.instanceMethod y_L_take, Cond.selects N_L y_L_take y_L_take, Cond.code y_L_kindOf b_L_kindOf 1 (some .int), Cond.static y_L_kindOf, Cond.code y_L_targetOf b_L_targetOf 1 (some .int), Cond.static y_L_targetOf, Cond.code y_L_distanceOf b_L_distanceOf 1 (some .int), Cond.static y_L_distanceOf, Cond.code y_D_hear b_D_hear 4 none, Cond.instanceMethod y_D_hear, Cond.selects N_D y_D_hear y_D_hear, Cond.code y_D_bring b_D_bring 6 (some .int), Cond.instanceMethod y_D_bring, Cond.selects N_D y_D_bring y_D_bring, Cond.code y_D_deliver b_D_deliver 4 (some .int), Cond.instanceMethod y_D_deliver, Cond.selects N_D y_D_deliver y_D_deliver, Cond.code y_D_run b_D_run 3 (some .int), Cond.instanceMethod y_D_run, Cond.selects N_D y_D_run y_D_run, Cond.code y_D_cost b_D_cost 3 (some .int), Cond.instanceMethod y_D_cost, Cond.selects N_D y_D_cost y_D_cost, Cond.code y_D_isRoute b_D_isRoute 3 (some .boolean)]
def zT_4 : List Cond := [Cond.instanceMethod y_D_isRoute, Cond.selects N_D y_D_isRoute y_D_isRoute, Cond.code y_D_distance b_D_distance 3 (some .int), Cond.instanceMethod y_D_distance, Cond.selects N_D y_D_distance y_D_distance, Cond.code y_D_limit b_D_limit 3 (some .int), Cond.instanceMethod y_D_limit, Cond.selects N_D y_D_limit y_D_limit, Cond.code y_D_next b_D_next 3 (some .int), Cond.instanceMethod y_D_next, Cond.selects N_D y_D_next y_D_next, Cond.code y_D_state b_D_state 4 (some .int), Cond.instanceMethod y_D_state, Cond.selects N_D y_D_state y_D_state, Cond.code y_D_told b_D_told 4 (some .int), Cond.instanceMethod y_D_told, Cond.selects N_D y_D_told y_D_told, Cond.code y_D_waits b_D_waits 4 (some .boolean), Cond.instanceMethod y_D_waits, Cond.selects N_D y_D_waits y_D_waits, Cond.code y_L_count b_L_count 5 (some .int), Cond.instanceMethod y_L_count, Cond.selects N_L y_L_count y_L_count, Cond.code y_D_flight b_D_flight 3 (some .int), Cond.instanceMethod y_D_flight, Cond.selects N_D y_D_flight y_D_flight, Cond.code y_D_message b_D_message 7 (some .int), Cond.instanceMethod y_D_message, Cond.selects N_D y_D_message y_D_message, Cond.code y_D_hops b_D_hops 5 (some .int), Cond.instanceMethod y_D_hops, Cond.selects N_D y_D_hops y_D_hops, Cond.code y_D_countBusy b_D_countBusy 6 (some .int), Cond.instanceMethod y_D_countBusy, Cond.selects N_D y_D_countBusy y_D_countBusy, Cond.code y_D_total b_D_total 2 (some .int), Cond.instanceMethod y_D_total, Cond.selects N_D y_D_total y_D_total, Cond.code y_M_isRouter b_M_isRouter 2 (some .boolean), Cond.initialized N_M, Cond.instanceMethod y_M_isRouter, Cond.selects N_M y_M_isRouter y_M_isRouter, Cond.code y_M_isLink b_M_isLink 3 (some .boolean), Cond.instanceMethod y_M_isLink, Cond.selects N_M y_M_isLink y_M_isLink, Cond.code y_M_send b_M_send 5 none, Cond.instanceMethod y_M_send, Cond.selects N_M y_M_send y_M_send, Cond.code y_M_tellAll b_M_tellAll 7 (some .int), Cond.instanceMethod y_M_tellAll, Cond.selects N_M y_M_tellAll y_M_tellAll, Cond.code y_M_takeOut b_M_takeOut 3 none, Cond.instanceMethod y_M_takeOut, Cond.selects N_M y_M_takeOut y_M_takeOut, Cond.code y_M_placeOf b_M_placeOf 6 (some .int), Cond.instanceMethod y_M_placeOf, Cond.selects N_M y_M_placeOf y_M_placeOf, Cond.code y_M_through b_M_through 5 (some .int), Cond.instanceMethod y_M_through, Cond.selects N_M y_M_through y_M_through]
def zT_5 : List Cond := [Cond.code y_M_least b_M_least 6 (some .int), Cond.instanceMethod y_M_least, Cond.selects N_M y_M_least y_M_least, Cond.code y_M_isSure b_M_isSure 5 (some .boolean), Cond.instanceMethod y_M_isSure, Cond.selects N_M y_M_isSure y_M_isSure, Cond.code y_M_isFine b_M_isFine 6 (some .boolean), Cond.instanceMethod y_M_isFine, Cond.selects N_M y_M_isFine y_M_isFine, Cond.code y_M_settle b_M_settle 7 none, Cond.instanceMethod y_M_settle, Cond.selects N_M y_M_settle y_M_settle, Cond.code y_M_askAll b_M_askAll 6 (some .boolean), Cond.instanceMethod y_M_askAll, Cond.selects N_M y_M_askAll y_M_askAll, Cond.code y_M_end b_M_end 7 none, Cond.instanceMethod y_M_end, Cond.selects N_M y_M_end y_M_end, Cond.code y_M_look b_M_look 7 none, Cond.instanceMethod y_M_look, Cond.selects N_M y_M_look y_M_look, Cond.code y_M_endIfDone b_M_endIfDone 5 none, Cond.instanceMethod y_M_endIfDone, Cond.selects N_M y_M_endIfDone y_M_endIfDone, Cond.code y_M_hear b_M_hear 7 none, Cond.instanceMethod y_M_hear, Cond.selects N_M y_M_hear y_M_hear, Cond.code y_M_recost b_M_recost 5 none, Cond.instanceMethod y_M_recost, Cond.selects N_M y_M_recost y_M_recost, Cond.code y_M_greet b_M_greet 4 none, Cond.instanceMethod y_M_greet, Cond.selects N_M y_M_greet y_M_greet, Cond.code y_M_lose b_M_lose 6 none, Cond.instanceMethod y_M_lose, Cond.selects N_M y_M_lose y_M_lose, Cond.code y_M_links b_M_links 3 (some .int), Cond.instanceMethod y_M_links, Cond.selects N_M y_M_links y_M_links, Cond.code y_M_connect b_M_connect 7 (some .int), Cond.instanceMethod y_M_connect, Cond.selects N_M y_M_connect y_M_connect, Cond.code y_M_cut b_M_cut 5 (some .int), Cond.instanceMethod y_M_cut, Cond.selects N_M y_M_cut y_M_cut, Cond.code y_M_arrive b_M_arrive 7 (some .int), Cond.instanceMethod y_M_arrive, Cond.selects N_M y_M_arrive y_M_arrive, Cond.code y_M_deliver b_M_deliver 4 (some .int), Cond.instanceMethod y_M_deliver, Cond.selects N_M y_M_deliver y_M_deliver, Cond.code y_M_run b_M_run 4 (some .int), Cond.instanceMethod y_M_run, Cond.selects N_M y_M_run y_M_run, Cond.code y_M_cost b_M_cost 3 (some .int), Cond.instanceMethod y_M_cost, Cond.selects N_M y_M_cost y_M_cost, Cond.code y_M_distance b_M_distance 3 (some .int), Cond.instanceMethod y_M_distance, Cond.selects N_M y_M_distance y_M_distance]
def zT_6 : List Cond := [Cond.code y_M_limit b_M_limit 3 (some .int), Cond.instanceMethod y_M_limit, Cond.selects N_M y_M_limit y_M_limit, Cond.code y_M_next b_M_next 3 (some .int), Cond.instanceMethod y_M_next, Cond.selects N_M y_M_next y_M_next, Cond.code y_M_state b_M_state 4 (some .int), Cond.instanceMethod y_M_state, Cond.selects N_M y_M_state y_M_state, Cond.code y_M_told b_M_told 4 (some .int), Cond.instanceMethod y_M_told, Cond.selects N_M y_M_told y_M_told, Cond.code y_M_waits b_M_waits 4 (some .boolean), Cond.instanceMethod y_M_waits, Cond.selects N_M y_M_waits y_M_waits, Cond.code y_M_flight b_M_flight 5 (some .int), Cond.instanceMethod y_M_flight, Cond.selects N_M y_M_flight y_M_flight, Cond.code y_M_message b_M_message 6 (some .int), Cond.instanceMethod y_M_message, Cond.selects N_M y_M_message y_M_message, Cond.code y_M_hops b_M_hops 6 (some .int), Cond.instanceMethod y_M_hops, Cond.selects N_M y_M_hops y_M_hops, Cond.code y_M_total b_M_total 4 (some .int), Cond.instanceMethod y_M_total, Cond.selects N_M y_M_total y_M_total, u_lay N_D FT_D 0, u_lay N_D FT_D 1, u_lay N_D FT_D 2, u_lay N_D FT_D 3, u_lay N_D FT_D 4, u_lay N_R FT_R 0, u_lay N_R FT_R 1, u_lay N_R FT_R 2, u_lay N_R FT_R 3, u_lay N_R FT_R 4, u_lay N_R FT_R 5, u_lay N_R FT_R 6, u_lay N_R FT_R 7, u_lay N_R FT_R 8, u_lay N_R FT_R 9, u_lay N_R FT_R 10, u_lay N_L FT_L 0, u_lay N_L FT_L 1, u_lay N_L FT_L 2, u_lay N_L FT_L 3, u_lay N_M FT_M 0, u_lay N_M FT_M 1, u_lay N_M FT_M 2, u_lay N_M FT_M 3, u_lay N_M FT_M 4, u_lay N_M FT_M 5, u_lay N_M FT_M 6, u_lay N_M FT_M 7, u_lay N_M FT_M 8, u_lay N_M FT_M 9, u_lay N_M FT_M 10, u_lay N_M FT_M 11, u_lay N_M FT_M 12]
def zT_7 : List Cond := [u_lay N_M FT_M 13, u_lay N_M FT_M 14, u_lay N_M FT_M 15, u_lay N_M FT_M 16]
def zT : List Cond := zT_0 ++ (zT_1 ++ (zT_2 ++ (zT_3 ++ (zT_4 ++ (zT_5 ++ (zT_6 ++ (zT_7)))))))
theorem zx_0 : Cond.code Lib.Math.max.name Lib.Math.max.code 2 (some .int) ∈ zT := List.mem_of_getElem? (i := 0) (by rfl)
theorem zx_1 : Cond.code Lib.Math.min.name Lib.Math.min.code 2 (some .int) ∈ zT := List.mem_of_getElem? (i := 1) (by rfl)
theorem zx_2 : Cond.fieldLink N_D 102 N_R "grown" "Z" ∈ zT := List.mem_of_getElem? (i := 2) (by rfl)
theorem zx_3 : Cond.fieldLink N_D 105 N_R "asked" "Z" ∈ zT := List.mem_of_getElem? (i := 3) (by rfl)
theorem zx_4 : Cond.fieldLink N_D 108 N_R "told" "[I" ∈ zT := List.mem_of_getElem? (i := 4) (by rfl)
theorem zx_5 : Cond.fieldLink N_D 112 N_R "awaited" "[Z" ∈ zT := List.mem_of_getElem? (i := 5) (by rfl)
theorem zx_6 : Cond.fieldLink N_D 119 N_L "row" "[I" ∈ zT := List.mem_of_getElem? (i := 6) (by rfl)
theorem zx_7 : Cond.fieldLink N_D 131 N_L "sent" "[I" ∈ zT := List.mem_of_getElem? (i := 7) (by rfl)
theorem zx_8 : Cond.fieldLink N_D 18 N_D "routers" "I" ∈ zT := List.mem_of_getElem? (i := 8) (by rfl)
theorem zx_9 : Cond.fieldLink N_D 24 N_D "costs" "[[I" ∈ zT := List.mem_of_getElem? (i := 9) (by rfl)
theorem zx_10 : Cond.fieldLink N_D 29 N_D "routes" "[LDiffusingRoutes$Route;" ∈ zT := List.mem_of_getElem? (i := 10) (by rfl)
theorem zx_11 : Cond.fieldLink N_D 39 N_D "mail" "LDiffusingRoutes$Mail;" ∈ zT := List.mem_of_getElem? (i := 11) (by rfl)
theorem zx_12 : Cond.fieldLink N_D 51 N_D "links" "I" ∈ zT := List.mem_of_getElem? (i := 12) (by rfl)
theorem zx_13 : Cond.fieldLink N_D 79 N_L "first" "I" ∈ zT := List.mem_of_getElem? (i := 13) (by rfl)
theorem zx_14 : Cond.fieldLink N_D 89 N_R "distance" "I" ∈ zT := List.mem_of_getElem? (i := 14) (by rfl)
theorem zx_15 : Cond.fieldLink N_D 92 N_R "limit" "I" ∈ zT := List.mem_of_getElem? (i := 15) (by rfl)
theorem zx_16 : Cond.fieldLink N_D 95 N_R "next" "I" ∈ zT := List.mem_of_getElem? (i := 16) (by rfl)
theorem zx_17 : Cond.fieldLink N_D 98 N_R "busy" "Z" ∈ zT := List.mem_of_getElem? (i := 17) (by rfl)
theorem zx_18 : Cond.fieldLink N_L 11 N_L "row" "[I" ∈ zT := List.mem_of_getElem? (i := 18) (by rfl)
theorem zx_19 : Cond.fieldLink N_L 15 N_L "sent" "[I" ∈ zT := List.mem_of_getElem? (i := 19) (by rfl)
theorem zx_20 : Cond.fieldLink N_L 18 N_L "end" "I" ∈ zT := List.mem_of_getElem? (i := 20) (by rfl)
theorem zx_21 : Cond.fieldLink N_L 22 N_L "first" "I" ∈ zT := List.mem_of_getElem? (i := 21) (by rfl)
theorem zx_22 : Cond.fieldLink N_L 35 N_R "router" "I" ∈ zT := List.mem_of_getElem? (i := 22) (by rfl)
theorem zx_23 : Cond.fieldLink N_L 40 N_R "target" "I" ∈ zT := List.mem_of_getElem? (i := 23) (by rfl)
theorem zx_24 : Cond.fieldLink N_L 43 N_R "distance" "I" ∈ zT := List.mem_of_getElem? (i := 24) (by rfl)
theorem zx_25 : Cond.fieldLink N_M 13 N_M "distances" "[I" ∈ zT := List.mem_of_getElem? (i := 25) (by rfl)
theorem zx_26 : Cond.fieldLink N_M 16 N_M "limits" "[I" ∈ zT := List.mem_of_getElem? (i := 26) (by rfl)
theorem zx_27 : Cond.fieldLink N_M 19 N_M "nexts" "[I" ∈ zT := List.mem_of_getElem? (i := 27) (by rfl)
theorem zx_28 : Cond.fieldLink N_M 22 N_M "busy" "[Z" ∈ zT := List.mem_of_getElem? (i := 28) (by rfl)
theorem zx_29 : Cond.fieldLink N_M 26 N_M "asked" "[Z" ∈ zT := List.mem_of_getElem? (i := 29) (by rfl)
theorem zx_30 : Cond.fieldLink N_M 29 N_M "grown" "[Z" ∈ zT := List.mem_of_getElem? (i := 30) (by rfl)
theorem zx_31 : Cond.fieldLink N_M 32 N_M "tolds" "[I" ∈ zT := List.mem_of_getElem? (i := 31) (by rfl)
theorem zx_32 : Cond.fieldLink N_M 35 N_M "waiting" "[Z" ∈ zT := List.mem_of_getElem? (i := 32) (by rfl)
theorem zx_33 : Cond.fieldLink N_M 38 N_M "from" "[I" ∈ zT := List.mem_of_getElem? (i := 33) (by rfl)
theorem zx_34 : Cond.fieldLink N_M 41 N_M "to" "[I" ∈ zT := List.mem_of_getElem? (i := 34) (by rfl)
theorem zx_35 : Cond.fieldLink N_M 44 N_M "kinds" "[I" ∈ zT := List.mem_of_getElem? (i := 35) (by rfl)
theorem zx_36 : Cond.fieldLink N_M 47 N_M "targets" "[I" ∈ zT := List.mem_of_getElem? (i := 36) (by rfl)
theorem zx_37 : Cond.fieldLink N_M 50 N_M "carried" "[I" ∈ zT := List.mem_of_getElem? (i := 37) (by rfl)
theorem zx_38 : Cond.fieldLink N_M 53 N_M "sent" "[I" ∈ zT := List.mem_of_getElem? (i := 38) (by rfl)
theorem zx_39 : Cond.fieldLink N_M 56 N_M "routers" "I" ∈ zT := List.mem_of_getElem? (i := 39) (by rfl)
theorem zx_40 : Cond.fieldLink N_M 64 N_M "flying" "I" ∈ zT := List.mem_of_getElem? (i := 40) (by rfl)
theorem zx_41 : Cond.fieldLink N_M 7 N_M "costs" "[I" ∈ zT := List.mem_of_getElem? (i := 41) (by rfl)
theorem zx_42 : Cond.fieldLink N_R 15 N_R "target" "I" ∈ zT := List.mem_of_getElem? (i := 42) (by rfl)
theorem zx_43 : Cond.fieldLink N_R 18 N_R "costs" "[I" ∈ zT := List.mem_of_getElem? (i := 43) (by rfl)
theorem zx_44 : Cond.fieldLink N_R 22 N_R "told" "[I" ∈ zT := List.mem_of_getElem? (i := 44) (by rfl)
theorem zx_45 : Cond.fieldLink N_R 31 N_R "awaited" "[Z" ∈ zT := List.mem_of_getElem? (i := 45) (by rfl)
theorem zx_46 : Cond.fieldLink N_R 35 N_R "distance" "I" ∈ zT := List.mem_of_getElem? (i := 46) (by rfl)
theorem zx_47 : Cond.fieldLink N_R 38 N_R "limit" "I" ∈ zT := List.mem_of_getElem? (i := 47) (by rfl)
theorem zx_48 : Cond.fieldLink N_R 41 N_R "next" "I" ∈ zT := List.mem_of_getElem? (i := 48) (by rfl)
theorem zx_49 : Cond.fieldLink N_R 61 N_R "grown" "Z" ∈ zT := List.mem_of_getElem? (i := 49) (by rfl)
theorem zx_50 : Cond.fieldLink N_R 65 N_R "busy" "Z" ∈ zT := List.mem_of_getElem? (i := 50) (by rfl)
theorem zx_51 : Cond.fieldLink N_R 68 N_R "asked" "Z" ∈ zT := List.mem_of_getElem? (i := 51) (by rfl)
theorem zx_52 : Cond.fieldLink N_R 9 N_R "router" "I" ∈ zT := List.mem_of_getElem? (i := 52) (by rfl)
theorem zx_53 : Cond.initialized "java/lang/Math" ∈ zT := List.mem_of_getElem? (i := 53) (by rfl)
theorem zx_54 : Cond.initialized "java/lang/System" ∈ zT := List.mem_of_getElem? (i := 54) (by rfl)
theorem zx_55 : Cond.methodLink N_D 116 y_L_count ∈ zT := List.mem_of_getElem? (i := 55) (by rfl)
theorem zx_56 : Cond.methodLink N_D 122 y_L_kindOf ∈ zT := List.mem_of_getElem? (i := 56) (by rfl)
theorem zx_57 : Cond.methodLink N_D 125 y_L_targetOf ∈ zT := List.mem_of_getElem? (i := 57) (by rfl)
theorem zx_58 : Cond.methodLink N_D 128 y_L_distanceOf ∈ zT := List.mem_of_getElem? (i := 58) (by rfl)
theorem zx_59 : Cond.methodLink N_D 134 y_D_countBusy ∈ zT := List.mem_of_getElem? (i := 59) (by rfl)
theorem zx_60 : Cond.methodLink N_D 137 y_L_send ∈ zT := List.mem_of_getElem? (i := 60) (by rfl)
theorem zx_61 : Cond.methodLink N_D 141 y_R_isOwn ∈ zT := List.mem_of_getElem? (i := 61) (by rfl)
theorem zx_62 : Cond.methodLink N_D 145 y_R_growIfFarther ∈ zT := List.mem_of_getElem? (i := 62) (by rfl)
theorem zx_63 : Cond.methodLink N_D 149 y_D_look ∈ zT := List.mem_of_getElem? (i := 63) (by rfl)
theorem zx_64 : Cond.methodLink N_D 15 Lib.Math.max.name ∈ zT := List.mem_of_getElem? (i := 64) (by rfl)
theorem zx_65 : Cond.methodLink N_D 153 y_D_endIfDone ∈ zT := List.mem_of_getElem? (i := 65) (by rfl)
theorem zx_66 : Cond.methodLink N_D 157 y_R_forget ∈ zT := List.mem_of_getElem? (i := 66) (by rfl)
theorem zx_67 : Cond.methodLink N_D 160 y_L_take ∈ zT := List.mem_of_getElem? (i := 67) (by rfl)
theorem zx_68 : Cond.methodLink N_D 163 y_L_senderOf ∈ zT := List.mem_of_getElem? (i := 68) (by rfl)
theorem zx_69 : Cond.methodLink N_D 166 y_L_receiverOf ∈ zT := List.mem_of_getElem? (i := 69) (by rfl)
theorem zx_70 : Cond.methodLink N_D 169 y_D_hear ∈ zT := List.mem_of_getElem? (i := 70) (by rfl)
theorem zx_71 : Cond.methodLink N_D 172 y_R_takeBest ∈ zT := List.mem_of_getElem? (i := 71) (by rfl)
theorem zx_72 : Cond.methodLink N_D 175 y_D_updateAllBut ∈ zT := List.mem_of_getElem? (i := 72) (by rfl)
theorem zx_73 : Cond.methodLink N_D 178 y_R_measureAnew ∈ zT := List.mem_of_getElem? (i := 73) (by rfl)
theorem zx_74 : Cond.methodLink N_D 181 y_D_askAll ∈ zT := List.mem_of_getElem? (i := 74) (by rfl)
theorem zx_75 : Cond.methodLink N_D 184 y_R_isWaiting ∈ zT := List.mem_of_getElem? (i := 75) (by rfl)
theorem zx_76 : Cond.methodLink N_D 187 y_R_calmDown ∈ zT := List.mem_of_getElem? (i := 76) (by rfl)
theorem zx_77 : Cond.methodLink N_D 190 y_R_isNeighbour ∈ zT := List.mem_of_getElem? (i := 77) (by rfl)
theorem zx_78 : Cond.methodLink N_D 43 y_D_isRouter ∈ zT := List.mem_of_getElem? (i := 78) (by rfl)
theorem zx_79 : Cond.methodLink N_D 47 y_L_size ∈ zT := List.mem_of_getElem? (i := 79) (by rfl)
theorem zx_80 : Cond.methodLink N_D 54 y_D_greet ∈ zT := List.mem_of_getElem? (i := 80) (by rfl)
theorem zx_81 : Cond.methodLink N_D 58 y_D_weighAgain ∈ zT := List.mem_of_getElem? (i := 81) (by rfl)
theorem zx_82 : Cond.methodLink N_D 61 y_D_isLink ∈ zT := List.mem_of_getElem? (i := 82) (by rfl)
theorem zx_83 : Cond.methodLink N_D 65 y_L_drop ∈ zT := List.mem_of_getElem? (i := 83) (by rfl)
theorem zx_84 : Cond.methodLink N_D 68 y_D_lose ∈ zT := List.mem_of_getElem? (i := 84) (by rfl)
theorem zx_85 : Cond.methodLink N_D 71 y_L_find ∈ zT := List.mem_of_getElem? (i := 85) (by rfl)
theorem zx_86 : Cond.methodLink N_D 75 y_D_bring ∈ zT := List.mem_of_getElem? (i := 86) (by rfl)
theorem zx_87 : Cond.methodLink N_D 82 y_D_isRoute ∈ zT := List.mem_of_getElem? (i := 87) (by rfl)
theorem zx_88 : Cond.methodLink N_D 85 y_D_route ∈ zT := List.mem_of_getElem? (i := 88) (by rfl)
theorem zx_89 : Cond.methodLink N_D 9 Lib.Math.min.name ∈ zT := List.mem_of_getElem? (i := 89) (by rfl)
theorem zx_90 : Cond.methodLink N_L 25 y_L_size ∈ zT := List.mem_of_getElem? (i := 90) (by rfl)
theorem zx_91 : Cond.methodLink N_L 29 arraycopyName ∈ zT := List.mem_of_getElem? (i := 91) (by rfl)
theorem zx_92 : Cond.methodLink N_L 46 y_L_senderOf ∈ zT := List.mem_of_getElem? (i := 92) (by rfl)
theorem zx_93 : Cond.methodLink N_L 50 y_L_receiverOf ∈ zT := List.mem_of_getElem? (i := 93) (by rfl)
theorem zx_94 : Cond.methodLink N_L 53 y_L_isFromTo ∈ zT := List.mem_of_getElem? (i := 94) (by rfl)
theorem zx_95 : Cond.methodLink N_M 101 y_M_look ∈ zT := List.mem_of_getElem? (i := 95) (by rfl)
theorem zx_96 : Cond.methodLink N_M 105 y_M_endIfDone ∈ zT := List.mem_of_getElem? (i := 96) (by rfl)
theorem zx_97 : Cond.methodLink N_M 108 y_M_isLink ∈ zT := List.mem_of_getElem? (i := 97) (by rfl)
theorem zx_98 : Cond.methodLink N_M 111 y_M_recost ∈ zT := List.mem_of_getElem? (i := 98) (by rfl)
theorem zx_99 : Cond.methodLink N_M 114 y_M_greet ∈ zT := List.mem_of_getElem? (i := 99) (by rfl)
theorem zx_100 : Cond.methodLink N_M 117 y_M_links ∈ zT := List.mem_of_getElem? (i := 100) (by rfl)
theorem zx_101 : Cond.methodLink N_M 121 y_M_takeOut ∈ zT := List.mem_of_getElem? (i := 101) (by rfl)
theorem zx_102 : Cond.methodLink N_M 125 y_M_lose ∈ zT := List.mem_of_getElem? (i := 102) (by rfl)
theorem zx_103 : Cond.methodLink N_M 128 y_M_hear ∈ zT := List.mem_of_getElem? (i := 103) (by rfl)
theorem zx_104 : Cond.methodLink N_M 132 y_M_placeOf ∈ zT := List.mem_of_getElem? (i := 104) (by rfl)
theorem zx_105 : Cond.methodLink N_M 135 y_M_arrive ∈ zT := List.mem_of_getElem? (i := 105) (by rfl)
theorem zx_106 : Cond.methodLink N_M 60 y_M_isRouter ∈ zT := List.mem_of_getElem? (i := 106) (by rfl)
theorem zx_107 : Cond.methodLink N_M 67 y_M_send ∈ zT := List.mem_of_getElem? (i := 107) (by rfl)
theorem zx_108 : Cond.methodLink N_M 71 y_M_through ∈ zT := List.mem_of_getElem? (i := 108) (by rfl)
theorem zx_109 : Cond.methodLink N_M 75 y_M_least ∈ zT := List.mem_of_getElem? (i := 109) (by rfl)
theorem zx_110 : Cond.methodLink N_M 79 y_M_isSure ∈ zT := List.mem_of_getElem? (i := 110) (by rfl)
theorem zx_111 : Cond.methodLink N_M 83 y_M_tellAll ∈ zT := List.mem_of_getElem? (i := 111) (by rfl)
theorem zx_112 : Cond.methodLink N_M 87 y_M_isFine ∈ zT := List.mem_of_getElem? (i := 112) (by rfl)
theorem zx_113 : Cond.methodLink N_M 91 y_M_settle ∈ zT := List.mem_of_getElem? (i := 113) (by rfl)
theorem zx_114 : Cond.methodLink N_M 95 y_M_askAll ∈ zT := List.mem_of_getElem? (i := 114) (by rfl)
theorem zx_115 : Cond.methodLink N_M 98 y_M_end ∈ zT := List.mem_of_getElem? (i := 115) (by rfl)
theorem zx_116 : Cond.methodLink N_R 44 Lib.Math.min.name ∈ zT := List.mem_of_getElem? (i := 116) (by rfl)
theorem zx_117 : Cond.methodLink N_R 50 y_R_least ∈ zT := List.mem_of_getElem? (i := 117) (by rfl)
theorem zx_118 : Cond.methodLink N_R 54 y_R_best ∈ zT := List.mem_of_getElem? (i := 118) (by rfl)
theorem zx_119 : Cond.methodLink N_R 58 y_R_through ∈ zT := List.mem_of_getElem? (i := 119) (by rfl)
theorem zx_120 : Cond.native arraycopyName ∈ zT := List.mem_of_getElem? (i := 120) (by rfl)
theorem zx_121 : Cond.static Lib.Math.max.name ∈ zT := List.mem_of_getElem? (i := 121) (by rfl)
theorem zx_122 : Cond.static Lib.Math.min.name ∈ zT := List.mem_of_getElem? (i := 122) (by rfl)
theorem zx_123 : Cond.static arraycopyName ∈ zT := List.mem_of_getElem? (i := 123) (by rfl)
theorem zx_124 : Cond.code y_D_isRouter b_D_isRouter 2 (some .boolean) ∈ zT := List.mem_of_getElem? (i := 124) (by rfl)
theorem zx_125 : Cond.initialized N_D ∈ zT := List.mem_of_getElem? (i := 125) (by rfl)
theorem zx_126 : Cond.instanceMethod y_D_isRouter ∈ zT := List.mem_of_getElem? (i := 126) (by rfl)
theorem zx_127 : Cond.selects N_D y_D_isRouter y_D_isRouter ∈ zT := List.mem_of_getElem? (i := 127) (by rfl)
theorem zx_128 : Cond.code y_L_size b_L_size 1 (some .int) ∈ zT := List.mem_of_getElem? (i := 128) (by rfl)
theorem zx_129 : Cond.initialized N_L ∈ zT := List.mem_of_getElem? (i := 129) (by rfl)
theorem zx_130 : Cond.instanceMethod y_L_size ∈ zT := List.mem_of_getElem? (i := 130) (by rfl)
theorem zx_131 : Cond.selects N_L y_L_size y_L_size ∈ zT := List.mem_of_getElem? (i := 131) (by rfl)
theorem zx_132 : Cond.code y_D_route b_D_route 3 (some (.object N_R)) ∈ zT := List.mem_of_getElem? (i := 132) (by rfl)
theorem zx_133 : Cond.instanceMethod y_D_route ∈ zT := List.mem_of_getElem? (i := 133) (by rfl)
theorem zx_134 : Cond.selects N_D y_D_route y_D_route ∈ zT := List.mem_of_getElem? (i := 134) (by rfl)
theorem zx_135 : Cond.code y_L_send b_L_send 4 none ∈ zT := List.mem_of_getElem? (i := 135) (by rfl)
theorem zx_136 : Cond.instanceMethod y_L_send ∈ zT := List.mem_of_getElem? (i := 136) (by rfl)
theorem zx_137 : Cond.selects N_L y_L_send y_L_send ∈ zT := List.mem_of_getElem? (i := 137) (by rfl)
theorem zx_138 : Cond.code y_D_greet b_D_greet 5 none ∈ zT := List.mem_of_getElem? (i := 138) (by rfl)
theorem zx_139 : Cond.instanceMethod y_D_greet ∈ zT := List.mem_of_getElem? (i := 139) (by rfl)
theorem zx_140 : Cond.selects N_D y_D_greet y_D_greet ∈ zT := List.mem_of_getElem? (i := 140) (by rfl)
theorem zx_141 : Cond.code y_R_isOwn b_R_isOwn 1 (some .boolean) ∈ zT := List.mem_of_getElem? (i := 141) (by rfl)
theorem zx_142 : Cond.initialized N_R ∈ zT := List.mem_of_getElem? (i := 142) (by rfl)
theorem zx_143 : Cond.instanceMethod y_R_isOwn ∈ zT := List.mem_of_getElem? (i := 143) (by rfl)
theorem zx_144 : Cond.selects N_R y_R_isOwn y_R_isOwn ∈ zT := List.mem_of_getElem? (i := 144) (by rfl)
theorem zx_145 : Cond.code y_R_through b_R_through 2 (some .int) ∈ zT := List.mem_of_getElem? (i := 145) (by rfl)
theorem zx_146 : Cond.instanceMethod y_R_through ∈ zT := List.mem_of_getElem? (i := 146) (by rfl)
theorem zx_147 : Cond.selects N_R y_R_through y_R_through ∈ zT := List.mem_of_getElem? (i := 147) (by rfl)
theorem zx_148 : Cond.code y_R_growIfFarther b_R_growIfFarther 2 none ∈ zT := List.mem_of_getElem? (i := 148) (by rfl)
theorem zx_149 : Cond.instanceMethod y_R_growIfFarther ∈ zT := List.mem_of_getElem? (i := 149) (by rfl)
theorem zx_150 : Cond.selects N_R y_R_growIfFarther y_R_growIfFarther ∈ zT := List.mem_of_getElem? (i := 150) (by rfl)
theorem zx_151 : Cond.code y_R_least b_R_least 3 (some .int) ∈ zT := List.mem_of_getElem? (i := 151) (by rfl)
theorem zx_152 : Cond.instanceMethod y_R_least ∈ zT := List.mem_of_getElem? (i := 152) (by rfl)
theorem zx_153 : Cond.selects N_R y_R_least y_R_least ∈ zT := List.mem_of_getElem? (i := 153) (by rfl)
theorem zx_154 : Cond.code y_R_best b_R_best 5 (some .int) ∈ zT := List.mem_of_getElem? (i := 154) (by rfl)
theorem zx_155 : Cond.instanceMethod y_R_best ∈ zT := List.mem_of_getElem? (i := 155) (by rfl)
theorem zx_156 : Cond.selects N_R y_R_best y_R_best ∈ zT := List.mem_of_getElem? (i := 156) (by rfl)
theorem zx_157 : Cond.code y_R_takeBest b_R_takeBest 4 (some .boolean) ∈ zT := List.mem_of_getElem? (i := 157) (by rfl)
theorem zx_158 : Cond.instanceMethod y_R_takeBest ∈ zT := List.mem_of_getElem? (i := 158) (by rfl)
theorem zx_159 : Cond.selects N_R y_R_takeBest y_R_takeBest ∈ zT := List.mem_of_getElem? (i := 159) (by rfl)
theorem zx_160 : Cond.code y_R_isNeighbour b_R_isNeighbour 2 (some .boolean) ∈ zT := List.mem_of_getElem? (i := 160) (by rfl)
theorem zx_161 : Cond.instanceMethod y_R_isNeighbour ∈ zT := List.mem_of_getElem? (i := 161) (by rfl)
theorem zx_162 : Cond.selects N_R y_R_isNeighbour y_R_isNeighbour ∈ zT := List.mem_of_getElem? (i := 162) (by rfl)
theorem zx_163 : Cond.code y_D_updateAllBut b_D_updateAllBut 4 none ∈ zT := List.mem_of_getElem? (i := 163) (by rfl)
theorem zx_164 : Cond.instanceMethod y_D_updateAllBut ∈ zT := List.mem_of_getElem? (i := 164) (by rfl)
theorem zx_165 : Cond.selects N_D y_D_updateAllBut y_D_updateAllBut ∈ zT := List.mem_of_getElem? (i := 165) (by rfl)
theorem zx_166 : Cond.code y_R_measureAnew b_R_measureAnew 1 none ∈ zT := List.mem_of_getElem? (i := 166) (by rfl)
theorem zx_167 : Cond.instanceMethod y_R_measureAnew ∈ zT := List.mem_of_getElem? (i := 167) (by rfl)
theorem zx_168 : Cond.selects N_R y_R_measureAnew y_R_measureAnew ∈ zT := List.mem_of_getElem? (i := 168) (by rfl)
theorem zx_169 : Cond.code y_D_askAll b_D_askAll 3 none ∈ zT := List.mem_of_getElem? (i := 169) (by rfl)
theorem zx_170 : Cond.instanceMethod y_D_askAll ∈ zT := List.mem_of_getElem? (i := 170) (by rfl)
theorem zx_171 : Cond.selects N_D y_D_askAll y_D_askAll ∈ zT := List.mem_of_getElem? (i := 171) (by rfl)
theorem zx_172 : Cond.code y_D_look b_D_look 4 none ∈ zT := List.mem_of_getElem? (i := 172) (by rfl)
theorem zx_173 : Cond.instanceMethod y_D_look ∈ zT := List.mem_of_getElem? (i := 173) (by rfl)
theorem zx_174 : Cond.selects N_D y_D_look y_D_look ∈ zT := List.mem_of_getElem? (i := 174) (by rfl)
theorem zx_175 : Cond.code y_R_isWaiting b_R_isWaiting 5 (some .boolean) ∈ zT := List.mem_of_getElem? (i := 175) (by rfl)
theorem zx_176 : Cond.instanceMethod y_R_isWaiting ∈ zT := List.mem_of_getElem? (i := 176) (by rfl)
theorem zx_177 : Cond.selects N_R y_R_isWaiting y_R_isWaiting ∈ zT := List.mem_of_getElem? (i := 177) (by rfl)
theorem zx_178 : Cond.code y_R_calmDown b_R_calmDown 1 none ∈ zT := List.mem_of_getElem? (i := 178) (by rfl)
theorem zx_179 : Cond.instanceMethod y_R_calmDown ∈ zT := List.mem_of_getElem? (i := 179) (by rfl)
theorem zx_180 : Cond.selects N_R y_R_calmDown y_R_calmDown ∈ zT := List.mem_of_getElem? (i := 180) (by rfl)
theorem zx_181 : Cond.code y_D_endIfDone b_D_endIfDone 4 none ∈ zT := List.mem_of_getElem? (i := 181) (by rfl)
theorem zx_182 : Cond.instanceMethod y_D_endIfDone ∈ zT := List.mem_of_getElem? (i := 182) (by rfl)
theorem zx_183 : Cond.selects N_D y_D_endIfDone y_D_endIfDone ∈ zT := List.mem_of_getElem? (i := 183) (by rfl)
theorem zx_184 : Cond.code y_D_weighAgain b_D_weighAgain 5 none ∈ zT := List.mem_of_getElem? (i := 184) (by rfl)
theorem zx_185 : Cond.instanceMethod y_D_weighAgain ∈ zT := List.mem_of_getElem? (i := 185) (by rfl)
theorem zx_186 : Cond.selects N_D y_D_weighAgain y_D_weighAgain ∈ zT := List.mem_of_getElem? (i := 186) (by rfl)
theorem zx_187 : Cond.code y_D_connect b_D_connect 7 (some .int) ∈ zT := List.mem_of_getElem? (i := 187) (by rfl)
theorem zx_188 : Cond.instanceMethod y_D_connect ∈ zT := List.mem_of_getElem? (i := 188) (by rfl)
theorem zx_189 : Cond.selects N_D y_D_connect y_D_connect ∈ zT := List.mem_of_getElem? (i := 189) (by rfl)
theorem zx_190 : Cond.code y_D_isLink b_D_isLink 3 (some .boolean) ∈ zT := List.mem_of_getElem? (i := 190) (by rfl)
theorem zx_191 : Cond.instanceMethod y_D_isLink ∈ zT := List.mem_of_getElem? (i := 191) (by rfl)
theorem zx_192 : Cond.selects N_D y_D_isLink y_D_isLink ∈ zT := List.mem_of_getElem? (i := 192) (by rfl)
theorem zx_193 : Cond.code y_L_senderOf b_L_senderOf 1 (some .int) ∈ zT := List.mem_of_getElem? (i := 193) (by rfl)
theorem zx_194 : Cond.static y_L_senderOf ∈ zT := List.mem_of_getElem? (i := 194) (by rfl)
theorem zx_195 : Cond.code y_L_receiverOf b_L_receiverOf 1 (some .int) ∈ zT := List.mem_of_getElem? (i := 195) (by rfl)
theorem zx_196 : Cond.static y_L_receiverOf ∈ zT := List.mem_of_getElem? (i := 196) (by rfl)
theorem zx_197 : Cond.code y_L_isFromTo b_L_isFromTo 4 (some .boolean) ∈ zT := List.mem_of_getElem? (i := 197) (by rfl)
theorem zx_198 : Cond.instanceMethod y_L_isFromTo ∈ zT := List.mem_of_getElem? (i := 198) (by rfl)
theorem zx_199 : Cond.selects N_L y_L_isFromTo y_L_isFromTo ∈ zT := List.mem_of_getElem? (i := 199) (by rfl)
theorem zx_200 : Cond.code y_L_drop b_L_drop 5 (some .int) ∈ zT := List.mem_of_getElem? (i := 200) (by rfl)
theorem zx_201 : Cond.instanceMethod y_L_drop ∈ zT := List.mem_of_getElem? (i := 201) (by rfl)
theorem zx_202 : Cond.selects N_L y_L_drop y_L_drop ∈ zT := List.mem_of_getElem? (i := 202) (by rfl)
theorem zx_203 : Cond.code y_R_forget b_R_forget 2 none ∈ zT := List.mem_of_getElem? (i := 203) (by rfl)
theorem zx_204 : Cond.instanceMethod y_R_forget ∈ zT := List.mem_of_getElem? (i := 204) (by rfl)
theorem zx_205 : Cond.selects N_R y_R_forget y_R_forget ∈ zT := List.mem_of_getElem? (i := 205) (by rfl)
theorem zx_206 : Cond.code y_D_lose b_D_lose 5 none ∈ zT := List.mem_of_getElem? (i := 206) (by rfl)
theorem zx_207 : Cond.instanceMethod y_D_lose ∈ zT := List.mem_of_getElem? (i := 207) (by rfl)
theorem zx_208 : Cond.selects N_D y_D_lose y_D_lose ∈ zT := List.mem_of_getElem? (i := 208) (by rfl)
theorem zx_209 : Cond.code y_D_cut b_D_cut 6 (some .int) ∈ zT := List.mem_of_getElem? (i := 209) (by rfl)
theorem zx_210 : Cond.instanceMethod y_D_cut ∈ zT := List.mem_of_getElem? (i := 210) (by rfl)
theorem zx_211 : Cond.selects N_D y_D_cut y_D_cut ∈ zT := List.mem_of_getElem? (i := 211) (by rfl)
theorem zx_212 : Cond.code y_L_find b_L_find 6 (some .int) ∈ zT := List.mem_of_getElem? (i := 212) (by rfl)
theorem zx_213 : Cond.instanceMethod y_L_find ∈ zT := List.mem_of_getElem? (i := 213) (by rfl)
theorem zx_214 : Cond.selects N_L y_L_find y_L_find ∈ zT := List.mem_of_getElem? (i := 214) (by rfl)
theorem zx_215 : Cond.code y_L_take b_L_take 3 (some .int) ∈ zT := List.mem_of_getElem? (i := 215) (by rfl)
theorem zx_216 : Cond.instanceMethod y_L_take ∈ zT := List.mem_of_getElem? (i := 216) (by rfl)
theorem zx_217 : Cond.selects N_L y_L_take y_L_take ∈ zT := List.mem_of_getElem? (i := 217) (by rfl)
theorem zx_218 : Cond.code y_L_kindOf b_L_kindOf 1 (some .int) ∈ zT := List.mem_of_getElem? (i := 218) (by rfl)
theorem zx_219 : Cond.static y_L_kindOf ∈ zT := List.mem_of_getElem? (i := 219) (by rfl)
theorem zx_220 : Cond.code y_L_targetOf b_L_targetOf 1 (some .int) ∈ zT := List.mem_of_getElem? (i := 220) (by rfl)
theorem zx_221 : Cond.static y_L_targetOf ∈ zT := List.mem_of_getElem? (i := 221) (by rfl)
theorem zx_222 : Cond.code y_L_distanceOf b_L_distanceOf 1 (some .int) ∈ zT := List.mem_of_getElem? (i := 222) (by rfl)
theorem zx_223 : Cond.static y_L_distanceOf ∈ zT := List.mem_of_getElem? (i := 223) (by rfl)
theorem zx_224 : Cond.code y_D_hear b_D_hear 4 none ∈ zT := List.mem_of_getElem? (i := 224) (by rfl)
theorem zx_225 : Cond.instanceMethod y_D_hear ∈ zT := List.mem_of_getElem? (i := 225) (by rfl)
theorem zx_226 : Cond.selects N_D y_D_hear y_D_hear ∈ zT := List.mem_of_getElem? (i := 226) (by rfl)
theorem zx_227 : Cond.code y_D_bring b_D_bring 6 (some .int) ∈ zT := List.mem_of_getElem? (i := 227) (by rfl)
theorem zx_228 : Cond.instanceMethod y_D_bring ∈ zT := List.mem_of_getElem? (i := 228) (by rfl)
theorem zx_229 : Cond.selects N_D y_D_bring y_D_bring ∈ zT := List.mem_of_getElem? (i := 229) (by rfl)
theorem zx_230 : Cond.code y_D_deliver b_D_deliver 4 (some .int) ∈ zT := List.mem_of_getElem? (i := 230) (by rfl)
theorem zx_231 : Cond.instanceMethod y_D_deliver ∈ zT := List.mem_of_getElem? (i := 231) (by rfl)
theorem zx_232 : Cond.selects N_D y_D_deliver y_D_deliver ∈ zT := List.mem_of_getElem? (i := 232) (by rfl)
theorem zx_233 : Cond.code y_D_run b_D_run 3 (some .int) ∈ zT := List.mem_of_getElem? (i := 233) (by rfl)
theorem zx_234 : Cond.instanceMethod y_D_run ∈ zT := List.mem_of_getElem? (i := 234) (by rfl)
theorem zx_235 : Cond.selects N_D y_D_run y_D_run ∈ zT := List.mem_of_getElem? (i := 235) (by rfl)
theorem zx_236 : Cond.code y_D_cost b_D_cost 3 (some .int) ∈ zT := List.mem_of_getElem? (i := 236) (by rfl)
theorem zx_237 : Cond.instanceMethod y_D_cost ∈ zT := List.mem_of_getElem? (i := 237) (by rfl)
theorem zx_238 : Cond.selects N_D y_D_cost y_D_cost ∈ zT := List.mem_of_getElem? (i := 238) (by rfl)
theorem zx_239 : Cond.code y_D_isRoute b_D_isRoute 3 (some .boolean) ∈ zT := List.mem_of_getElem? (i := 239) (by rfl)
theorem zx_240 : Cond.instanceMethod y_D_isRoute ∈ zT := List.mem_of_getElem? (i := 240) (by rfl)
theorem zx_241 : Cond.selects N_D y_D_isRoute y_D_isRoute ∈ zT := List.mem_of_getElem? (i := 241) (by rfl)
theorem zx_242 : Cond.code y_D_distance b_D_distance 3 (some .int) ∈ zT := List.mem_of_getElem? (i := 242) (by rfl)
theorem zx_243 : Cond.instanceMethod y_D_distance ∈ zT := List.mem_of_getElem? (i := 243) (by rfl)
theorem zx_244 : Cond.selects N_D y_D_distance y_D_distance ∈ zT := List.mem_of_getElem? (i := 244) (by rfl)
theorem zx_245 : Cond.code y_D_limit b_D_limit 3 (some .int) ∈ zT := List.mem_of_getElem? (i := 245) (by rfl)
theorem zx_246 : Cond.instanceMethod y_D_limit ∈ zT := List.mem_of_getElem? (i := 246) (by rfl)
theorem zx_247 : Cond.selects N_D y_D_limit y_D_limit ∈ zT := List.mem_of_getElem? (i := 247) (by rfl)
theorem zx_248 : Cond.code y_D_next b_D_next 3 (some .int) ∈ zT := List.mem_of_getElem? (i := 248) (by rfl)
theorem zx_249 : Cond.instanceMethod y_D_next ∈ zT := List.mem_of_getElem? (i := 249) (by rfl)
theorem zx_250 : Cond.selects N_D y_D_next y_D_next ∈ zT := List.mem_of_getElem? (i := 250) (by rfl)
theorem zx_251 : Cond.code y_D_state b_D_state 4 (some .int) ∈ zT := List.mem_of_getElem? (i := 251) (by rfl)
theorem zx_252 : Cond.instanceMethod y_D_state ∈ zT := List.mem_of_getElem? (i := 252) (by rfl)
theorem zx_253 : Cond.selects N_D y_D_state y_D_state ∈ zT := List.mem_of_getElem? (i := 253) (by rfl)
theorem zx_254 : Cond.code y_D_told b_D_told 4 (some .int) ∈ zT := List.mem_of_getElem? (i := 254) (by rfl)
theorem zx_255 : Cond.instanceMethod y_D_told ∈ zT := List.mem_of_getElem? (i := 255) (by rfl)
theorem zx_256 : Cond.selects N_D y_D_told y_D_told ∈ zT := List.mem_of_getElem? (i := 256) (by rfl)
theorem zx_257 : Cond.code y_D_waits b_D_waits 4 (some .boolean) ∈ zT := List.mem_of_getElem? (i := 257) (by rfl)
theorem zx_258 : Cond.instanceMethod y_D_waits ∈ zT := List.mem_of_getElem? (i := 258) (by rfl)
theorem zx_259 : Cond.selects N_D y_D_waits y_D_waits ∈ zT := List.mem_of_getElem? (i := 259) (by rfl)
theorem zx_260 : Cond.code y_L_count b_L_count 5 (some .int) ∈ zT := List.mem_of_getElem? (i := 260) (by rfl)
theorem zx_261 : Cond.instanceMethod y_L_count ∈ zT := List.mem_of_getElem? (i := 261) (by rfl)
theorem zx_262 : Cond.selects N_L y_L_count y_L_count ∈ zT := List.mem_of_getElem? (i := 262) (by rfl)
theorem zx_263 : Cond.code y_D_flight b_D_flight 3 (some .int) ∈ zT := List.mem_of_getElem? (i := 263) (by rfl)
theorem zx_264 : Cond.instanceMethod y_D_flight ∈ zT := List.mem_of_getElem? (i := 264) (by rfl)
theorem zx_265 : Cond.selects N_D y_D_flight y_D_flight ∈ zT := List.mem_of_getElem? (i := 265) (by rfl)
theorem zx_266 : Cond.code y_D_message b_D_message 7 (some .int) ∈ zT := List.mem_of_getElem? (i := 266) (by rfl)
theorem zx_267 : Cond.instanceMethod y_D_message ∈ zT := List.mem_of_getElem? (i := 267) (by rfl)
theorem zx_268 : Cond.selects N_D y_D_message y_D_message ∈ zT := List.mem_of_getElem? (i := 268) (by rfl)
theorem zx_269 : Cond.code y_D_hops b_D_hops 5 (some .int) ∈ zT := List.mem_of_getElem? (i := 269) (by rfl)
theorem zx_270 : Cond.instanceMethod y_D_hops ∈ zT := List.mem_of_getElem? (i := 270) (by rfl)
theorem zx_271 : Cond.selects N_D y_D_hops y_D_hops ∈ zT := List.mem_of_getElem? (i := 271) (by rfl)
theorem zx_272 : Cond.code y_D_countBusy b_D_countBusy 6 (some .int) ∈ zT := List.mem_of_getElem? (i := 272) (by rfl)
theorem zx_273 : Cond.instanceMethod y_D_countBusy ∈ zT := List.mem_of_getElem? (i := 273) (by rfl)
theorem zx_274 : Cond.selects N_D y_D_countBusy y_D_countBusy ∈ zT := List.mem_of_getElem? (i := 274) (by rfl)
theorem zx_275 : Cond.code y_D_total b_D_total 2 (some .int) ∈ zT := List.mem_of_getElem? (i := 275) (by rfl)
theorem zx_276 : Cond.instanceMethod y_D_total ∈ zT := List.mem_of_getElem? (i := 276) (by rfl)
theorem zx_277 : Cond.selects N_D y_D_total y_D_total ∈ zT := List.mem_of_getElem? (i := 277) (by rfl)
theorem zx_278 : Cond.code y_M_isRouter b_M_isRouter 2 (some .boolean) ∈ zT := List.mem_of_getElem? (i := 278) (by rfl)
theorem zx_279 : Cond.initialized N_M ∈ zT := List.mem_of_getElem? (i := 279) (by rfl)
theorem zx_280 : Cond.instanceMethod y_M_isRouter ∈ zT := List.mem_of_getElem? (i := 280) (by rfl)
theorem zx_281 : Cond.selects N_M y_M_isRouter y_M_isRouter ∈ zT := List.mem_of_getElem? (i := 281) (by rfl)
theorem zx_282 : Cond.code y_M_isLink b_M_isLink 3 (some .boolean) ∈ zT := List.mem_of_getElem? (i := 282) (by rfl)
theorem zx_283 : Cond.instanceMethod y_M_isLink ∈ zT := List.mem_of_getElem? (i := 283) (by rfl)
theorem zx_284 : Cond.selects N_M y_M_isLink y_M_isLink ∈ zT := List.mem_of_getElem? (i := 284) (by rfl)
theorem zx_285 : Cond.code y_M_send b_M_send 5 none ∈ zT := List.mem_of_getElem? (i := 285) (by rfl)
theorem zx_286 : Cond.instanceMethod y_M_send ∈ zT := List.mem_of_getElem? (i := 286) (by rfl)
theorem zx_287 : Cond.selects N_M y_M_send y_M_send ∈ zT := List.mem_of_getElem? (i := 287) (by rfl)
theorem zx_288 : Cond.code y_M_tellAll b_M_tellAll 7 (some .int) ∈ zT := List.mem_of_getElem? (i := 288) (by rfl)
theorem zx_289 : Cond.instanceMethod y_M_tellAll ∈ zT := List.mem_of_getElem? (i := 289) (by rfl)
theorem zx_290 : Cond.selects N_M y_M_tellAll y_M_tellAll ∈ zT := List.mem_of_getElem? (i := 290) (by rfl)
theorem zx_291 : Cond.code y_M_takeOut b_M_takeOut 3 none ∈ zT := List.mem_of_getElem? (i := 291) (by rfl)
theorem zx_292 : Cond.instanceMethod y_M_takeOut ∈ zT := List.mem_of_getElem? (i := 292) (by rfl)
theorem zx_293 : Cond.selects N_M y_M_takeOut y_M_takeOut ∈ zT := List.mem_of_getElem? (i := 293) (by rfl)
theorem zx_294 : Cond.code y_M_placeOf b_M_placeOf 6 (some .int) ∈ zT := List.mem_of_getElem? (i := 294) (by rfl)
theorem zx_295 : Cond.instanceMethod y_M_placeOf ∈ zT := List.mem_of_getElem? (i := 295) (by rfl)
theorem zx_296 : Cond.selects N_M y_M_placeOf y_M_placeOf ∈ zT := List.mem_of_getElem? (i := 296) (by rfl)
theorem zx_297 : Cond.code y_M_through b_M_through 5 (some .int) ∈ zT := List.mem_of_getElem? (i := 297) (by rfl)
theorem zx_298 : Cond.instanceMethod y_M_through ∈ zT := List.mem_of_getElem? (i := 298) (by rfl)
theorem zx_299 : Cond.selects N_M y_M_through y_M_through ∈ zT := List.mem_of_getElem? (i := 299) (by rfl)
theorem zx_300 : Cond.code y_M_least b_M_least 6 (some .int) ∈ zT := List.mem_of_getElem? (i := 300) (by rfl)
theorem zx_301 : Cond.instanceMethod y_M_least ∈ zT := List.mem_of_getElem? (i := 301) (by rfl)
theorem zx_302 : Cond.selects N_M y_M_least y_M_least ∈ zT := List.mem_of_getElem? (i := 302) (by rfl)
theorem zx_303 : Cond.code y_M_isSure b_M_isSure 5 (some .boolean) ∈ zT := List.mem_of_getElem? (i := 303) (by rfl)
theorem zx_304 : Cond.instanceMethod y_M_isSure ∈ zT := List.mem_of_getElem? (i := 304) (by rfl)
theorem zx_305 : Cond.selects N_M y_M_isSure y_M_isSure ∈ zT := List.mem_of_getElem? (i := 305) (by rfl)
theorem zx_306 : Cond.code y_M_isFine b_M_isFine 6 (some .boolean) ∈ zT := List.mem_of_getElem? (i := 306) (by rfl)
theorem zx_307 : Cond.instanceMethod y_M_isFine ∈ zT := List.mem_of_getElem? (i := 307) (by rfl)
theorem zx_308 : Cond.selects N_M y_M_isFine y_M_isFine ∈ zT := List.mem_of_getElem? (i := 308) (by rfl)
theorem zx_309 : Cond.code y_M_settle b_M_settle 7 none ∈ zT := List.mem_of_getElem? (i := 309) (by rfl)
theorem zx_310 : Cond.instanceMethod y_M_settle ∈ zT := List.mem_of_getElem? (i := 310) (by rfl)
theorem zx_311 : Cond.selects N_M y_M_settle y_M_settle ∈ zT := List.mem_of_getElem? (i := 311) (by rfl)
theorem zx_312 : Cond.code y_M_askAll b_M_askAll 6 (some .boolean) ∈ zT := List.mem_of_getElem? (i := 312) (by rfl)
theorem zx_313 : Cond.instanceMethod y_M_askAll ∈ zT := List.mem_of_getElem? (i := 313) (by rfl)
theorem zx_314 : Cond.selects N_M y_M_askAll y_M_askAll ∈ zT := List.mem_of_getElem? (i := 314) (by rfl)
theorem zx_315 : Cond.code y_M_end b_M_end 7 none ∈ zT := List.mem_of_getElem? (i := 315) (by rfl)
theorem zx_316 : Cond.instanceMethod y_M_end ∈ zT := List.mem_of_getElem? (i := 316) (by rfl)
theorem zx_317 : Cond.selects N_M y_M_end y_M_end ∈ zT := List.mem_of_getElem? (i := 317) (by rfl)
theorem zx_318 : Cond.code y_M_look b_M_look 7 none ∈ zT := List.mem_of_getElem? (i := 318) (by rfl)
theorem zx_319 : Cond.instanceMethod y_M_look ∈ zT := List.mem_of_getElem? (i := 319) (by rfl)
theorem zx_320 : Cond.selects N_M y_M_look y_M_look ∈ zT := List.mem_of_getElem? (i := 320) (by rfl)
theorem zx_321 : Cond.code y_M_endIfDone b_M_endIfDone 5 none ∈ zT := List.mem_of_getElem? (i := 321) (by rfl)
theorem zx_322 : Cond.instanceMethod y_M_endIfDone ∈ zT := List.mem_of_getElem? (i := 322) (by rfl)
theorem zx_323 : Cond.selects N_M y_M_endIfDone y_M_endIfDone ∈ zT := List.mem_of_getElem? (i := 323) (by rfl)
theorem zx_324 : Cond.code y_M_hear b_M_hear 7 none ∈ zT := List.mem_of_getElem? (i := 324) (by rfl)
theorem zx_325 : Cond.instanceMethod y_M_hear ∈ zT := List.mem_of_getElem? (i := 325) (by rfl)
theorem zx_326 : Cond.selects N_M y_M_hear y_M_hear ∈ zT := List.mem_of_getElem? (i := 326) (by rfl)
theorem zx_327 : Cond.code y_M_recost b_M_recost 5 none ∈ zT := List.mem_of_getElem? (i := 327) (by rfl)
theorem zx_328 : Cond.instanceMethod y_M_recost ∈ zT := List.mem_of_getElem? (i := 328) (by rfl)
theorem zx_329 : Cond.selects N_M y_M_recost y_M_recost ∈ zT := List.mem_of_getElem? (i := 329) (by rfl)
theorem zx_330 : Cond.code y_M_greet b_M_greet 4 none ∈ zT := List.mem_of_getElem? (i := 330) (by rfl)
theorem zx_331 : Cond.instanceMethod y_M_greet ∈ zT := List.mem_of_getElem? (i := 331) (by rfl)
theorem zx_332 : Cond.selects N_M y_M_greet y_M_greet ∈ zT := List.mem_of_getElem? (i := 332) (by rfl)
theorem zx_333 : Cond.code y_M_lose b_M_lose 6 none ∈ zT := List.mem_of_getElem? (i := 333) (by rfl)
theorem zx_334 : Cond.instanceMethod y_M_lose ∈ zT := List.mem_of_getElem? (i := 334) (by rfl)
theorem zx_335 : Cond.selects N_M y_M_lose y_M_lose ∈ zT := List.mem_of_getElem? (i := 335) (by rfl)
theorem zx_336 : Cond.code y_M_links b_M_links 3 (some .int) ∈ zT := List.mem_of_getElem? (i := 336) (by rfl)
theorem zx_337 : Cond.instanceMethod y_M_links ∈ zT := List.mem_of_getElem? (i := 337) (by rfl)
theorem zx_338 : Cond.selects N_M y_M_links y_M_links ∈ zT := List.mem_of_getElem? (i := 338) (by rfl)
theorem zx_339 : Cond.code y_M_connect b_M_connect 7 (some .int) ∈ zT := List.mem_of_getElem? (i := 339) (by rfl)
theorem zx_340 : Cond.instanceMethod y_M_connect ∈ zT := List.mem_of_getElem? (i := 340) (by rfl)
theorem zx_341 : Cond.selects N_M y_M_connect y_M_connect ∈ zT := List.mem_of_getElem? (i := 341) (by rfl)
theorem zx_342 : Cond.code y_M_cut b_M_cut 5 (some .int) ∈ zT := List.mem_of_getElem? (i := 342) (by rfl)
theorem zx_343 : Cond.instanceMethod y_M_cut ∈ zT := List.mem_of_getElem? (i := 343) (by rfl)
theorem zx_344 : Cond.selects N_M y_M_cut y_M_cut ∈ zT := List.mem_of_getElem? (i := 344) (by rfl)
theorem zx_345 : Cond.code y_M_arrive b_M_arrive 7 (some .int) ∈ zT := List.mem_of_getElem? (i := 345) (by rfl)
theorem zx_346 : Cond.instanceMethod y_M_arrive ∈ zT := List.mem_of_getElem? (i := 346) (by rfl)
theorem zx_347 : Cond.selects N_M y_M_arrive y_M_arrive ∈ zT := List.mem_of_getElem? (i := 347) (by rfl)
theorem zx_348 : Cond.code y_M_deliver b_M_deliver 4 (some .int) ∈ zT := List.mem_of_getElem? (i := 348) (by rfl)
theorem zx_349 : Cond.instanceMethod y_M_deliver ∈ zT := List.mem_of_getElem? (i := 349) (by rfl)
theorem zx_350 : Cond.selects N_M y_M_deliver y_M_deliver ∈ zT := List.mem_of_getElem? (i := 350) (by rfl)
theorem zx_351 : Cond.code y_M_run b_M_run 4 (some .int) ∈ zT := List.mem_of_getElem? (i := 351) (by rfl)
theorem zx_352 : Cond.instanceMethod y_M_run ∈ zT := List.mem_of_getElem? (i := 352) (by rfl)
theorem zx_353 : Cond.selects N_M y_M_run y_M_run ∈ zT := List.mem_of_getElem? (i := 353) (by rfl)
theorem zx_354 : Cond.code y_M_cost b_M_cost 3 (some .int) ∈ zT := List.mem_of_getElem? (i := 354) (by rfl)
theorem zx_355 : Cond.instanceMethod y_M_cost ∈ zT := List.mem_of_getElem? (i := 355) (by rfl)
theorem zx_356 : Cond.selects N_M y_M_cost y_M_cost ∈ zT := List.mem_of_getElem? (i := 356) (by rfl)
theorem zx_357 : Cond.code y_M_distance b_M_distance 3 (some .int) ∈ zT := List.mem_of_getElem? (i := 357) (by rfl)
theorem zx_358 : Cond.instanceMethod y_M_distance ∈ zT := List.mem_of_getElem? (i := 358) (by rfl)
theorem zx_359 : Cond.selects N_M y_M_distance y_M_distance ∈ zT := List.mem_of_getElem? (i := 359) (by rfl)
theorem zx_360 : Cond.code y_M_limit b_M_limit 3 (some .int) ∈ zT := List.mem_of_getElem? (i := 360) (by rfl)
theorem zx_361 : Cond.instanceMethod y_M_limit ∈ zT := List.mem_of_getElem? (i := 361) (by rfl)
theorem zx_362 : Cond.selects N_M y_M_limit y_M_limit ∈ zT := List.mem_of_getElem? (i := 362) (by rfl)
theorem zx_363 : Cond.code y_M_next b_M_next 3 (some .int) ∈ zT := List.mem_of_getElem? (i := 363) (by rfl)
theorem zx_364 : Cond.instanceMethod y_M_next ∈ zT := List.mem_of_getElem? (i := 364) (by rfl)
theorem zx_365 : Cond.selects N_M y_M_next y_M_next ∈ zT := List.mem_of_getElem? (i := 365) (by rfl)
theorem zx_366 : Cond.code y_M_state b_M_state 4 (some .int) ∈ zT := List.mem_of_getElem? (i := 366) (by rfl)
theorem zx_367 : Cond.instanceMethod y_M_state ∈ zT := List.mem_of_getElem? (i := 367) (by rfl)
theorem zx_368 : Cond.selects N_M y_M_state y_M_state ∈ zT := List.mem_of_getElem? (i := 368) (by rfl)
theorem zx_369 : Cond.code y_M_told b_M_told 4 (some .int) ∈ zT := List.mem_of_getElem? (i := 369) (by rfl)
theorem zx_370 : Cond.instanceMethod y_M_told ∈ zT := List.mem_of_getElem? (i := 370) (by rfl)
theorem zx_371 : Cond.selects N_M y_M_told y_M_told ∈ zT := List.mem_of_getElem? (i := 371) (by rfl)
theorem zx_372 : Cond.code y_M_waits b_M_waits 4 (some .boolean) ∈ zT := List.mem_of_getElem? (i := 372) (by rfl)
theorem zx_373 : Cond.instanceMethod y_M_waits ∈ zT := List.mem_of_getElem? (i := 373) (by rfl)
theorem zx_374 : Cond.selects N_M y_M_waits y_M_waits ∈ zT := List.mem_of_getElem? (i := 374) (by rfl)
theorem zx_375 : Cond.code y_M_flight b_M_flight 5 (some .int) ∈ zT := List.mem_of_getElem? (i := 375) (by rfl)
theorem zx_376 : Cond.instanceMethod y_M_flight ∈ zT := List.mem_of_getElem? (i := 376) (by rfl)
theorem zx_377 : Cond.selects N_M y_M_flight y_M_flight ∈ zT := List.mem_of_getElem? (i := 377) (by rfl)
theorem zx_378 : Cond.code y_M_message b_M_message 6 (some .int) ∈ zT := List.mem_of_getElem? (i := 378) (by rfl)
theorem zx_379 : Cond.instanceMethod y_M_message ∈ zT := List.mem_of_getElem? (i := 379) (by rfl)
theorem zx_380 : Cond.selects N_M y_M_message y_M_message ∈ zT := List.mem_of_getElem? (i := 380) (by rfl)
theorem zx_381 : Cond.code y_M_hops b_M_hops 6 (some .int) ∈ zT := List.mem_of_getElem? (i := 381) (by rfl)
theorem zx_382 : Cond.instanceMethod y_M_hops ∈ zT := List.mem_of_getElem? (i := 382) (by rfl)
theorem zx_383 : Cond.selects N_M y_M_hops y_M_hops ∈ zT := List.mem_of_getElem? (i := 383) (by rfl)
theorem zx_384 : Cond.code y_M_total b_M_total 4 (some .int) ∈ zT := List.mem_of_getElem? (i := 384) (by rfl)
theorem zx_385 : Cond.instanceMethod y_M_total ∈ zT := List.mem_of_getElem? (i := 385) (by rfl)
theorem zx_386 : Cond.selects N_M y_M_total y_M_total ∈ zT := List.mem_of_getElem? (i := 386) (by rfl)
theorem zx_387 : u_lay N_D FT_D 0 ∈ zT := List.mem_of_getElem? (i := 387) (by rfl)
theorem zx_388 : u_lay N_D FT_D 1 ∈ zT := List.mem_of_getElem? (i := 388) (by rfl)
theorem zx_389 : u_lay N_D FT_D 2 ∈ zT := List.mem_of_getElem? (i := 389) (by rfl)
theorem zx_390 : u_lay N_D FT_D 3 ∈ zT := List.mem_of_getElem? (i := 390) (by rfl)
theorem zx_391 : u_lay N_D FT_D 4 ∈ zT := List.mem_of_getElem? (i := 391) (by rfl)
theorem zx_392 : u_lay N_R FT_R 0 ∈ zT := List.mem_of_getElem? (i := 392) (by rfl)
theorem zx_393 : u_lay N_R FT_R 1 ∈ zT := List.mem_of_getElem? (i := 393) (by rfl)
theorem zx_394 : u_lay N_R FT_R 2 ∈ zT := List.mem_of_getElem? (i := 394) (by rfl)
theorem zx_395 : u_lay N_R FT_R 3 ∈ zT := List.mem_of_getElem? (i := 395) (by rfl)
theorem zx_396 : u_lay N_R FT_R 4 ∈ zT := List.mem_of_getElem? (i := 396) (by rfl)
theorem zx_397 : u_lay N_R FT_R 5 ∈ zT := List.mem_of_getElem? (i := 397) (by rfl)
theorem zx_398 : u_lay N_R FT_R 6 ∈ zT := List.mem_of_getElem? (i := 398) (by rfl)
theorem zx_399 : u_lay N_R FT_R 7 ∈ zT := List.mem_of_getElem? (i := 399) (by rfl)
theorem zx_400 : u_lay N_R FT_R 8 ∈ zT := List.mem_of_getElem? (i := 400) (by rfl)
theorem zx_401 : u_lay N_R FT_R 9 ∈ zT := List.mem_of_getElem? (i := 401) (by rfl)
theorem zx_402 : u_lay N_R FT_R 10 ∈ zT := List.mem_of_getElem? (i := 402) (by rfl)
theorem zx_403 : u_lay N_L FT_L 0 ∈ zT := List.mem_of_getElem? (i := 403) (by rfl)
theorem zx_404 : u_lay N_L FT_L 1 ∈ zT := List.mem_of_getElem? (i := 404) (by rfl)
theorem zx_405 : u_lay N_L FT_L 2 ∈ zT := List.mem_of_getElem? (i := 405) (by rfl)
theorem zx_406 : u_lay N_L FT_L 3 ∈ zT := List.mem_of_getElem? (i := 406) (by rfl)
theorem zx_407 : u_lay N_M FT_M 0 ∈ zT := List.mem_of_getElem? (i := 407) (by rfl)
theorem zx_408 : u_lay N_M FT_M 1 ∈ zT := List.mem_of_getElem? (i := 408) (by rfl)
theorem zx_409 : u_lay N_M FT_M 2 ∈ zT := List.mem_of_getElem? (i := 409) (by rfl)
theorem zx_410 : u_lay N_M FT_M 3 ∈ zT := List.mem_of_getElem? (i := 410) (by rfl)
theorem zx_411 : u_lay N_M FT_M 4 ∈ zT := List.mem_of_getElem? (i := 411) (by rfl)
theorem zx_412 : u_lay N_M FT_M 5 ∈ zT := List.mem_of_getElem? (i := 412) (by rfl)
theorem zx_413 : u_lay N_M FT_M 6 ∈ zT := List.mem_of_getElem? (i := 413) (by rfl)
theorem zx_414 : u_lay N_M FT_M 7 ∈ zT := List.mem_of_getElem? (i := 414) (by rfl)
theorem zx_415 : u_lay N_M FT_M 8 ∈ zT := List.mem_of_getElem? (i := 415) (by rfl)
theorem zx_416 : u_lay N_M FT_M 9 ∈ zT := List.mem_of_getElem? (i := 416) (by rfl)
theorem zx_417 : u_lay N_M FT_M 10 ∈ zT := List.mem_of_getElem? (i := 417) (by rfl)
theorem zx_418 : u_lay N_M FT_M 11 ∈ zT := List.mem_of_getElem? (i := 418) (by rfl)
theorem zx_419 : u_lay N_M FT_M 12 ∈ zT := List.mem_of_getElem? (i := 419) (by rfl)
theorem zx_420 : u_lay N_M FT_M 13 ∈ zT := List.mem_of_getElem? (i := 420) (by rfl)
theorem zx_421 : u_lay N_M FT_M 14 ∈ zT := List.mem_of_getElem? (i := 421) (by rfl)
theorem zx_422 : u_lay N_M FT_M 15 ∈ zT := List.mem_of_getElem? (i := 422) (by rfl)
theorem zx_423 : u_lay N_M FT_M 16 ∈ zT := List.mem_of_getElem? (i := 423) (by rfl)
theorem zi_D : ∀ w ∈ u_ws N_D FT_D 5, w ∈ zT := by
  intro w hw
  obtain ⟨i, hi, rfl⟩ := List.mem_map.mp hw
  have hi := List.mem_range.mp hi
  match i, hi with
  | 0, _ => exact zx_387
  | 1, _ => exact zx_388
  | 2, _ => exact zx_389
  | 3, _ => exact zx_390
  | 4, _ => exact zx_391
  | (j + 5), h => omega
theorem zi_R : ∀ w ∈ u_ws N_R FT_R 11, w ∈ zT := by
  intro w hw
  obtain ⟨i, hi, rfl⟩ := List.mem_map.mp hw
  have hi := List.mem_range.mp hi
  match i, hi with
  | 0, _ => exact zx_392
  | 1, _ => exact zx_393
  | 2, _ => exact zx_394
  | 3, _ => exact zx_395
  | 4, _ => exact zx_396
  | 5, _ => exact zx_397
  | 6, _ => exact zx_398
  | 7, _ => exact zx_399
  | 8, _ => exact zx_400
  | 9, _ => exact zx_401
  | 10, _ => exact zx_402
  | (j + 11), h => omega
theorem zi_L : ∀ w ∈ u_ws N_L FT_L 4, w ∈ zT := by
  intro w hw
  obtain ⟨i, hi, rfl⟩ := List.mem_map.mp hw
  have hi := List.mem_range.mp hi
  match i, hi with
  | 0, _ => exact zx_403
  | 1, _ => exact zx_404
  | 2, _ => exact zx_405
  | 3, _ => exact zx_406
  | (j + 4), h => omega
theorem zi_M : ∀ w ∈ u_ws N_M FT_M 17, w ∈ zT := by
  intro w hw
  obtain ⟨i, hi, rfl⟩ := List.mem_map.mp hw
  have hi := List.mem_range.mp hi
  match i, hi with
  | 0, _ => exact zx_407
  | 1, _ => exact zx_408
  | 2, _ => exact zx_409
  | 3, _ => exact zx_410
  | 4, _ => exact zx_411
  | 5, _ => exact zx_412
  | 6, _ => exact zx_413
  | 7, _ => exact zx_414
  | 8, _ => exact zx_415
  | 9, _ => exact zx_416
  | 10, _ => exact zx_417
  | 11, _ => exact zx_418
  | 12, _ => exact zx_419
  | 13, _ => exact zx_420
  | 14, _ => exact zx_421
  | 15, _ => exact zx_422
  | 16, _ => exact zx_423
  | (j + 17), h => omega
theorem zT_good : zGood zT := fun w hw => good_of_word (List.all_eq_true.mp (show zT.all goodWord = true by decide +kernel) w hw)
theorem zn_D_isRouter : zNV zT y_D_isRouter b_D_isRouter 2 (some .boolean) 1 := ⟨⟨zx_125, zx_124, by decide, by decide, by decide +kernel⟩, zx_126, zx_127⟩
theorem zn_L_size : zNV zT y_L_size b_L_size 1 (some .int) 0 := ⟨⟨zx_129, zx_128, by decide, by decide, by decide +kernel⟩, zx_130, zx_131⟩
theorem zn_D_route : zNV zT y_D_route b_D_route 3 (some (.object N_R)) 2 := ⟨⟨zx_125, zx_132, by decide, by decide, by decide +kernel⟩, zx_133, zx_134⟩
theorem zn_L_send : zNV zT y_L_send b_L_send 4 none 3 := ⟨⟨zx_129, zx_135, by decide, by decide, by decide +kernel⟩, zx_136, zx_137⟩
theorem zn_D_greet : zNV zT y_D_greet b_D_greet 5 none 2 := ⟨⟨zx_125, zx_138, by decide, by decide, by decide +kernel⟩, zx_139, zx_140⟩
theorem zn_R_isOwn : zNV zT y_R_isOwn b_R_isOwn 1 (some .boolean) 0 := ⟨⟨zx_142, zx_141, by decide, by decide, by decide +kernel⟩, zx_143, zx_144⟩
theorem zn_R_through : zNV zT y_R_through b_R_through 2 (some .int) 1 := ⟨⟨zx_142, zx_145, by decide, by decide, by decide +kernel⟩, zx_146, zx_147⟩
theorem zn_R_growIfFarther : zNV zT y_R_growIfFarther b_R_growIfFarther 2 none 1 := ⟨⟨zx_142, zx_148, by decide, by decide, by decide +kernel⟩, zx_149, zx_150⟩
theorem zn_R_least : zNV zT y_R_least b_R_least 3 (some .int) 0 := ⟨⟨zx_142, zx_151, by decide, by decide, by decide +kernel⟩, zx_152, zx_153⟩
theorem zn_R_best : zNV zT y_R_best b_R_best 5 (some .int) 1 := ⟨⟨zx_142, zx_154, by decide, by decide, by decide +kernel⟩, zx_155, zx_156⟩
theorem zn_R_takeBest : zNV zT y_R_takeBest b_R_takeBest 4 (some .boolean) 0 := ⟨⟨zx_142, zx_157, by decide, by decide, by decide +kernel⟩, zx_158, zx_159⟩
theorem zn_R_isNeighbour : zNV zT y_R_isNeighbour b_R_isNeighbour 2 (some .boolean) 1 := ⟨⟨zx_142, zx_160, by decide, by decide, by decide +kernel⟩, zx_161, zx_162⟩
theorem zn_D_updateAllBut : zNV zT y_D_updateAllBut b_D_updateAllBut 4 none 2 := ⟨⟨zx_125, zx_163, by decide, by decide, by decide +kernel⟩, zx_164, zx_165⟩
theorem zn_R_measureAnew : zNV zT y_R_measureAnew b_R_measureAnew 1 none 0 := ⟨⟨zx_142, zx_166, by decide, by decide, by decide +kernel⟩, zx_167, zx_168⟩
theorem zn_D_askAll : zNV zT y_D_askAll b_D_askAll 3 none 1 := ⟨⟨zx_125, zx_169, by decide, by decide, by decide +kernel⟩, zx_170, zx_171⟩
theorem zn_D_look : zNV zT y_D_look b_D_look 4 none 2 := ⟨⟨zx_125, zx_172, by decide, by decide, by decide +kernel⟩, zx_173, zx_174⟩
theorem zn_R_isWaiting : zNV zT y_R_isWaiting b_R_isWaiting 5 (some .boolean) 0 := ⟨⟨zx_142, zx_175, by decide, by decide, by decide +kernel⟩, zx_176, zx_177⟩
theorem zn_R_calmDown : zNV zT y_R_calmDown b_R_calmDown 1 none 0 := ⟨⟨zx_142, zx_178, by decide, by decide, by decide +kernel⟩, zx_179, zx_180⟩
theorem zn_D_endIfDone : zNV zT y_D_endIfDone b_D_endIfDone 4 none 1 := ⟨⟨zx_125, zx_181, by decide, by decide, by decide +kernel⟩, zx_182, zx_183⟩
theorem zn_D_weighAgain : zNV zT y_D_weighAgain b_D_weighAgain 5 none 2 := ⟨⟨zx_125, zx_184, by decide, by decide, by decide +kernel⟩, zx_185, zx_186⟩
theorem zn_D_connect : zNV zT y_D_connect b_D_connect 7 (some .int) 3 := ⟨⟨zx_125, zx_187, by decide, by decide, by decide +kernel⟩, zx_188, zx_189⟩
theorem zn_D_isLink : zNV zT y_D_isLink b_D_isLink 3 (some .boolean) 2 := ⟨⟨zx_125, zx_190, by decide, by decide, by decide +kernel⟩, zx_191, zx_192⟩
theorem zn_L_senderOf : zN zT y_L_senderOf b_L_senderOf 1 (some .int) 1 ∧ Cond.static y_L_senderOf ∈ zT := ⟨⟨zx_129, zx_193, by decide, by decide, by decide +kernel⟩, zx_194⟩
theorem zn_L_receiverOf : zN zT y_L_receiverOf b_L_receiverOf 1 (some .int) 1 ∧ Cond.static y_L_receiverOf ∈ zT := ⟨⟨zx_129, zx_195, by decide, by decide, by decide +kernel⟩, zx_196⟩
theorem zn_L_isFromTo : zNV zT y_L_isFromTo b_L_isFromTo 4 (some .boolean) 3 := ⟨⟨zx_129, zx_197, by decide, by decide, by decide +kernel⟩, zx_198, zx_199⟩
theorem zn_L_drop : zNV zT y_L_drop b_L_drop 5 (some .int) 2 := ⟨⟨zx_129, zx_200, by decide, by decide, by decide +kernel⟩, zx_201, zx_202⟩
theorem zn_R_forget : zNV zT y_R_forget b_R_forget 2 none 1 := ⟨⟨zx_142, zx_203, by decide, by decide, by decide +kernel⟩, zx_204, zx_205⟩
theorem zn_D_lose : zNV zT y_D_lose b_D_lose 5 none 2 := ⟨⟨zx_125, zx_206, by decide, by decide, by decide +kernel⟩, zx_207, zx_208⟩
theorem zn_D_cut : zNV zT y_D_cut b_D_cut 6 (some .int) 2 := ⟨⟨zx_125, zx_209, by decide, by decide, by decide +kernel⟩, zx_210, zx_211⟩
theorem zn_L_find : zNV zT y_L_find b_L_find 6 (some .int) 3 := ⟨⟨zx_129, zx_212, by decide, by decide, by decide +kernel⟩, zx_213, zx_214⟩
theorem zn_L_take : zNV zT y_L_take b_L_take 3 (some .int) 1 := ⟨⟨zx_129, zx_215, by decide, by decide, by decide +kernel⟩, zx_216, zx_217⟩
theorem zn_L_kindOf : zN zT y_L_kindOf b_L_kindOf 1 (some .int) 1 ∧ Cond.static y_L_kindOf ∈ zT := ⟨⟨zx_129, zx_218, by decide, by decide, by decide +kernel⟩, zx_219⟩
theorem zn_L_targetOf : zN zT y_L_targetOf b_L_targetOf 1 (some .int) 1 ∧ Cond.static y_L_targetOf ∈ zT := ⟨⟨zx_129, zx_220, by decide, by decide, by decide +kernel⟩, zx_221⟩
theorem zn_L_distanceOf : zN zT y_L_distanceOf b_L_distanceOf 1 (some .int) 1 ∧ Cond.static y_L_distanceOf ∈ zT := ⟨⟨zx_129, zx_222, by decide, by decide, by decide +kernel⟩, zx_223⟩
theorem zn_D_hear : zNV zT y_D_hear b_D_hear 4 none 3 := ⟨⟨zx_125, zx_224, by decide, by decide, by decide +kernel⟩, zx_225, zx_226⟩
theorem zn_D_bring : zNV zT y_D_bring b_D_bring 6 (some .int) 1 := ⟨⟨zx_125, zx_227, by decide, by decide, by decide +kernel⟩, zx_228, zx_229⟩
theorem zn_D_deliver : zNV zT y_D_deliver b_D_deliver 4 (some .int) 2 := ⟨⟨zx_125, zx_230, by decide, by decide, by decide +kernel⟩, zx_231, zx_232⟩
theorem zn_D_run : zNV zT y_D_run b_D_run 3 (some .int) 1 := ⟨⟨zx_125, zx_233, by decide, by decide, by decide +kernel⟩, zx_234, zx_235⟩
theorem zn_D_cost : zNV zT y_D_cost b_D_cost 3 (some .int) 2 := ⟨⟨zx_125, zx_236, by decide, by decide, by decide +kernel⟩, zx_237, zx_238⟩
theorem zn_D_isRoute : zNV zT y_D_isRoute b_D_isRoute 3 (some .boolean) 2 := ⟨⟨zx_125, zx_239, by decide, by decide, by decide +kernel⟩, zx_240, zx_241⟩
theorem zn_D_distance : zNV zT y_D_distance b_D_distance 3 (some .int) 2 := ⟨⟨zx_125, zx_242, by decide, by decide, by decide +kernel⟩, zx_243, zx_244⟩
theorem zn_D_limit : zNV zT y_D_limit b_D_limit 3 (some .int) 2 := ⟨⟨zx_125, zx_245, by decide, by decide, by decide +kernel⟩, zx_246, zx_247⟩
theorem zn_D_next : zNV zT y_D_next b_D_next 3 (some .int) 2 := ⟨⟨zx_125, zx_248, by decide, by decide, by decide +kernel⟩, zx_249, zx_250⟩
theorem zn_D_state : zNV zT y_D_state b_D_state 4 (some .int) 2 := ⟨⟨zx_125, zx_251, by decide, by decide, by decide +kernel⟩, zx_252, zx_253⟩
theorem zn_D_told : zNV zT y_D_told b_D_told 4 (some .int) 3 := ⟨⟨zx_125, zx_254, by decide, by decide, by decide +kernel⟩, zx_255, zx_256⟩
theorem zn_D_waits : zNV zT y_D_waits b_D_waits 4 (some .boolean) 3 := ⟨⟨zx_125, zx_257, by decide, by decide, by decide +kernel⟩, zx_258, zx_259⟩
theorem zn_L_count : zNV zT y_L_count b_L_count 5 (some .int) 2 := ⟨⟨zx_129, zx_260, by decide, by decide, by decide +kernel⟩, zx_261, zx_262⟩
theorem zn_D_flight : zNV zT y_D_flight b_D_flight 3 (some .int) 2 := ⟨⟨zx_125, zx_263, by decide, by decide, by decide +kernel⟩, zx_264, zx_265⟩
theorem zn_D_message : zNV zT y_D_message b_D_message 7 (some .int) 4 := ⟨⟨zx_125, zx_266, by decide, by decide, by decide +kernel⟩, zx_267, zx_268⟩
theorem zn_D_hops : zNV zT y_D_hops b_D_hops 5 (some .int) 2 := ⟨⟨zx_125, zx_269, by decide, by decide, by decide +kernel⟩, zx_270, zx_271⟩
theorem zn_D_countBusy : zNV zT y_D_countBusy b_D_countBusy 6 (some .int) 0 := ⟨⟨zx_125, zx_272, by decide, by decide, by decide +kernel⟩, zx_273, zx_274⟩
theorem zn_D_total : zNV zT y_D_total b_D_total 2 (some .int) 1 := ⟨⟨zx_125, zx_275, by decide, by decide, by decide +kernel⟩, zx_276, zx_277⟩
theorem zn_M_isRouter : zNV zT y_M_isRouter b_M_isRouter 2 (some .boolean) 1 := ⟨⟨zx_279, zx_278, by decide, by decide, by decide +kernel⟩, zx_280, zx_281⟩
theorem zn_M_isLink : zNV zT y_M_isLink b_M_isLink 3 (some .boolean) 2 := ⟨⟨zx_279, zx_282, by decide, by decide, by decide +kernel⟩, zx_283, zx_284⟩
theorem zn_M_send : zNV zT y_M_send b_M_send 5 none 4 := ⟨⟨zx_279, zx_285, by decide, by decide, by decide +kernel⟩, zx_286, zx_287⟩
theorem zn_M_tellAll : zNV zT y_M_tellAll b_M_tellAll 7 (some .int) 4 := ⟨⟨zx_279, zx_288, by decide, by decide, by decide +kernel⟩, zx_289, zx_290⟩
theorem zn_M_takeOut : zNV zT y_M_takeOut b_M_takeOut 3 none 1 := ⟨⟨zx_279, zx_291, by decide, by decide, by decide +kernel⟩, zx_292, zx_293⟩
theorem zn_M_placeOf : zNV zT y_M_placeOf b_M_placeOf 6 (some .int) 3 := ⟨⟨zx_279, zx_294, by decide, by decide, by decide +kernel⟩, zx_295, zx_296⟩
theorem zn_M_through : zNV zT y_M_through b_M_through 5 (some .int) 3 := ⟨⟨zx_279, zx_297, by decide, by decide, by decide +kernel⟩, zx_298, zx_299⟩
theorem zn_M_least : zNV zT y_M_least b_M_least 6 (some .int) 2 := ⟨⟨zx_279, zx_300, by decide, by decide, by decide +kernel⟩, zx_301, zx_302⟩
theorem zn_M_isSure : zNV zT y_M_isSure b_M_isSure 5 (some .boolean) 4 := ⟨⟨zx_279, zx_303, by decide, by decide, by decide +kernel⟩, zx_304, zx_305⟩
theorem zn_M_isFine : zNV zT y_M_isFine b_M_isFine 6 (some .boolean) 2 := ⟨⟨zx_279, zx_306, by decide, by decide, by decide +kernel⟩, zx_307, zx_308⟩
theorem zn_M_settle : zNV zT y_M_settle b_M_settle 7 none 2 := ⟨⟨zx_279, zx_309, by decide, by decide, by decide +kernel⟩, zx_310, zx_311⟩
theorem zn_M_askAll : zNV zT y_M_askAll b_M_askAll 6 (some .boolean) 2 := ⟨⟨zx_279, zx_312, by decide, by decide, by decide +kernel⟩, zx_313, zx_314⟩
theorem zn_M_end : zNV zT y_M_end b_M_end 7 none 2 := ⟨⟨zx_279, zx_315, by decide, by decide, by decide +kernel⟩, zx_316, zx_317⟩
theorem zn_M_look : zNV zT y_M_look b_M_look 7 none 3 := ⟨⟨zx_279, zx_318, by decide, by decide, by decide +kernel⟩, zx_319, zx_320⟩
theorem zn_M_endIfDone : zNV zT y_M_endIfDone b_M_endIfDone 5 none 2 := ⟨⟨zx_279, zx_321, by decide, by decide, by decide +kernel⟩, zx_322, zx_323⟩
theorem zn_M_hear : zNV zT y_M_hear b_M_hear 7 none 5 := ⟨⟨zx_279, zx_324, by decide, by decide, by decide +kernel⟩, zx_325, zx_326⟩
theorem zn_M_recost : zNV zT y_M_recost b_M_recost 5 none 2 := ⟨⟨zx_279, zx_327, by decide, by decide, by decide +kernel⟩, zx_328, zx_329⟩
theorem zn_M_greet : zNV zT y_M_greet b_M_greet 4 none 2 := ⟨⟨zx_279, zx_330, by decide, by decide, by decide +kernel⟩, zx_331, zx_332⟩
theorem zn_M_lose : zNV zT y_M_lose b_M_lose 6 none 2 := ⟨⟨zx_279, zx_333, by decide, by decide, by decide +kernel⟩, zx_334, zx_335⟩
theorem zn_M_links : zNV zT y_M_links b_M_links 3 (some .int) 0 := ⟨⟨zx_279, zx_336, by decide, by decide, by decide +kernel⟩, zx_337, zx_338⟩
theorem zn_M_connect : zNV zT y_M_connect b_M_connect 7 (some .int) 3 := ⟨⟨zx_279, zx_339, by decide, by decide, by decide +kernel⟩, zx_340, zx_341⟩
theorem zn_M_cut : zNV zT y_M_cut b_M_cut 5 (some .int) 2 := ⟨⟨zx_279, zx_342, by decide, by decide, by decide +kernel⟩, zx_343, zx_344⟩
theorem zn_M_arrive : zNV zT y_M_arrive b_M_arrive 7 (some .int) 1 := ⟨⟨zx_279, zx_345, by decide, by decide, by decide +kernel⟩, zx_346, zx_347⟩
theorem zn_M_deliver : zNV zT y_M_deliver b_M_deliver 4 (some .int) 2 := ⟨⟨zx_279, zx_348, by decide, by decide, by decide +kernel⟩, zx_349, zx_350⟩
theorem zn_M_run : zNV zT y_M_run b_M_run 4 (some .int) 1 := ⟨⟨zx_279, zx_351, by decide, by decide, by decide +kernel⟩, zx_352, zx_353⟩
theorem zn_M_cost : zNV zT y_M_cost b_M_cost 3 (some .int) 2 := ⟨⟨zx_279, zx_354, by decide, by decide, by decide +kernel⟩, zx_355, zx_356⟩
theorem zn_M_distance : zNV zT y_M_distance b_M_distance 3 (some .int) 2 := ⟨⟨zx_279, zx_357, by decide, by decide, by decide +kernel⟩, zx_358, zx_359⟩
theorem zn_M_limit : zNV zT y_M_limit b_M_limit 3 (some .int) 2 := ⟨⟨zx_279, zx_360, by decide, by decide, by decide +kernel⟩, zx_361, zx_362⟩
theorem zn_M_next : zNV zT y_M_next b_M_next 3 (some .int) 2 := ⟨⟨zx_279, zx_363, by decide, by decide, by decide +kernel⟩, zx_364, zx_365⟩
theorem zn_M_state : zNV zT y_M_state b_M_state 4 (some .int) 2 := ⟨⟨zx_279, zx_366, by decide, by decide, by decide +kernel⟩, zx_367, zx_368⟩
theorem zn_M_told : zNV zT y_M_told b_M_told 4 (some .int) 3 := ⟨⟨zx_279, zx_369, by decide, by decide, by decide +kernel⟩, zx_370, zx_371⟩
theorem zn_M_waits : zNV zT y_M_waits b_M_waits 4 (some .boolean) 3 := ⟨⟨zx_279, zx_372, by decide, by decide, by decide +kernel⟩, zx_373, zx_374⟩
theorem zn_M_flight : zNV zT y_M_flight b_M_flight 5 (some .int) 2 := ⟨⟨zx_279, zx_375, by decide, by decide, by decide +kernel⟩, zx_376, zx_377⟩
theorem zn_M_message : zNV zT y_M_message b_M_message 6 (some .int) 4 := ⟨⟨zx_279, zx_378, by decide, by decide, by decide +kernel⟩, zx_379, zx_380⟩
theorem zn_M_hops : zNV zT y_M_hops b_M_hops 6 (some .int) 2 := ⟨⟨zx_279, zx_381, by decide, by decide, by decide +kernel⟩, zx_382, zx_383⟩
theorem zn_M_total : zNV zT y_M_total b_M_total 4 (some .int) 1 := ⟨⟨zx_279, zx_384, by decide, by decide, by decide +kernel⟩, zx_385, zx_386⟩
end
section
theorem d_D_isRouter_0 : decode b_D_isRouter 0 = .ok (.iload_n 1, 1) := by decide +kernel
theorem d_D_isRouter_1 : decode b_D_isRouter 1 = .ok (.ifCond .lt 15, 3) := by decide +kernel
theorem d_D_isRouter_4 : decode b_D_isRouter 4 = .ok (.iload_n 1, 1) := by decide +kernel
theorem d_D_isRouter_5 : decode b_D_isRouter 5 = .ok (.aload_n 0, 1) := by decide +kernel
theorem d_D_isRouter_6 : decode b_D_isRouter 6 = .ok (.getfield 18, 3) := by decide +kernel
theorem d_D_isRouter_9 : decode b_D_isRouter 9 = .ok (.if_icmp .ge 7, 3) := by decide +kernel
theorem d_D_isRouter_12 : decode b_D_isRouter 12 = .ok (.iconst 1, 1) := by decide +kernel
theorem d_D_isRouter_13 : decode b_D_isRouter 13 = .ok (.goto 4, 3) := by decide +kernel
theorem d_D_isRouter_16 : decode b_D_isRouter 16 = .ok (.iconst 0, 1) := by decide +kernel
theorem d_D_isRouter_17 : decode b_D_isRouter 17 = .ok (.ireturn, 1) := by decide +kernel
def F_D_isRouter (n : Nat) (v1 : Int32) (st : zS) : Option (Int32 × zS) :=
    if v1 < 0 then (some (0, st)) else (if (nI n) ≤ v1 then (some (0, st)) else (some (1, st)))

set_option maxHeartbeats 4000000 in
set_option maxRecDepth 1000000 in
theorem C_D_isRouter {dC : Nat → ClassId} {dI : Nat → Nat → Nat} {cI cZ cR cA : ClassId} {n : Nat} {ad : zK → Nat} {A : Nat → Prop} (hn : 2 ≤ n ∧ n ≤ 6) (hD : zD A (zKs n) ad) (l : Launch) (v1 : Int32) (st : zS) (out : Int32 × zS) (hF : F_D_isRouter n v1 st = some out) : zC zT (dC, dI) zcl (zty cI cZ cR cA) A l y_D_isRouter b_D_isRouter 2 (some .boolean) rm_D_isRouter [.ref (ad (0, 0)), .int v1] (fun H => zV (dC, dI) zcl (zKs n) ad (zcE n cI cZ cR cA ad) st H) (fun o H => o = some (.int out.1) ∧ zV (dC, dI) zcl (zKs n) ad (zcE n cI cZ cR cA ad) out.2 H) := by
  refine zC_of (by decide) (Nat.le_of_ble_eq_true rfl) (fun p e s m args below meth c ls S hret hlk hK hP hl => ?_)
  have hS : va_S A s.heap s.heap [] := va_S.rf
  have hl : lv_has ls 2 [(0, .ref (ad (0, 0))), (1, .int v1)] := hl
  have hP : zV (dC, dI) zcl (zKs n) ad (zcE n cI cZ cR cA ad) st s.heap := hP
  unfold F_D_isRouter at hF
  refine lv_iload_n S.1 S.2.1 d_D_isRouter_0 rfl (lv_at hl 1 rfl) ?_
  refine lv_if_lt (tgt := 16) S.1 S.2.1 d_D_isRouter_1 (by decide) (fun h1 => ?_) (fun h1 => ?_)
  · rw [if_pos h1] at hF
    refine lv_iconst (v := 0) S.1 S.2.1 d_D_isRouter_16 (by decide) ?_
    cases hF
    exact zr_zret S hret hlk (by decide) hS d_D_isRouter_17 ⟨rfl, hP⟩
  · rw [if_neg h1] at hF
    refine lv_iload_n S.1 S.2.1 d_D_isRouter_4 rfl (lv_at hl 1 rfl) ?_
    refine lv_aload_n S.1 S.2.1 d_D_isRouter_5 rfl (lv_at hl 0 rfl) ?_
    refine zr_get (v := .int (nI n)) S zi_D hK hP zk_0 rfl rfl 0 (by decide) zx_8 rfl d_D_isRouter_6 ?_
    refine lv_icmp_ge (tgt := 16) S.1 S.2.1 d_D_isRouter_9 (by decide) (fun h9 => ?_) (fun h9 => ?_)
    · rw [if_pos h9] at hF
      refine lv_iconst (v := 0) S.1 S.2.1 d_D_isRouter_16 (by decide) ?_
      cases hF
      exact zr_zret S hret hlk (by decide) hS d_D_isRouter_17 ⟨rfl, hP⟩
    · rw [if_neg h9] at hF
      refine lv_iconst (v := 1) S.1 S.2.1 d_D_isRouter_12 (by decide) ?_
      refine lv_goto (tgt := 17) S.1 S.2.1 d_D_isRouter_13 (by decide) ?_
      cases hF
      exact zr_zret S hret hlk (by decide) hS d_D_isRouter_17 ⟨rfl, hP⟩

theorem d_L_size_0 : decode b_L_size 0 = .ok (.aload_n 0, 1) := by decide +kernel
theorem d_L_size_1 : decode b_L_size 1 = .ok (.getfield 18, 3) := by decide +kernel
theorem d_L_size_4 : decode b_L_size 4 = .ok (.aload_n 0, 1) := by decide +kernel
theorem d_L_size_5 : decode b_L_size 5 = .ok (.getfield 22, 3) := by decide +kernel
theorem d_L_size_8 : decode b_L_size 8 = .ok (.isub, 1) := by decide +kernel
theorem d_L_size_9 : decode b_L_size 9 = .ok (.ireturn, 1) := by decide +kernel
def F_L_size (n : Nat) (st : zS) : Option (Int32 × zS) :=
    some ((st 3 0 1) - (st 3 0 0), st)

set_option maxHeartbeats 4000000 in
set_option maxRecDepth 1000000 in
theorem C_L_size {dC : Nat → ClassId} {dI : Nat → Nat → Nat} {cI cZ cR cA : ClassId} {n : Nat} {ad : zK → Nat} {A : Nat → Prop} (hn : 2 ≤ n ∧ n ≤ 6) (hD : zD A (zKs n) ad) (l : Launch) (st : zS) (out : Int32 × zS) (hF : F_L_size n st = some out) : zC zT (dC, dI) zcl (zty cI cZ cR cA) A l y_L_size b_L_size 1 (some .int) rm_L_size [.ref (ad (3, 0))] (fun H => zV (dC, dI) zcl (zKs n) ad (zcE n cI cZ cR cA ad) st H) (fun o H => o = some (.int out.1) ∧ zV (dC, dI) zcl (zKs n) ad (zcE n cI cZ cR cA ad) out.2 H) := by
  refine zC_of (by decide) (Nat.le_of_ble_eq_true rfl) (fun p e s m args below meth c ls S hret hlk hK hP hl => ?_)
  have hS : va_S A s.heap s.heap [] := va_S.rf
  have hl : lv_has ls 1 [(0, .ref (ad (3, 0)))] := hl
  have hP : zV (dC, dI) zcl (zKs n) ad (zcE n cI cZ cR cA ad) st s.heap := hP
  unfold F_L_size at hF
  refine lv_aload_n S.1 S.2.1 d_L_size_0 rfl (lv_at hl 0 rfl) ?_
  refine zr_get (v := .int (st 3 0 1)) S zi_L hK hP zk_3 rfl rfl 3 (by decide) zx_20 rfl d_L_size_1 ?_
  refine lv_aload_n S.1 S.2.1 d_L_size_4 rfl (lv_at hl 0 rfl) ?_
  refine zr_get (v := .int (st 3 0 0)) S zi_L hK hP zk_3 rfl rfl 2 (by decide) zx_21 rfl d_L_size_5 ?_
  refine lv_isub S.1 S.2.1 d_L_size_8 ?_
  cases hF
  exact zr_iret S hret hlk hS d_L_size_9 ⟨rfl, hP⟩

theorem d_D_route_0 : decode b_D_route 0 = .ok (.aload_n 0, 1) := by decide +kernel
theorem d_D_route_1 : decode b_D_route 1 = .ok (.getfield 29, 3) := by decide +kernel
theorem d_D_route_4 : decode b_D_route 4 = .ok (.iload_n 1, 1) := by decide +kernel
theorem d_D_route_5 : decode b_D_route 5 = .ok (.aload_n 0, 1) := by decide +kernel
theorem d_D_route_6 : decode b_D_route 6 = .ok (.getfield 18, 3) := by decide +kernel
theorem d_D_route_9 : decode b_D_route 9 = .ok (.imul, 1) := by decide +kernel
theorem d_D_route_10 : decode b_D_route 10 = .ok (.iload_n 2, 1) := by decide +kernel
theorem d_D_route_11 : decode b_D_route 11 = .ok (.iadd, 1) := by decide +kernel
theorem d_D_route_12 : decode b_D_route 12 = .ok (.aaload, 1) := by decide +kernel
theorem d_D_route_13 : decode b_D_route 13 = .ok (.areturn, 1) := by decide +kernel
def F_D_route (n : Nat) (v1 : Int32) (v2 : Int32) (st : zS) : Option (Nat × zS) :=
    if zOut ((v1 * (nI n)) + v2) (n * n) then none else some (6 * ((Int32.toNatClampNeg ((v1 * (nI n)) + v2)) / n) + (Int32.toNatClampNeg ((v1 * (nI n)) + v2)) % n, st)

set_option maxHeartbeats 4000000 in
set_option maxRecDepth 1000000 in
theorem C_D_route {dC : Nat → ClassId} {dI : Nat → Nat → Nat} {cI cZ cR cA : ClassId} {n : Nat} {ad : zK → Nat} {A : Nat → Prop} (hn : 2 ≤ n ∧ n ≤ 6) (hD : zD A (zKs n) ad) (l : Launch) (v1 : Int32) (v2 : Int32) (st : zS) (out : Nat × zS) (hF : F_D_route n v1 v2 st = some out) : zC zT (dC, dI) zcl (zty cI cZ cR cA) A l y_D_route b_D_route 3 (some (.object N_R)) rm_D_route [.ref (ad (0, 0)), .int v1, .int v2] (fun H => zV (dC, dI) zcl (zKs n) ad (zcE n cI cZ cR cA ad) st H) (fun o H => o = some (.ref (ad (7, out.1))) ∧ zV (dC, dI) zcl (zKs n) ad (zcE n cI cZ cR cA ad) out.2 H) := by
  refine zC_of (by decide) (Nat.le_of_ble_eq_true rfl) (fun p e s m args below meth c ls S hret hlk hK hP hl => ?_)
  have hS : va_S A s.heap s.heap [] := va_S.rf
  have hl : lv_has ls 3 [(0, .ref (ad (0, 0))), (1, .int v1), (2, .int v2)] := hl
  have hP : zV (dC, dI) zcl (zKs n) ad (zcE n cI cZ cR cA ad) st s.heap := hP
  unfold F_D_route at hF
  refine lv_aload_n S.1 S.2.1 d_D_route_0 rfl (lv_at hl 0 rfl) ?_
  refine zr_get (v := .ref (ad (2, 0))) S zi_D hK hP zk_0 rfl rfl 2 (by decide) zx_10 rfl d_D_route_1 ?_
  refine lv_iload_n S.1 S.2.1 d_D_route_4 rfl (lv_at hl 1 rfl) ?_
  refine lv_aload_n S.1 S.2.1 d_D_route_5 rfl (lv_at hl 0 rfl) ?_
  refine zr_get (v := .int (nI n)) S zi_D hK hP zk_0 rfl rfl 0 (by decide) zx_8 rfl d_D_route_6 ?_
  refine lv_imul S.1 S.2.1 d_D_route_9 ?_
  refine lv_iload_n S.1 S.2.1 d_D_route_10 rfl (lv_at hl 2 rfl) ?_
  refine lv_iadd S.1 S.2.1 d_D_route_11 ?_
  by_cases g12 : zOut ((v1 * (nI n)) + v2) (n * n)
  · rw [if_pos g12] at hF; cases hF
  rw [if_neg g12] at hF
  refine zr_aald (b := ad (7, 6 * ((Int32.toNatClampNeg ((v1 * (nI n)) + v2)) / n) + (Int32.toNatClampNeg ((v1 * (nI n)) + v2)) % n)) S hK hP zk_2 rfl 2 rfl rfl g12 rfl d_D_route_12 ?_
  cases hF
  exact zr_aret S hret hlk hS d_D_route_13 ⟨rfl, hP⟩

theorem zk_D_route {n : Nat} (hn : 2 ≤ n ∧ n ≤ 6) {a b : Int32} {st st1 : zS} {r : Nat} (h : F_D_route n a b st = some (r, st1)) : (((7 : Nat), r) : zK) ∈ zKs n := by
  unfold F_D_route at h
  by_cases g : zOut (a * nI n + b) (n * n)
  · rw [if_pos g] at h; cases h
  rw [if_neg g] at h
  cases h
  exact zk_7 hn g
theorem d_L_send_0 : decode b_L_send 0 = .ok (.aload_n 0, 1) := by decide +kernel
theorem d_L_send_1 : decode b_L_send 1 = .ok (.getfield 18, 3) := by decide +kernel
theorem d_L_send_4 : decode b_L_send 4 = .ok (.sipush 1024, 3) := by decide +kernel
theorem d_L_send_7 : decode b_L_send 7 = .ok (.if_icmp .ne 36, 3) := by decide +kernel
theorem d_L_send_10 : decode b_L_send 10 = .ok (.aload_n 0, 1) := by decide +kernel
theorem d_L_send_11 : decode b_L_send 11 = .ok (.getfield 11, 3) := by decide +kernel
theorem d_L_send_14 : decode b_L_send 14 = .ok (.aload_n 0, 1) := by decide +kernel
theorem d_L_send_15 : decode b_L_send 15 = .ok (.getfield 22, 3) := by decide +kernel
theorem d_L_send_18 : decode b_L_send 18 = .ok (.aload_n 0, 1) := by decide +kernel
theorem d_L_send_19 : decode b_L_send 19 = .ok (.getfield 11, 3) := by decide +kernel
theorem d_L_send_22 : decode b_L_send 22 = .ok (.iconst 0, 1) := by decide +kernel
theorem d_L_send_23 : decode b_L_send 23 = .ok (.aload_n 0, 1) := by decide +kernel
theorem d_L_send_24 : decode b_L_send 24 = .ok (.invokevirtual 25, 3) := by decide +kernel
theorem d_L_send_27 : decode b_L_send 27 = .ok (.invokestatic 29, 3) := by decide +kernel
theorem d_L_send_30 : decode b_L_send 30 = .ok (.aload_n 0, 1) := by decide +kernel
theorem d_L_send_31 : decode b_L_send 31 = .ok (.aload_n 0, 1) := by decide +kernel
theorem d_L_send_32 : decode b_L_send 32 = .ok (.invokevirtual 25, 3) := by decide +kernel
theorem d_L_send_35 : decode b_L_send 35 = .ok (.putfield 18, 3) := by decide +kernel
theorem d_L_send_38 : decode b_L_send 38 = .ok (.aload_n 0, 1) := by decide +kernel
theorem d_L_send_39 : decode b_L_send 39 = .ok (.iconst 0, 1) := by decide +kernel
theorem d_L_send_40 : decode b_L_send 40 = .ok (.putfield 22, 3) := by decide +kernel
theorem d_L_send_43 : decode b_L_send 43 = .ok (.aload_n 0, 1) := by decide +kernel
theorem d_L_send_44 : decode b_L_send 44 = .ok (.getfield 18, 3) := by decide +kernel
theorem d_L_send_47 : decode b_L_send 47 = .ok (.sipush 1024, 3) := by decide +kernel
theorem d_L_send_50 : decode b_L_send 50 = .ok (.if_icmp .ne 4, 3) := by decide +kernel
theorem d_L_send_53 : decode b_L_send 53 = .ok (.return_, 1) := by decide +kernel
theorem d_L_send_54 : decode b_L_send 54 = .ok (.aload_n 0, 1) := by decide +kernel
theorem d_L_send_55 : decode b_L_send 55 = .ok (.getfield 11, 3) := by decide +kernel
theorem d_L_send_58 : decode b_L_send 58 = .ok (.aload_n 0, 1) := by decide +kernel
theorem d_L_send_59 : decode b_L_send 59 = .ok (.getfield 18, 3) := by decide +kernel
theorem d_L_send_62 : decode b_L_send 62 = .ok (.aload_n 1, 1) := by decide +kernel
theorem d_L_send_63 : decode b_L_send 63 = .ok (.getfield 35, 3) := by decide +kernel
theorem d_L_send_66 : decode b_L_send 66 = .ok (.bipush 22, 2) := by decide +kernel
theorem d_L_send_68 : decode b_L_send 68 = .ok (.ishl, 1) := by decide +kernel
theorem d_L_send_69 : decode b_L_send 69 = .ok (.iload_n 2, 1) := by decide +kernel
theorem d_L_send_70 : decode b_L_send 70 = .ok (.bipush 19, 2) := by decide +kernel
theorem d_L_send_72 : decode b_L_send 72 = .ok (.ishl, 1) := by decide +kernel
theorem d_L_send_73 : decode b_L_send 73 = .ok (.ior, 1) := by decide +kernel
theorem d_L_send_74 : decode b_L_send 74 = .ok (.iload_n 3, 1) := by decide +kernel
theorem d_L_send_75 : decode b_L_send 75 = .ok (.bipush 17, 2) := by decide +kernel
theorem d_L_send_77 : decode b_L_send 77 = .ok (.ishl, 1) := by decide +kernel
theorem d_L_send_78 : decode b_L_send 78 = .ok (.ior, 1) := by decide +kernel
theorem d_L_send_79 : decode b_L_send 79 = .ok (.aload_n 1, 1) := by decide +kernel
theorem d_L_send_80 : decode b_L_send 80 = .ok (.getfield 40, 3) := by decide +kernel
theorem d_L_send_83 : decode b_L_send 83 = .ok (.bipush 14, 2) := by decide +kernel
theorem d_L_send_85 : decode b_L_send 85 = .ok (.ishl, 1) := by decide +kernel
theorem d_L_send_86 : decode b_L_send 86 = .ok (.ior, 1) := by decide +kernel
theorem d_L_send_87 : decode b_L_send 87 = .ok (.aload_n 1, 1) := by decide +kernel
theorem d_L_send_88 : decode b_L_send 88 = .ok (.getfield 43, 3) := by decide +kernel
theorem d_L_send_91 : decode b_L_send 91 = .ok (.ior, 1) := by decide +kernel
theorem d_L_send_92 : decode b_L_send 92 = .ok (.iastore, 1) := by decide +kernel
theorem d_L_send_93 : decode b_L_send 93 = .ok (.aload_n 0, 1) := by decide +kernel
theorem d_L_send_94 : decode b_L_send 94 = .ok (.dup, 1) := by decide +kernel
theorem d_L_send_95 : decode b_L_send 95 = .ok (.getfield 18, 3) := by decide +kernel
theorem d_L_send_98 : decode b_L_send 98 = .ok (.iconst 1, 1) := by decide +kernel
theorem d_L_send_99 : decode b_L_send 99 = .ok (.iadd, 1) := by decide +kernel
theorem d_L_send_100 : decode b_L_send 100 = .ok (.putfield 18, 3) := by decide +kernel
theorem d_L_send_103 : decode b_L_send 103 = .ok (.aload_n 0, 1) := by decide +kernel
theorem d_L_send_104 : decode b_L_send 104 = .ok (.getfield 15, 3) := by decide +kernel
theorem d_L_send_107 : decode b_L_send 107 = .ok (.iload_n 3, 1) := by decide +kernel
theorem d_L_send_108 : decode b_L_send 108 = .ok (.dup2, 1) := by decide +kernel
theorem d_L_send_109 : decode b_L_send 109 = .ok (.iaload, 1) := by decide +kernel
theorem d_L_send_110 : decode b_L_send 110 = .ok (.iconst 1, 1) := by decide +kernel
theorem d_L_send_111 : decode b_L_send 111 = .ok (.iadd, 1) := by decide +kernel
theorem d_L_send_112 : decode b_L_send 112 = .ok (.iastore, 1) := by decide +kernel
theorem d_L_send_113 : decode b_L_send 113 = .ok (.return_, 1) := by decide +kernel
def F_L_send_L43_s3 (n : Nat) (st : zS) : Option (Int32 × zS) :=
    some (0, st)

def F_L_send_L43_s2 (n : Nat) (v3 : Int32) (st : zS) : Option (Int32 × zS) :=
    if zOut v3 3 then none else if zOut v3 3 then none else F_L_send_L43_s3 n (zs st 5 0 (Int32.toNatClampNeg v3) ((st 5 0 (Int32.toNatClampNeg v3)) + 1))

def F_L_send_L43_s1 (n : Nat) (v3 : Int32) (st : zS) : Option (Int32 × zS) :=
    F_L_send_L43_s2 n v3 (zs st 3 0 1 ((st 3 0 1) + 1))

def F_L_send_L43 (n : Nat) (k1 : Nat) (v2 : Int32) (v3 : Int32) (st : zS) : Option (Int32 × zS) :=
    if (st 3 0 1) = 1024 then (some (0, st)) else (if zOut (st 3 0 1) 1024 then none else F_L_send_L43_s1 n v3 (zs st 4 0 (Int32.toNatClampNeg (st 3 0 1)) ((((((nI (k1 / 6)) <<< (22 &&& 31)) ||| (v2 <<< (19 &&& 31))) ||| (v3 <<< (17 &&& 31))) ||| ((nI (k1 % 6)) <<< (14 &&& 31))) ||| (st 7 k1 0))))

def F_L_send_s5 (n : Nat) (k1 : Nat) (v2 : Int32) (v3 : Int32) (st : zS) : Option (Int32 × zS) :=
    F_L_send_L43 n k1 v2 v3 st

def F_L_send_s4 (n : Nat) (k1 : Nat) (v2 : Int32) (v3 : Int32) (st : zS) : Option (Int32 × zS) :=
    F_L_send_s5 n k1 v2 v3 (zs st 3 0 0 0)

def F_L_send_s3 (n : Nat) (k1 : Nat) (v2 : Int32) (v3 : Int32) (t1 : Int32) (st : zS) : Option (Int32 × zS) :=
    F_L_send_s4 n k1 v2 v3 (zs st 3 0 1 t1)

def F_L_send_s2 (n : Nat) (k1 : Nat) (v2 : Int32) (v3 : Int32) (st : zS) : Option (Int32 × zS) :=
    (F_L_size n st).bind (fun u => F_L_send_s3 n k1 v2 v3 u.1 u.2)

def F_L_send_s1 (n : Nat) (k1 : Nat) (v2 : Int32) (v3 : Int32) (t1 : Int32) (t3 : Int32) (t4 : Int32) (st : zS) : Option (Int32 × zS) :=
    if zCpyOut t1 t3 t4 1024 then none else F_L_send_s2 n k1 v2 v3 (zrow st 4 0 (va_cpy (st 4 0) (st 4 0) (Int32.toNatClampNeg t1) (Int32.toNatClampNeg t3) (Int32.toNatClampNeg t4)))

def F_L_send (n : Nat) (k1 : Nat) (v2 : Int32) (v3 : Int32) (st : zS) : Option (Int32 × zS) :=
    if (st 3 0 1) = 1024 then ((F_L_size n st).bind (fun u => F_L_send_s1 n k1 v2 v3 (st 3 0 0) 0 u.1 u.2)) else (F_L_send_L43 n k1 v2 v3 st)

set_option maxHeartbeats 4000000 in
set_option maxRecDepth 1000000 in
theorem T_L_send_L43 {dC : Nat → ClassId} {dI : Nat → Nat → Nat} {cI cZ cR cA : ClassId} {n : Nat} {ad : zK → Nat} {A : Nat → Prop} (hn : 2 ≤ n ∧ n ≤ 6) (hD : zD A (zKs n) ad) {p : Program} {l : Launch} {e : Env} {s : State} {m : MethodId} {args : Array Value} {below : List Frame} {meth : Method} {c : Code} (S : CallFix p m c b_L_send 4 s args zT N_L) (hret : meth.sig.returnType = none) (hlk : meth.locks = false) (hK : va_K (dC, dI) zcl (zty cI cZ cR cA) s) (out : Int32 × zS) (k1 : Nat) (v2 : Int32) (v3 : Int32) (hk1 : (7, k1) ∈ zKs n) (st : zS) (H : Heap) (locs : List Loc) (ls : Array Slot) (hP : zV (dC, dI) zcl (zKs n) ad (zcE n cI cZ cR cA ad) st H) (hS : va_S A s.heap H locs) (hl : lv_has ls 4 [(0, .ref (ad (3, 0))), (1, .ref (ad (7, k1))), (2, .int v2), (3, .int v3)]) (hF : F_L_send_L43 n k1 v2 v3 st = some out) : W p l e rm_L_send s m args below meth c H locs 0 0 (zQ below A (fun o H => o = none ∧ zV (dC, dI) zcl (zKs n) ad (zcE n cI cZ cR cA ad) out.2 H) args s) (F0 m 43 ls []) := by
  unfold F_L_send_L43 at hF
  refine lv_aload_n S.1 S.2.1 d_L_send_43 rfl (lv_at hl 0 rfl) ?_
  refine zr_get (v := .int (st 3 0 1)) S zi_L hK hP zk_3 rfl rfl 3 (by decide) zx_20 rfl d_L_send_44 ?_
  refine lv_sipush (v := 1024) S.1 S.2.1 d_L_send_47 (by decide) ?_
  refine lv_icmp_ne (tgt := 54) S.1 S.2.1 d_L_send_50 (by decide) (fun h50 => ?_) (fun h50 => ?_)
  · rw [if_neg h50] at hF
    refine lv_aload_n S.1 S.2.1 d_L_send_54 rfl (lv_at hl 0 rfl) ?_
    refine zr_get (v := .ref (ad (4, 0))) S zi_L hK hP zk_3 rfl rfl 0 (by decide) zx_18 rfl d_L_send_55 ?_
    refine lv_aload_n S.1 S.2.1 d_L_send_58 rfl (lv_at hl 0 rfl) ?_
    refine zr_get (v := .int (st 3 0 1)) S zi_L hK hP zk_3 rfl rfl 3 (by decide) zx_20 rfl d_L_send_59 ?_
    refine lv_aload_n S.1 S.2.1 d_L_send_62 rfl (lv_at hl 1 rfl) ?_
    refine zr_get (v := .int (nI (k1 / 6))) S zi_R hK hP hk1 rfl rfl 0 (by decide) zx_22 rfl d_L_send_63 ?_
    refine lv_bipush (v := 22) S.1 S.2.1 d_L_send_66 (by decide) ?_
    refine lv_ishl S.1 S.2.1 d_L_send_68 ?_
    refine lv_iload_n S.1 S.2.1 d_L_send_69 rfl (lv_at hl 2 rfl) ?_
    refine lv_bipush (v := 19) S.1 S.2.1 d_L_send_70 (by decide) ?_
    refine lv_ishl S.1 S.2.1 d_L_send_72 ?_
    refine lv_ior S.1 S.2.1 d_L_send_73 ?_
    refine lv_iload_n S.1 S.2.1 d_L_send_74 rfl (lv_at hl 3 rfl) ?_
    refine lv_bipush (v := 17) S.1 S.2.1 d_L_send_75 (by decide) ?_
    refine lv_ishl S.1 S.2.1 d_L_send_77 ?_
    refine lv_ior S.1 S.2.1 d_L_send_78 ?_
    refine lv_aload_n S.1 S.2.1 d_L_send_79 rfl (lv_at hl 1 rfl) ?_
    refine zr_get (v := .int (nI (k1 % 6))) S zi_R hK hP hk1 rfl rfl 1 (by decide) zx_23 rfl d_L_send_80 ?_
    refine lv_bipush (v := 14) S.1 S.2.1 d_L_send_83 (by decide) ?_
    refine lv_ishl S.1 S.2.1 d_L_send_85 ?_
    refine lv_ior S.1 S.2.1 d_L_send_86 ?_
    refine lv_aload_n S.1 S.2.1 d_L_send_87 rfl (lv_at hl 1 rfl) ?_
    refine zr_get (v := .int (st 7 k1 0)) S zi_R hK hP hk1 rfl rfl 5 (by decide) zx_24 rfl d_L_send_88 ?_
    refine lv_ior S.1 S.2.1 d_L_send_91 ?_
    by_cases g92 : zOut (st 3 0 1) 1024
    · rw [if_pos g92] at hF; cases hF
    rw [if_neg g92] at hF
    refine zr_iast S hK hP hD hS zk_4 (fun _ => rfl) 0 rfl g92 d_L_send_92 (fun H locs hP hS => ?_)
    replace hF : F_L_send_L43_s1 n v3 (zs st 4 0 (Int32.toNatClampNeg (st 3 0 1)) ((((((nI (k1 / 6)) <<< (22 &&& 31)) ||| (v2 <<< (19 &&& 31))) ||| (v3 <<< (17 &&& 31))) ||| ((nI (k1 % 6)) <<< (14 &&& 31))) ||| (st 7 k1 0))) = some out := hF
    generalize zs st 4 0 (Int32.toNatClampNeg (st 3 0 1)) ((((((nI (k1 / 6)) <<< (22 &&& 31)) ||| (v2 <<< (19 &&& 31))) ||| (v3 <<< (17 &&& 31))) ||| ((nI (k1 % 6)) <<< (14 &&& 31))) ||| (st 7 k1 0)) = st93 at hP hF
    unfold F_L_send_L43_s1 at hF
    refine lv_aload_n S.1 S.2.1 d_L_send_93 rfl (lv_at hl 0 rfl) ?_
    refine lv_dup S.1 S.2.1 d_L_send_94 rfl ?_
    refine zr_get (v := .int (st93 3 0 1)) S zi_L hK hP zk_3 rfl rfl 3 (by decide) zx_20 rfl d_L_send_95 ?_
    refine lv_iconst (v := 1) S.1 S.2.1 d_L_send_98 (by decide) ?_
    refine lv_iadd S.1 S.2.1 d_L_send_99 ?_
    refine zr_put (v := (st93 3 0 1) + 1) S zi_L t_L t_L_ok n_L hK hP hD hS zk_3 rfl rfl 3 (by decide) zx_20 rfl rfl rfl (Nat.le_of_ble_eq_true rfl) 1 rfl d_L_send_100 (fun H locs hP hS => ?_)
    replace hF : F_L_send_L43_s2 n v3 (zs st93 3 0 1 ((st93 3 0 1) + 1)) = some out := hF
    generalize zs st93 3 0 1 ((st93 3 0 1) + 1) = st103 at hP hF
    unfold F_L_send_L43_s2 at hF
    refine lv_aload_n S.1 S.2.1 d_L_send_103 rfl (lv_at hl 0 rfl) ?_
    refine zr_get (v := .ref (ad (5, 0))) S zi_L hK hP zk_3 rfl rfl 1 (by decide) zx_19 rfl d_L_send_104 ?_
    refine lv_iload_n S.1 S.2.1 d_L_send_107 rfl (lv_at hl 3 rfl) ?_
    refine lv_dup2_11 S.1 S.2.1 d_L_send_108 rfl rfl ?_
    by_cases g109 : zOut v3 3
    · rw [if_pos g109] at hF; cases hF
    rw [if_neg g109] at hF
    refine zr_iald S hK hP zk_5 rfl 0 rfl g109 d_L_send_109 ?_
    refine lv_iconst (v := 1) S.1 S.2.1 d_L_send_110 (by decide) ?_
    refine lv_iadd S.1 S.2.1 d_L_send_111 ?_
    by_cases g112 : zOut v3 3
    · rw [if_pos g112] at hF; cases hF
    rw [if_neg g112] at hF
    refine zr_iast S hK hP hD hS zk_5 (fun _ => rfl) 0 rfl g112 d_L_send_112 (fun H locs hP hS => ?_)
    replace hF : F_L_send_L43_s3 n (zs st103 5 0 (Int32.toNatClampNeg v3) ((st103 5 0 (Int32.toNatClampNeg v3)) + 1)) = some out := hF
    generalize zs st103 5 0 (Int32.toNatClampNeg v3) ((st103 5 0 (Int32.toNatClampNeg v3)) + 1) = st113 at hP hF
    unfold F_L_send_L43_s3 at hF
    cases hF
    exact zr_vret S hret hlk hS d_L_send_113 ⟨rfl, hP⟩
  · rw [if_pos h50] at hF
    cases hF
    exact zr_vret S hret hlk hS d_L_send_53 ⟨rfl, hP⟩

set_option maxHeartbeats 4000000 in
set_option maxRecDepth 1000000 in
theorem C_L_send {dC : Nat → ClassId} {dI : Nat → Nat → Nat} {cI cZ cR cA : ClassId} {n : Nat} {ad : zK → Nat} {A : Nat → Prop} (hn : 2 ≤ n ∧ n ≤ 6) (hD : zD A (zKs n) ad) (l : Launch) (k1 : Nat) (v2 : Int32) (v3 : Int32) (hk1 : (7, k1) ∈ zKs n) (st : zS) (out : Int32 × zS) (hF : F_L_send n k1 v2 v3 st = some out) : zC zT (dC, dI) zcl (zty cI cZ cR cA) A l y_L_send b_L_send 4 (none) rm_L_send [.ref (ad (3, 0)), .ref (ad (7, k1)), .int v2, .int v3] (fun H => zV (dC, dI) zcl (zKs n) ad (zcE n cI cZ cR cA ad) st H) (fun o H => o = none ∧ zV (dC, dI) zcl (zKs n) ad (zcE n cI cZ cR cA ad) out.2 H) := by
  refine zC_of (by decide) (Nat.le_of_ble_eq_true rfl) (fun p e s m args below meth c ls S hret hlk hK hP hl => ?_)
  have hS : va_S A s.heap s.heap [] := va_S.rf
  have hl : lv_has ls 4 [(0, .ref (ad (3, 0))), (1, .ref (ad (7, k1))), (2, .int v2), (3, .int v3)] := hl
  have hP : zV (dC, dI) zcl (zKs n) ad (zcE n cI cZ cR cA ad) st s.heap := hP
  unfold F_L_send at hF
  refine lv_aload_n S.1 S.2.1 d_L_send_0 rfl (lv_at hl 0 rfl) ?_
  refine zr_get (v := .int (st 3 0 1)) S zi_L hK hP zk_3 rfl rfl 3 (by decide) zx_20 rfl d_L_send_1 ?_
  refine lv_sipush (v := 1024) S.1 S.2.1 d_L_send_4 (by decide) ?_
  refine lv_icmp_ne (tgt := 43) S.1 S.2.1 d_L_send_7 (by decide) (fun h7 => ?_) (fun h7 => ?_)
  · rw [if_neg h7] at hF
    exact T_L_send_L43 hn hD S hret hlk hK out k1 v2 v3 hk1 st _ _ _ hP hS (lv_sub hl [0, 1, 2, 3] rfl) hF
  · rw [if_pos h7] at hF
    refine lv_aload_n S.1 S.2.1 d_L_send_10 rfl (lv_at hl 0 rfl) ?_
    refine zr_get (v := .ref (ad (4, 0))) S zi_L hK hP zk_3 rfl rfl 0 (by decide) zx_18 rfl d_L_send_11 ?_
    refine lv_aload_n S.1 S.2.1 d_L_send_14 rfl (lv_at hl 0 rfl) ?_
    refine zr_get (v := .int (st 3 0 0)) S zi_L hK hP zk_3 rfl rfl 2 (by decide) zx_21 rfl d_L_send_15 ?_
    refine lv_aload_n S.1 S.2.1 d_L_send_18 rfl (lv_at hl 0 rfl) ?_
    refine zr_get (v := .ref (ad (4, 0))) S zi_L hK hP zk_3 rfl rfl 0 (by decide) zx_18 rfl d_L_send_19 ?_
    refine lv_iconst (v := 0) S.1 S.2.1 d_L_send_22 (by decide) ?_
    refine lv_aload_n S.1 S.2.1 d_L_send_23 rfl (lv_at hl 0 rfl) ?_
    cases hc24 : F_L_size n st with
    | none => rw [hc24] at hF; cases hF
    | some u24 =>
      obtain ⟨r24, st24⟩ := u24
      rw [hc24] at hF
      replace hF := zbind hF
      refine zr_callV (rest := [.int 0, .ref (ad (4, 0)), .int (st 3 0 0), .ref (ad (4, 0))]) S zT_good (C_L_size hn hD l st (r24, st24) hc24) zn_L_size zx_90 ⟨rfl, rfl⟩ ⟨Nat.le_of_ble_eq_true rfl, Nat.le_of_ble_eq_true rfl⟩ ⟨Nat.zero_le _, Nat.zero_le _⟩ hK (zr_recv hK hP zk_3 rfl rfl) hP hl.1 (Nat.le_of_ble_eq_true rfl) hS (fun _ h => h) d_L_send_24 rfl (fun o H locs hpo _ _ hS => ?_)
      obtain ⟨rfl, hP⟩ := hpo
      refine W.eq (g2 := F0 m 27 ls [.int r24, .int 0, .ref (ad (4, 0)), .int (st 3 0 0), .ref (ad (4, 0))]) rfl ?_
      replace hF : F_L_send_s1 n k1 v2 v3 (st 3 0 0) 0 r24 st24 = some out := hF
      replace hP : zV (dC, dI) zcl (zKs n) ad (zcE n cI cZ cR cA ad) st24 H := hP
      unfold F_L_send_s1 at hF
      by_cases g27 : zCpyOut (st 3 0 0) 0 r24 1024
      · rw [if_pos g27] at hF; cases hF
      rw [if_neg g27] at hF
      refine zr_copy (rest := []) S hl.1 zx_91 zx_120 zx_123 zx_54 hK hP hD hS zk_4 (fun _ => rfl) 0 rfl g27 (Nat.le_of_ble_eq_true rfl) (Nat.le_of_ble_eq_true rfl) d_L_send_27 (fun H locs hP hS => ?_)
      replace hF : F_L_send_s2 n k1 v2 v3 (zrow st24 4 0 (va_cpy (st24 4 0) (st24 4 0) (Int32.toNatClampNeg (st 3 0 0)) (Int32.toNatClampNeg 0) (Int32.toNatClampNeg r24))) = some out := hF
      generalize zrow st24 4 0 (va_cpy (st24 4 0) (st24 4 0) (Int32.toNatClampNeg (st 3 0 0)) (Int32.toNatClampNeg 0) (Int32.toNatClampNeg r24)) = st30 at hP hF
      unfold F_L_send_s2 at hF
      refine lv_aload_n S.1 S.2.1 d_L_send_30 rfl (lv_at hl 0 rfl) ?_
      refine lv_aload_n S.1 S.2.1 d_L_send_31 rfl (lv_at hl 0 rfl) ?_
      cases hc32 : F_L_size n st30 with
      | none => rw [hc32] at hF; cases hF
      | some u32 =>
        obtain ⟨r32, st32⟩ := u32
        rw [hc32] at hF
        replace hF := zbind hF
        refine zr_callV (rest := [.ref (ad (3, 0))]) S zT_good (C_L_size hn hD l st30 (r32, st32) hc32) zn_L_size zx_90 ⟨rfl, rfl⟩ ⟨Nat.le_of_ble_eq_true rfl, Nat.le_of_ble_eq_true rfl⟩ ⟨Nat.zero_le _, Nat.zero_le _⟩ hK (zr_recv hK hP zk_3 rfl rfl) hP hl.1 (Nat.le_of_ble_eq_true rfl) hS (fun _ h => h) d_L_send_32 rfl (fun o H locs hpo _ _ hS => ?_)
        obtain ⟨rfl, hP⟩ := hpo
        refine W.eq (g2 := F0 m 35 ls [.int r32, .ref (ad (3, 0))]) rfl ?_
        replace hF : F_L_send_s3 n k1 v2 v3 r32 st32 = some out := hF
        replace hP : zV (dC, dI) zcl (zKs n) ad (zcE n cI cZ cR cA ad) st32 H := hP
        unfold F_L_send_s3 at hF
        refine zr_put (v := r32) S zi_L t_L t_L_ok n_L hK hP hD hS zk_3 rfl rfl 3 (by decide) zx_20 rfl rfl rfl (Nat.le_of_ble_eq_true rfl) 1 rfl d_L_send_35 (fun H locs hP hS => ?_)
        replace hF : F_L_send_s4 n k1 v2 v3 (zs st32 3 0 1 r32) = some out := hF
        generalize zs st32 3 0 1 r32 = st38 at hP hF
        unfold F_L_send_s4 at hF
        refine lv_aload_n S.1 S.2.1 d_L_send_38 rfl (lv_at hl 0 rfl) ?_
        refine lv_iconst (v := 0) S.1 S.2.1 d_L_send_39 (by decide) ?_
        refine zr_put (v := 0) S zi_L t_L t_L_ok n_L hK hP hD hS zk_3 rfl rfl 2 (by decide) zx_21 rfl rfl rfl (Nat.le_of_ble_eq_true rfl) 0 rfl d_L_send_40 (fun H locs hP hS => ?_)
        replace hF : F_L_send_s5 n k1 v2 v3 (zs st38 3 0 0 0) = some out := hF
        generalize zs st38 3 0 0 0 = st43 at hP hF
        unfold F_L_send_s5 at hF
        exact T_L_send_L43 hn hD S hret hlk hK out k1 v2 v3 hk1 st43 _ _ _ hP hS (lv_sub hl [0, 1, 2, 3] rfl) hF

theorem d_D_greet_0 : decode b_D_greet 0 = .ok (.iconst 0, 1) := by decide +kernel
theorem d_D_greet_1 : decode b_D_greet 1 = .ok (.istore_n 3, 1) := by decide +kernel
theorem d_D_greet_2 : decode b_D_greet 2 = .ok (.iload_n 3, 1) := by decide +kernel
theorem d_D_greet_3 : decode b_D_greet 3 = .ok (.aload_n 0, 1) := by decide +kernel
theorem d_D_greet_4 : decode b_D_greet 4 = .ok (.getfield 18, 3) := by decide +kernel
theorem d_D_greet_7 : decode b_D_greet 7 = .ok (.if_icmp .ge 39, 3) := by decide +kernel
theorem d_D_greet_10 : decode b_D_greet 10 = .ok (.aload_n 0, 1) := by decide +kernel
theorem d_D_greet_11 : decode b_D_greet 11 = .ok (.iload_n 1, 1) := by decide +kernel
theorem d_D_greet_12 : decode b_D_greet 12 = .ok (.iload_n 3, 1) := by decide +kernel
theorem d_D_greet_13 : decode b_D_greet 13 = .ok (.invokevirtual 85, 3) := by decide +kernel
theorem d_D_greet_16 : decode b_D_greet 16 = .ok (.astore 4, 2) := by decide +kernel
theorem d_D_greet_18 : decode b_D_greet 18 = .ok (.aload 4, 2) := by decide +kernel
theorem d_D_greet_20 : decode b_D_greet 20 = .ok (.getfield 89, 3) := by decide +kernel
theorem d_D_greet_23 : decode b_D_greet 23 = .ok (.sipush 10000, 3) := by decide +kernel
theorem d_D_greet_26 : decode b_D_greet 26 = .ok (.if_icmp .eq 14, 3) := by decide +kernel
theorem d_D_greet_29 : decode b_D_greet 29 = .ok (.aload_n 0, 1) := by decide +kernel
theorem d_D_greet_30 : decode b_D_greet 30 = .ok (.getfield 39, 3) := by decide +kernel
theorem d_D_greet_33 : decode b_D_greet 33 = .ok (.aload 4, 2) := by decide +kernel
theorem d_D_greet_35 : decode b_D_greet 35 = .ok (.iload_n 2, 1) := by decide +kernel
theorem d_D_greet_36 : decode b_D_greet 36 = .ok (.iconst 0, 1) := by decide +kernel
theorem d_D_greet_37 : decode b_D_greet 37 = .ok (.invokevirtual 137, 3) := by decide +kernel
theorem d_D_greet_40 : decode b_D_greet 40 = .ok (.iinc 3 1, 3) := by decide +kernel
theorem d_D_greet_43 : decode b_D_greet 43 = .ok (.goto (-41), 3) := by decide +kernel
theorem d_D_greet_46 : decode b_D_greet 46 = .ok (.return_, 1) := by decide +kernel
def F_D_greet_L40 (n : Nat) (c2 : Int32 → Int32 → Int32 → zS → Option (Int32 × zS)) (v1 : Int32) (v2 : Int32) (v3 : Int32) (st : zS) : Option (Int32 × zS) :=
    c2 v1 v2 (v3 + 1) st

def F_D_greet_L2_s2 (n : Nat) (c2 : Int32 → Int32 → Int32 → zS → Option (Int32 × zS)) (v1 : Int32) (v2 : Int32) (v3 : Int32) (st : zS) : Option (Int32 × zS) :=
    F_D_greet_L40 n c2 v1 v2 v3 st

def F_D_greet_L2_s1 (n : Nat) (c2 : Int32 → Int32 → Int32 → zS → Option (Int32 × zS)) (v1 : Int32) (v2 : Int32) (v3 : Int32) (u0 : Nat) (st : zS) : Option (Int32 × zS) :=
    if (st 7 u0 0) = 10000 then (F_D_greet_L40 n c2 v1 v2 v3 st) else ((F_L_send n u0 v2 0 st).bind (fun u => F_D_greet_L2_s2 n c2 v1 v2 v3 u.2))

def F_D_greet_L2 (n : Nat) : Nat → Int32 → Int32 → Int32 → zS → Option (Int32 × zS)
  | 0, _, _, _, _ => none
  | f + 1, v1, v2, v3, st =>
    if (nI n) ≤ v3 then (some (0, st)) else ((F_D_route n v1 v3 st).bind (fun u => F_D_greet_L2_s1 n (F_D_greet_L2 n f) v1 v2 v3 u.1 u.2))

def F_D_greet (n : Nat) (v1 : Int32) (v2 : Int32) (st : zS) : Option (Int32 × zS) :=
    F_D_greet_L2 n zFuel v1 v2 0 st

set_option maxHeartbeats 4000000 in
set_option maxRecDepth 1000000 in
theorem T_D_greet_L40 {dC : Nat → ClassId} {dI : Nat → Nat → Nat} {cI cZ cR cA : ClassId} {n : Nat} {ad : zK → Nat} {A : Nat → Prop} (hn : 2 ≤ n ∧ n ≤ 6) (hD : zD A (zKs n) ad) {p : Program} {l : Launch} {e : Env} {s : State} {m : MethodId} {args : Array Value} {below : List Frame} {meth : Method} {c : Code} (S : CallFix p m c b_D_greet 5 s args zT N_D) (hret : meth.sig.returnType = none) (hlk : meth.locks = false) (hK : va_K (dC, dI) zcl (zty cI cZ cR cA) s) (out : Int32 × zS) (c2 : Int32 → Int32 → Int32 → zS → Option (Int32 × zS)) (hc2 : ∀ (v1 : Int32) (v2 : Int32) (v3 : Int32) (st : zS) (H : Heap) (locs : List Loc) (ls : Array Slot), zV (dC, dI) zcl (zKs n) ad (zcE n cI cZ cR cA ad) st H → va_S A s.heap H locs → lv_has ls 5 [(0, .ref (ad (0, 0))), (1, .int v1), (2, .int v2), (3, .int v3)] → c2 v1 v2 v3 st = some out → W p l e rm_D_greet s m args below meth c H locs 0 0 (zQ below A (fun o H => o = none ∧ zV (dC, dI) zcl (zKs n) ad (zcE n cI cZ cR cA ad) out.2 H) args s) (F0 m 2 ls [])) (v1 : Int32) (v2 : Int32) (v3 : Int32) (st : zS) (H : Heap) (locs : List Loc) (ls : Array Slot) (hP : zV (dC, dI) zcl (zKs n) ad (zcE n cI cZ cR cA ad) st H) (hS : va_S A s.heap H locs) (hl : lv_has ls 5 [(0, .ref (ad (0, 0))), (1, .int v1), (2, .int v2), (3, .int v3)]) (hF : F_D_greet_L40 n c2 v1 v2 v3 st = some out) : W p l e rm_D_greet s m args below meth c H locs 0 0 (zQ below A (fun o H => o = none ∧ zV (dC, dI) zcl (zKs n) ad (zcE n cI cZ cR cA ad) out.2 H) args s) (F0 m 40 ls []) := by
  unfold F_D_greet_L40 at hF
  refine lv_iinc (k := 3) (v := v3 + 1) S.1 S.2.1 d_D_greet_40 hl rfl rfl (by decide) rfl (fun ls hl => ?_)
  have hl : lv_has ls 5 [(3, .int (v3 + 1)), (0, .ref (ad (0, 0))), (1, .int v1), (2, .int v2)] := hl
  refine lv_goto (tgt := 2) S.1 S.2.1 d_D_greet_43 (by decide) ?_
  exact hc2 v1 v2 (v3 + 1) st _ _ _ hP hS (lv_sub hl [1, 2, 3, 0] rfl) hF

set_option maxHeartbeats 4000000 in
set_option maxRecDepth 1000000 in
theorem T_D_greet_L2 {dC : Nat → ClassId} {dI : Nat → Nat → Nat} {cI cZ cR cA : ClassId} {n : Nat} {ad : zK → Nat} {A : Nat → Prop} (hn : 2 ≤ n ∧ n ≤ 6) (hD : zD A (zKs n) ad) {p : Program} {l : Launch} {e : Env} {s : State} {m : MethodId} {args : Array Value} {below : List Frame} {meth : Method} {c : Code} (S : CallFix p m c b_D_greet 5 s args zT N_D) (hret : meth.sig.returnType = none) (hlk : meth.locks = false) (hK : va_K (dC, dI) zcl (zty cI cZ cR cA) s) (out : Int32 × zS) : ∀ (fu : Nat) (v1 : Int32) (v2 : Int32) (v3 : Int32) (st : zS) (H : Heap) (locs : List Loc) (ls : Array Slot) (hP : zV (dC, dI) zcl (zKs n) ad (zcE n cI cZ cR cA ad) st H) (hS : va_S A s.heap H locs) (hl : lv_has ls 5 [(0, .ref (ad (0, 0))), (1, .int v1), (2, .int v2), (3, .int v3)]) (hF : F_D_greet_L2 n fu v1 v2 v3 st = some out), W p l e rm_D_greet s m args below meth c H locs 0 0 (zQ below A (fun o H => o = none ∧ zV (dC, dI) zcl (zKs n) ad (zcE n cI cZ cR cA ad) out.2 H) args s) (F0 m 2 ls []) := by
  intro fu
  induction fu with
  | zero => intro v1 v2 v3 st H locs ls hP hS hl hF; rw [F_D_greet_L2] at hF; cases hF
  | succ f ih =>
    intro v1 v2 v3 st H locs ls hP hS hl hF
    rw [F_D_greet_L2] at hF
    refine lv_iload_n S.1 S.2.1 d_D_greet_2 rfl (lv_at hl 3 rfl) ?_
    refine lv_aload_n S.1 S.2.1 d_D_greet_3 rfl (lv_at hl 0 rfl) ?_
    refine zr_get (v := .int (nI n)) S zi_D hK hP zk_0 rfl rfl 0 (by decide) zx_8 rfl d_D_greet_4 ?_
    refine lv_icmp_ge (tgt := 46) S.1 S.2.1 d_D_greet_7 (by decide) (fun h7 => ?_) (fun h7 => ?_)
    · rw [if_pos h7] at hF
      cases hF
      exact zr_vret S hret hlk hS d_D_greet_46 ⟨rfl, hP⟩
    · rw [if_neg h7] at hF
      refine lv_aload_n S.1 S.2.1 d_D_greet_10 rfl (lv_at hl 0 rfl) ?_
      refine lv_iload_n S.1 S.2.1 d_D_greet_11 rfl (lv_at hl 1 rfl) ?_
      refine lv_iload_n S.1 S.2.1 d_D_greet_12 rfl (lv_at hl 3 rfl) ?_
      cases hc13 : F_D_route n v1 v3 st with
      | none => rw [hc13] at hF; cases hF
      | some u13 =>
        obtain ⟨r13, st13⟩ := u13
        rw [hc13] at hF
        replace hF := zbind hF
        refine zr_callV (rest := []) S zT_good (C_D_route hn hD l v1 v3 st (r13, st13) hc13) zn_D_route zx_88 ⟨rfl, rfl⟩ ⟨Nat.le_of_ble_eq_true rfl, Nat.le_of_ble_eq_true rfl⟩ ⟨Nat.zero_le _, Nat.zero_le _⟩ hK (zr_recv hK hP zk_0 rfl rfl) hP hl.1 (Nat.le_of_ble_eq_true rfl) hS (fun _ h => h) d_D_greet_13 rfl (fun o H locs hpo _ _ hS => ?_)
        obtain ⟨rfl, hP⟩ := hpo
        refine W.eq (g2 := F0 m 16 ls [.ref (ad (7, r13))]) rfl ?_
        have hk_r13 := zk_D_route hn hc13
        replace hF : F_D_greet_L2_s1 n (F_D_greet_L2 n f) v1 v2 v3 r13 st13 = some out := hF
        replace hP : zV (dC, dI) zcl (zKs n) ad (zcE n cI cZ cR cA ad) st13 H := hP
        unfold F_D_greet_L2_s1 at hF
        refine lv_astore S.1 S.2.1 d_D_greet_16 hl (by decide) rfl (fun ls hl => ?_)
        have hl : lv_has ls 5 [(4, .ref (ad (7, r13))), (0, .ref (ad (0, 0))), (1, .int v1), (2, .int v2), (3, .int v3)] := hl
        refine lv_aload S.1 S.2.1 d_D_greet_18 (lv_at hl 0 rfl) ?_
        refine zr_get (v := .int (st13 7 r13 0)) S zi_R hK hP hk_r13 rfl rfl 5 (by decide) zx_14 rfl d_D_greet_20 ?_
        refine lv_sipush (v := 10000) S.1 S.2.1 d_D_greet_23 (by decide) ?_
        refine lv_icmp_eq (tgt := 40) S.1 S.2.1 d_D_greet_26 (by decide) (fun h26 => ?_) (fun h26 => ?_)
        · rw [if_pos h26] at hF
          exact T_D_greet_L40 hn hD S hret hlk hK out (F_D_greet_L2 n f) ih v1 v2 v3 st13 _ _ _ hP hS (lv_sub hl [1, 2, 3, 4] rfl) hF
        · rw [if_neg h26] at hF
          refine lv_aload_n S.1 S.2.1 d_D_greet_29 rfl (lv_at hl 1 rfl) ?_
          refine zr_get (v := .ref (ad (3, 0))) S zi_D hK hP zk_0 rfl rfl 3 (by decide) zx_11 rfl d_D_greet_30 ?_
          refine lv_aload S.1 S.2.1 d_D_greet_33 (lv_at hl 0 rfl) ?_
          refine lv_iload_n S.1 S.2.1 d_D_greet_35 rfl (lv_at hl 3 rfl) ?_
          refine lv_iconst (v := 0) S.1 S.2.1 d_D_greet_36 (by decide) ?_
          cases hc37 : F_L_send n r13 v2 0 st13 with
          | none => rw [hc37] at hF; cases hF
          | some u37 =>
            obtain ⟨r37, st37⟩ := u37
            rw [hc37] at hF
            replace hF := zbind hF
            refine zr_callV (rest := []) S zT_good (C_L_send hn hD l r13 v2 0 hk_r13 st13 (r37, st37) hc37) zn_L_send zx_60 ⟨rfl, rfl⟩ ⟨Nat.le_of_ble_eq_true rfl, Nat.le_of_ble_eq_true rfl⟩ ⟨Nat.zero_le _, Nat.zero_le _⟩ hK (zr_recv hK hP zk_3 rfl rfl) hP hl.1 (Nat.le_of_ble_eq_true rfl) hS (fun _ h => h) d_D_greet_37 rfl (fun o H locs hpo _ _ hS => ?_)
            obtain ⟨rfl, hP⟩ := hpo
            refine W.eq (g2 := F0 m 40 ls []) rfl ?_
            replace hF : F_D_greet_L2_s2 n (F_D_greet_L2 n f) v1 v2 v3 st37 = some out := hF
            replace hP : zV (dC, dI) zcl (zKs n) ad (zcE n cI cZ cR cA ad) st37 H := hP
            unfold F_D_greet_L2_s2 at hF
            exact T_D_greet_L40 hn hD S hret hlk hK out (F_D_greet_L2 n f) ih v1 v2 v3 st37 _ _ _ hP hS (lv_sub hl [1, 2, 3, 4] rfl) hF

set_option maxHeartbeats 4000000 in
set_option maxRecDepth 1000000 in
theorem C_D_greet {dC : Nat → ClassId} {dI : Nat → Nat → Nat} {cI cZ cR cA : ClassId} {n : Nat} {ad : zK → Nat} {A : Nat → Prop} (hn : 2 ≤ n ∧ n ≤ 6) (hD : zD A (zKs n) ad) (l : Launch) (v1 : Int32) (v2 : Int32) (st : zS) (out : Int32 × zS) (hF : F_D_greet n v1 v2 st = some out) : zC zT (dC, dI) zcl (zty cI cZ cR cA) A l y_D_greet b_D_greet 5 (none) rm_D_greet [.ref (ad (0, 0)), .int v1, .int v2] (fun H => zV (dC, dI) zcl (zKs n) ad (zcE n cI cZ cR cA ad) st H) (fun o H => o = none ∧ zV (dC, dI) zcl (zKs n) ad (zcE n cI cZ cR cA ad) out.2 H) := by
  refine zC_of (by decide) (Nat.le_of_ble_eq_true rfl) (fun p e s m args below meth c ls S hret hlk hK hP hl => ?_)
  have hS : va_S A s.heap s.heap [] := va_S.rf
  have hl : lv_has ls 5 [(0, .ref (ad (0, 0))), (1, .int v1), (2, .int v2)] := hl
  have hP : zV (dC, dI) zcl (zKs n) ad (zcE n cI cZ cR cA ad) st s.heap := hP
  unfold F_D_greet at hF
  refine lv_iconst (v := 0) S.1 S.2.1 d_D_greet_0 (by decide) ?_
  refine lv_istore_n S.1 S.2.1 d_D_greet_1 rfl hl (by decide) rfl (fun ls hl => ?_)
  have hl : lv_has ls 5 [(3, .int 0), (0, .ref (ad (0, 0))), (1, .int v1), (2, .int v2)] := hl
  exact T_D_greet_L2 hn hD S hret hlk hK out zFuel v1 v2 0 st _ _ _ hP hS (lv_sub hl [1, 2, 3, 0] rfl) hF

theorem d_R_isOwn_0 : decode b_R_isOwn 0 = .ok (.aload_n 0, 1) := by decide +kernel
theorem d_R_isOwn_1 : decode b_R_isOwn 1 = .ok (.getfield 9, 3) := by decide +kernel
theorem d_R_isOwn_4 : decode b_R_isOwn 4 = .ok (.aload_n 0, 1) := by decide +kernel
theorem d_R_isOwn_5 : decode b_R_isOwn 5 = .ok (.getfield 15, 3) := by decide +kernel
theorem d_R_isOwn_8 : decode b_R_isOwn 8 = .ok (.if_icmp .ne 7, 3) := by decide +kernel
theorem d_R_isOwn_11 : decode b_R_isOwn 11 = .ok (.iconst 1, 1) := by decide +kernel
theorem d_R_isOwn_12 : decode b_R_isOwn 12 = .ok (.goto 4, 3) := by decide +kernel
theorem d_R_isOwn_15 : decode b_R_isOwn 15 = .ok (.iconst 0, 1) := by decide +kernel
theorem d_R_isOwn_16 : decode b_R_isOwn 16 = .ok (.ireturn, 1) := by decide +kernel
def F_R_isOwn (n : Nat) (k0 : Nat) (st : zS) : Option (Int32 × zS) :=
    if (nI (k0 / 6)) = (nI (k0 % 6)) then (some (1, st)) else (some (0, st))

set_option maxHeartbeats 4000000 in
set_option maxRecDepth 1000000 in
theorem C_R_isOwn {dC : Nat → ClassId} {dI : Nat → Nat → Nat} {cI cZ cR cA : ClassId} {n : Nat} {ad : zK → Nat} {A : Nat → Prop} (hn : 2 ≤ n ∧ n ≤ 6) (hD : zD A (zKs n) ad) (l : Launch) (k0 : Nat) (hk0 : (7, k0) ∈ zKs n) (st : zS) (out : Int32 × zS) (hF : F_R_isOwn n k0 st = some out) : zC zT (dC, dI) zcl (zty cI cZ cR cA) A l y_R_isOwn b_R_isOwn 1 (some .boolean) rm_R_isOwn [.ref (ad (7, k0))] (fun H => zV (dC, dI) zcl (zKs n) ad (zcE n cI cZ cR cA ad) st H) (fun o H => o = some (.int out.1) ∧ zV (dC, dI) zcl (zKs n) ad (zcE n cI cZ cR cA ad) out.2 H) := by
  refine zC_of (by decide) (Nat.le_of_ble_eq_true rfl) (fun p e s m args below meth c ls S hret hlk hK hP hl => ?_)
  have hS : va_S A s.heap s.heap [] := va_S.rf
  have hl : lv_has ls 1 [(0, .ref (ad (7, k0)))] := hl
  have hP : zV (dC, dI) zcl (zKs n) ad (zcE n cI cZ cR cA ad) st s.heap := hP
  unfold F_R_isOwn at hF
  refine lv_aload_n S.1 S.2.1 d_R_isOwn_0 rfl (lv_at hl 0 rfl) ?_
  refine zr_get (v := .int (nI (k0 / 6))) S zi_R hK hP hk0 rfl rfl 0 (by decide) zx_52 rfl d_R_isOwn_1 ?_
  refine lv_aload_n S.1 S.2.1 d_R_isOwn_4 rfl (lv_at hl 0 rfl) ?_
  refine zr_get (v := .int (nI (k0 % 6))) S zi_R hK hP hk0 rfl rfl 1 (by decide) zx_42 rfl d_R_isOwn_5 ?_
  refine lv_icmp_ne (tgt := 15) S.1 S.2.1 d_R_isOwn_8 (by decide) (fun h8 => ?_) (fun h8 => ?_)
  · rw [if_neg h8] at hF
    refine lv_iconst (v := 0) S.1 S.2.1 d_R_isOwn_15 (by decide) ?_
    cases hF
    exact zr_zret S hret hlk (by decide) hS d_R_isOwn_16 ⟨rfl, hP⟩
  · rw [if_pos h8] at hF
    refine lv_iconst (v := 1) S.1 S.2.1 d_R_isOwn_11 (by decide) ?_
    refine lv_goto (tgt := 16) S.1 S.2.1 d_R_isOwn_12 (by decide) ?_
    cases hF
    exact zr_zret S hret hlk (by decide) hS d_R_isOwn_16 ⟨rfl, hP⟩

theorem d_R_through_0 : decode b_R_through 0 = .ok (.iload_n 1, 1) := by decide +kernel
theorem d_R_through_1 : decode b_R_through 1 = .ok (.iconst (-1), 1) := by decide +kernel
theorem d_R_through_2 : decode b_R_through 2 = .ok (.if_icmp .eq 12, 3) := by decide +kernel
theorem d_R_through_5 : decode b_R_through 5 = .ok (.aload_n 0, 1) := by decide +kernel
theorem d_R_through_6 : decode b_R_through 6 = .ok (.getfield 18, 3) := by decide +kernel
theorem d_R_through_9 : decode b_R_through 9 = .ok (.iload_n 1, 1) := by decide +kernel
theorem d_R_through_10 : decode b_R_through 10 = .ok (.iaload, 1) := by decide +kernel
theorem d_R_through_11 : decode b_R_through 11 = .ok (.ifCond .ne 7, 3) := by decide +kernel
theorem d_R_through_14 : decode b_R_through 14 = .ok (.sipush 10000, 3) := by decide +kernel
theorem d_R_through_17 : decode b_R_through 17 = .ok (.ireturn, 1) := by decide +kernel
theorem d_R_through_18 : decode b_R_through 18 = .ok (.sipush 10000, 3) := by decide +kernel
theorem d_R_through_21 : decode b_R_through 21 = .ok (.aload_n 0, 1) := by decide +kernel
theorem d_R_through_22 : decode b_R_through 22 = .ok (.getfield 22, 3) := by decide +kernel
theorem d_R_through_25 : decode b_R_through 25 = .ok (.iload_n 1, 1) := by decide +kernel
theorem d_R_through_26 : decode b_R_through 26 = .ok (.iaload, 1) := by decide +kernel
theorem d_R_through_27 : decode b_R_through 27 = .ok (.aload_n 0, 1) := by decide +kernel
theorem d_R_through_28 : decode b_R_through 28 = .ok (.getfield 18, 3) := by decide +kernel
theorem d_R_through_31 : decode b_R_through 31 = .ok (.iload_n 1, 1) := by decide +kernel
theorem d_R_through_32 : decode b_R_through 32 = .ok (.iaload, 1) := by decide +kernel
theorem d_R_through_33 : decode b_R_through 33 = .ok (.iadd, 1) := by decide +kernel
theorem d_R_through_34 : decode b_R_through 34 = .ok (.invokestatic 44, 3) := by decide +kernel
theorem d_R_through_37 : decode b_R_through 37 = .ok (.ireturn, 1) := by decide +kernel
def F_R_through (n : Nat) (k0 : Nat) (v1 : Int32) (st : zS) : Option (Int32 × zS) :=
    if v1 = (-1) then (some (10000, st)) else (if zOut v1 n then none else if (st 6 (k0 / 6) (Int32.toNatClampNeg v1)) = 0 then (some (10000, st)) else (if zOut v1 n then none else if zOut v1 n then none else some (if ((st 8 k0 (Int32.toNatClampNeg v1)) + (st 6 (k0 / 6) (Int32.toNatClampNeg v1))) < 10000 then ((st 8 k0 (Int32.toNatClampNeg v1)) + (st 6 (k0 / 6) (Int32.toNatClampNeg v1))) else 10000, st)))

set_option maxHeartbeats 4000000 in
set_option maxRecDepth 1000000 in
theorem C_R_through {dC : Nat → ClassId} {dI : Nat → Nat → Nat} {cI cZ cR cA : ClassId} {n : Nat} {ad : zK → Nat} {A : Nat → Prop} (hn : 2 ≤ n ∧ n ≤ 6) (hD : zD A (zKs n) ad) (l : Launch) (k0 : Nat) (v1 : Int32) (hk0 : (7, k0) ∈ zKs n) (st : zS) (out : Int32 × zS) (hF : F_R_through n k0 v1 st = some out) : zC zT (dC, dI) zcl (zty cI cZ cR cA) A l y_R_through b_R_through 2 (some .int) rm_R_through [.ref (ad (7, k0)), .int v1] (fun H => zV (dC, dI) zcl (zKs n) ad (zcE n cI cZ cR cA ad) st H) (fun o H => o = some (.int out.1) ∧ zV (dC, dI) zcl (zKs n) ad (zcE n cI cZ cR cA ad) out.2 H) := by
  refine zC_of (by decide) (Nat.le_of_ble_eq_true rfl) (fun p e s m args below meth c ls S hret hlk hK hP hl => ?_)
  have hS : va_S A s.heap s.heap [] := va_S.rf
  have hl : lv_has ls 2 [(0, .ref (ad (7, k0))), (1, .int v1)] := hl
  have hP : zV (dC, dI) zcl (zKs n) ad (zcE n cI cZ cR cA ad) st s.heap := hP
  unfold F_R_through at hF
  refine lv_iload_n S.1 S.2.1 d_R_through_0 rfl (lv_at hl 1 rfl) ?_
  refine lv_iconst (v := (-1)) S.1 S.2.1 d_R_through_1 (by decide) ?_
  refine lv_icmp_eq (tgt := 14) S.1 S.2.1 d_R_through_2 (by decide) (fun h2 => ?_) (fun h2 => ?_)
  · rw [if_pos h2] at hF
    refine lv_sipush (v := 10000) S.1 S.2.1 d_R_through_14 (by decide) ?_
    cases hF
    exact zr_iret S hret hlk hS d_R_through_17 ⟨rfl, hP⟩
  · rw [if_neg h2] at hF
    refine lv_aload_n S.1 S.2.1 d_R_through_5 rfl (lv_at hl 0 rfl) ?_
    refine zr_get (v := .ref (ad (6, k0 / 6))) S zi_R hK hP hk0 rfl rfl 2 (by decide) zx_43 rfl d_R_through_6 ?_
    refine lv_iload_n S.1 S.2.1 d_R_through_9 rfl (lv_at hl 1 rfl) ?_
    by_cases g10 : zOut v1 n
    · rw [if_pos g10] at hF; cases hF
    rw [if_neg g10] at hF
    refine zr_iald S hK hP (zk_67 hk0) rfl 0 rfl g10 d_R_through_10 ?_
    refine lv_if_ne (tgt := 18) S.1 S.2.1 d_R_through_11 (by decide) (fun h11 => ?_) (fun h11 => ?_)
    · rw [if_neg h11] at hF
      refine lv_sipush (v := 10000) S.1 S.2.1 d_R_through_18 (by decide) ?_
      refine lv_aload_n S.1 S.2.1 d_R_through_21 rfl (lv_at hl 0 rfl) ?_
      refine zr_get (v := .ref (ad (8, k0))) S zi_R hK hP hk0 rfl rfl 3 (by decide) zx_44 rfl d_R_through_22 ?_
      refine lv_iload_n S.1 S.2.1 d_R_through_25 rfl (lv_at hl 1 rfl) ?_
      by_cases g26 : zOut v1 n
      · rw [if_pos g26] at hF; cases hF
      rw [if_neg g26] at hF
      refine zr_iald S hK hP (zk_87 hk0) rfl 0 rfl g26 d_R_through_26 ?_
      refine lv_aload_n S.1 S.2.1 d_R_through_27 rfl (lv_at hl 0 rfl) ?_
      refine zr_get (v := .ref (ad (6, k0 / 6))) S zi_R hK hP hk0 rfl rfl 2 (by decide) zx_43 rfl d_R_through_28 ?_
      refine lv_iload_n S.1 S.2.1 d_R_through_31 rfl (lv_at hl 1 rfl) ?_
      by_cases g32 : zOut v1 n
      · rw [if_pos g32] at hF; cases hF
      rw [if_neg g32] at hF
      refine zr_iald S hK hP (zk_67 hk0) rfl 0 rfl g32 d_R_through_32 ?_
      refine lv_iadd S.1 S.2.1 d_R_through_33 ?_
      refine va_mmin S.1 S.2.1 (S.2.2.1.trans hl.1.symm) S.2.2.2.1 (S.2.2.2.2 _ zx_116) (S.2.2.2.2 _ zx_122) (S.2.2.2.2 _ zx_53) (S.2.2.2.2 _ zx_1) (Nat.le_of_ble_eq_true rfl) (Nat.le_of_ble_eq_true rfl) (Nat.zero_le _) (Nat.zero_le _) d_R_through_34 ?_
      cases hF
      exact zr_iret S hret hlk hS d_R_through_37 ⟨rfl, hP⟩
    · rw [if_pos h11] at hF
      refine lv_sipush (v := 10000) S.1 S.2.1 d_R_through_14 (by decide) ?_
      cases hF
      exact zr_iret S hret hlk hS d_R_through_17 ⟨rfl, hP⟩

theorem d_R_growIfFarther_0 : decode b_R_growIfFarther 0 = .ok (.iload_n 1, 1) := by decide +kernel
theorem d_R_growIfFarther_1 : decode b_R_growIfFarther 1 = .ok (.aload_n 0, 1) := by decide +kernel
theorem d_R_growIfFarther_2 : decode b_R_growIfFarther 2 = .ok (.getfield 41, 3) := by decide +kernel
theorem d_R_growIfFarther_5 : decode b_R_growIfFarther 5 = .ok (.if_icmp .ne 20, 3) := by decide +kernel
theorem d_R_growIfFarther_8 : decode b_R_growIfFarther 8 = .ok (.aload_n 0, 1) := by decide +kernel
theorem d_R_growIfFarther_9 : decode b_R_growIfFarther 9 = .ok (.iload_n 1, 1) := by decide +kernel
theorem d_R_growIfFarther_10 : decode b_R_growIfFarther 10 = .ok (.invokevirtual 58, 3) := by decide +kernel
theorem d_R_growIfFarther_13 : decode b_R_growIfFarther 13 = .ok (.aload_n 0, 1) := by decide +kernel
theorem d_R_growIfFarther_14 : decode b_R_growIfFarther 14 = .ok (.getfield 35, 3) := by decide +kernel
theorem d_R_growIfFarther_17 : decode b_R_growIfFarther 17 = .ok (.if_icmp .le 8, 3) := by decide +kernel
theorem d_R_growIfFarther_20 : decode b_R_growIfFarther 20 = .ok (.aload_n 0, 1) := by decide +kernel
theorem d_R_growIfFarther_21 : decode b_R_growIfFarther 21 = .ok (.iconst 1, 1) := by decide +kernel
theorem d_R_growIfFarther_22 : decode b_R_growIfFarther 22 = .ok (.putfield 61, 3) := by decide +kernel
theorem d_R_growIfFarther_25 : decode b_R_growIfFarther 25 = .ok (.return_, 1) := by decide +kernel
def F_R_growIfFarther_s2 (n : Nat) (st : zS) : Option (Int32 × zS) :=
    some (0, st)

def F_R_growIfFarther_s1 (n : Nat) (k0 : Nat) (t0 : Int32) (st : zS) : Option (Int32 × zS) :=
    if t0 ≤ (st 7 k0 0) then (some (0, st)) else (F_R_growIfFarther_s2 n (zs st 7 k0 5 1))

def F_R_growIfFarther (n : Nat) (k0 : Nat) (v1 : Int32) (st : zS) : Option (Int32 × zS) :=
    if v1 = (st 7 k0 2) then ((F_R_through n k0 v1 st).bind (fun u => F_R_growIfFarther_s1 n k0 u.1 u.2)) else (some (0, st))

set_option maxHeartbeats 4000000 in
set_option maxRecDepth 1000000 in
theorem C_R_growIfFarther {dC : Nat → ClassId} {dI : Nat → Nat → Nat} {cI cZ cR cA : ClassId} {n : Nat} {ad : zK → Nat} {A : Nat → Prop} (hn : 2 ≤ n ∧ n ≤ 6) (hD : zD A (zKs n) ad) (l : Launch) (k0 : Nat) (v1 : Int32) (hk0 : (7, k0) ∈ zKs n) (st : zS) (out : Int32 × zS) (hF : F_R_growIfFarther n k0 v1 st = some out) : zC zT (dC, dI) zcl (zty cI cZ cR cA) A l y_R_growIfFarther b_R_growIfFarther 2 (none) rm_R_growIfFarther [.ref (ad (7, k0)), .int v1] (fun H => zV (dC, dI) zcl (zKs n) ad (zcE n cI cZ cR cA ad) st H) (fun o H => o = none ∧ zV (dC, dI) zcl (zKs n) ad (zcE n cI cZ cR cA ad) out.2 H) := by
  refine zC_of (by decide) (Nat.le_of_ble_eq_true rfl) (fun p e s m args below meth c ls S hret hlk hK hP hl => ?_)
  have hS : va_S A s.heap s.heap [] := va_S.rf
  have hl : lv_has ls 2 [(0, .ref (ad (7, k0))), (1, .int v1)] := hl
  have hP : zV (dC, dI) zcl (zKs n) ad (zcE n cI cZ cR cA ad) st s.heap := hP
  unfold F_R_growIfFarther at hF
  refine lv_iload_n S.1 S.2.1 d_R_growIfFarther_0 rfl (lv_at hl 1 rfl) ?_
  refine lv_aload_n S.1 S.2.1 d_R_growIfFarther_1 rfl (lv_at hl 0 rfl) ?_
  refine zr_get (v := .int (st 7 k0 2)) S zi_R hK hP hk0 rfl rfl 7 (by decide) zx_48 rfl d_R_growIfFarther_2 ?_
  refine lv_icmp_ne (tgt := 25) S.1 S.2.1 d_R_growIfFarther_5 (by decide) (fun h5 => ?_) (fun h5 => ?_)
  · rw [if_neg h5] at hF
    cases hF
    exact zr_vret S hret hlk hS d_R_growIfFarther_25 ⟨rfl, hP⟩
  · rw [if_pos h5] at hF
    refine lv_aload_n S.1 S.2.1 d_R_growIfFarther_8 rfl (lv_at hl 0 rfl) ?_
    refine lv_iload_n S.1 S.2.1 d_R_growIfFarther_9 rfl (lv_at hl 1 rfl) ?_
    cases hc10 : F_R_through n k0 v1 st with
    | none => rw [hc10] at hF; cases hF
    | some u10 =>
      obtain ⟨r10, st10⟩ := u10
      rw [hc10] at hF
      replace hF := zbind hF
      refine zr_callV (rest := []) S zT_good (C_R_through hn hD l k0 v1 hk0 st (r10, st10) hc10) zn_R_through zx_119 ⟨rfl, rfl⟩ ⟨Nat.le_of_ble_eq_true rfl, Nat.le_of_ble_eq_true rfl⟩ ⟨Nat.zero_le _, Nat.zero_le _⟩ hK (zr_recv hK hP hk0 rfl rfl) hP hl.1 (Nat.le_of_ble_eq_true rfl) hS (fun _ h => h) d_R_growIfFarther_10 rfl (fun o H locs hpo _ _ hS => ?_)
      obtain ⟨rfl, hP⟩ := hpo
      refine W.eq (g2 := F0 m 13 ls [.int r10]) rfl ?_
      replace hF : F_R_growIfFarther_s1 n k0 r10 st10 = some out := hF
      replace hP : zV (dC, dI) zcl (zKs n) ad (zcE n cI cZ cR cA ad) st10 H := hP
      unfold F_R_growIfFarther_s1 at hF
      refine lv_aload_n S.1 S.2.1 d_R_growIfFarther_13 rfl (lv_at hl 0 rfl) ?_
      refine zr_get (v := .int (st10 7 k0 0)) S zi_R hK hP hk0 rfl rfl 5 (by decide) zx_46 rfl d_R_growIfFarther_14 ?_
      refine lv_icmp_le (tgt := 25) S.1 S.2.1 d_R_growIfFarther_17 (by decide) (fun h17 => ?_) (fun h17 => ?_)
      · rw [if_pos h17] at hF
        cases hF
        exact zr_vret S hret hlk hS d_R_growIfFarther_25 ⟨rfl, hP⟩
      · rw [if_neg h17] at hF
        refine lv_aload_n S.1 S.2.1 d_R_growIfFarther_20 rfl (lv_at hl 0 rfl) ?_
        refine lv_iconst (v := 1) S.1 S.2.1 d_R_growIfFarther_21 (by decide) ?_
        refine zr_put (v := 1) S zi_R t_R t_R_ok n_R hK hP hD hS hk0 rfl rfl 10 (by decide) zx_49 rfl rfl rfl (Nat.le_of_ble_eq_true rfl) 5 rfl d_R_growIfFarther_22 (fun H locs hP hS => ?_)
        replace hF : F_R_growIfFarther_s2 n (zs st10 7 k0 5 1) = some out := hF
        generalize zs st10 7 k0 5 1 = st25 at hP hF
        unfold F_R_growIfFarther_s2 at hF
        cases hF
        exact zr_vret S hret hlk hS d_R_growIfFarther_25 ⟨rfl, hP⟩
end
section
theorem d_R_least_0 : decode b_R_least 0 = .ok (.sipush 10000, 3) := by decide +kernel
theorem d_R_least_3 : decode b_R_least 3 = .ok (.istore_n 1, 1) := by decide +kernel
theorem d_R_least_4 : decode b_R_least 4 = .ok (.iconst 0, 1) := by decide +kernel
theorem d_R_least_5 : decode b_R_least 5 = .ok (.istore_n 2, 1) := by decide +kernel
theorem d_R_least_6 : decode b_R_least 6 = .ok (.iload_n 2, 1) := by decide +kernel
theorem d_R_least_7 : decode b_R_least 7 = .ok (.aload_n 0, 1) := by decide +kernel
theorem d_R_least_8 : decode b_R_least 8 = .ok (.getfield 18, 3) := by decide +kernel
theorem d_R_least_11 : decode b_R_least 11 = .ok (.arraylength, 1) := by decide +kernel
theorem d_R_least_12 : decode b_R_least 12 = .ok (.if_icmp .ge 19, 3) := by decide +kernel
theorem d_R_least_15 : decode b_R_least 15 = .ok (.iload_n 1, 1) := by decide +kernel
theorem d_R_least_16 : decode b_R_least 16 = .ok (.aload_n 0, 1) := by decide +kernel
theorem d_R_least_17 : decode b_R_least 17 = .ok (.iload_n 2, 1) := by decide +kernel
theorem d_R_least_18 : decode b_R_least 18 = .ok (.invokevirtual 58, 3) := by decide +kernel
theorem d_R_least_21 : decode b_R_least 21 = .ok (.invokestatic 44, 3) := by decide +kernel
theorem d_R_least_24 : decode b_R_least 24 = .ok (.istore_n 1, 1) := by decide +kernel
theorem d_R_least_25 : decode b_R_least 25 = .ok (.iinc 2 1, 3) := by decide +kernel
theorem d_R_least_28 : decode b_R_least 28 = .ok (.goto (-22), 3) := by decide +kernel
theorem d_R_least_31 : decode b_R_least 31 = .ok (.iload_n 1, 1) := by decide +kernel
theorem d_R_least_32 : decode b_R_least 32 = .ok (.ireturn, 1) := by decide +kernel
def F_R_least_L6_s1 (n : Nat) (c6 : Nat → Int32 → Int32 → zS → Option (Int32 × zS)) (k0 : Nat) (v2 : Int32) (t0 : Int32) (t1 : Int32) (st : zS) : Option (Int32 × zS) :=
    c6 k0 (if t1 < t0 then t1 else t0) (v2 + 1) st

def F_R_least_L6 (n : Nat) : Nat → Nat → Int32 → Int32 → zS → Option (Int32 × zS)
  | 0, _, _, _, _ => none
  | f + 1, k0, v1, v2, st =>
    if (nI n) ≤ v2 then (some (v1, st)) else ((F_R_through n k0 v2 st).bind (fun u => F_R_least_L6_s1 n (F_R_least_L6 n f) k0 v2 v1 u.1 u.2))

def F_R_least (n : Nat) (k0 : Nat) (st : zS) : Option (Int32 × zS) :=
    F_R_least_L6 n zFuel k0 10000 0 st

set_option maxHeartbeats 4000000 in
set_option maxRecDepth 1000000 in
theorem T_R_least_L6 {dC : Nat → ClassId} {dI : Nat → Nat → Nat} {cI cZ cR cA : ClassId} {n : Nat} {ad : zK → Nat} {A : Nat → Prop} (hn : 2 ≤ n ∧ n ≤ 6) (hD : zD A (zKs n) ad) {p : Program} {l : Launch} {e : Env} {s : State} {m : MethodId} {args : Array Value} {below : List Frame} {meth : Method} {c : Code} (S : CallFix p m c b_R_least 3 s args zT N_R) (hret : meth.sig.returnType = some .int) (hlk : meth.locks = false) (hK : va_K (dC, dI) zcl (zty cI cZ cR cA) s) (out : Int32 × zS) : ∀ (fu : Nat) (k0 : Nat) (v1 : Int32) (v2 : Int32) (hk0 : (7, k0) ∈ zKs n) (st : zS) (H : Heap) (locs : List Loc) (ls : Array Slot) (hP : zV (dC, dI) zcl (zKs n) ad (zcE n cI cZ cR cA ad) st H) (hS : va_S A s.heap H locs) (hl : lv_has ls 3 [(0, .ref (ad (7, k0))), (1, .int v1), (2, .int v2)]) (hF : F_R_least_L6 n fu k0 v1 v2 st = some out), W p l e rm_R_least s m args below meth c H locs 0 0 (zQ below A (fun o H => o = some (.int out.1) ∧ zV (dC, dI) zcl (zKs n) ad (zcE n cI cZ cR cA ad) out.2 H) args s) (F0 m 6 ls []) := by
  intro fu
  induction fu with
  | zero => intro k0 v1 v2 hk0 st H locs ls hP hS hl hF; rw [F_R_least_L6] at hF; cases hF
  | succ f ih =>
    intro k0 v1 v2 hk0 st H locs ls hP hS hl hF
    rw [F_R_least_L6] at hF
    refine lv_iload_n S.1 S.2.1 d_R_least_6 rfl (lv_at hl 2 rfl) ?_
    refine lv_aload_n S.1 S.2.1 d_R_least_7 rfl (lv_at hl 0 rfl) ?_
    refine zr_get (v := .ref (ad (6, k0 / 6))) S zi_R hK hP hk0 rfl rfl 2 (by decide) zx_43 rfl d_R_least_8 ?_
    refine zr_alen (n := n) S hK hP (zk_67 hk0) rfl 0 rfl rfl d_R_least_11 ?_
    refine lv_icmp_ge (tgt := 31) S.1 S.2.1 d_R_least_12 (by decide) (fun h12 => ?_) (fun h12 => ?_)
    · rw [if_pos h12] at hF
      refine lv_iload_n S.1 S.2.1 d_R_least_31 rfl (lv_at hl 1 rfl) ?_
      cases hF
      exact zr_iret S hret hlk hS d_R_least_32 ⟨rfl, hP⟩
    · rw [if_neg h12] at hF
      refine lv_iload_n S.1 S.2.1 d_R_least_15 rfl (lv_at hl 1 rfl) ?_
      refine lv_aload_n S.1 S.2.1 d_R_least_16 rfl (lv_at hl 0 rfl) ?_
      refine lv_iload_n S.1 S.2.1 d_R_least_17 rfl (lv_at hl 2 rfl) ?_
      cases hc18 : F_R_through n k0 v2 st with
      | none => rw [hc18] at hF; cases hF
      | some u18 =>
        obtain ⟨r18, st18⟩ := u18
        rw [hc18] at hF
        replace hF := zbind hF
        refine zr_callV (rest := [.int v1]) S zT_good (C_R_through hn hD l k0 v2 hk0 st (r18, st18) hc18) zn_R_through zx_119 ⟨rfl, rfl⟩ ⟨Nat.le_of_ble_eq_true rfl, Nat.le_of_ble_eq_true rfl⟩ ⟨Nat.zero_le _, Nat.zero_le _⟩ hK (zr_recv hK hP hk0 rfl rfl) hP hl.1 (Nat.le_of_ble_eq_true rfl) hS (fun _ h => h) d_R_least_18 rfl (fun o H locs hpo _ _ hS => ?_)
        obtain ⟨rfl, hP⟩ := hpo
        refine W.eq (g2 := F0 m 21 ls [.int r18, .int v1]) rfl ?_
        replace hF : F_R_least_L6_s1 n (F_R_least_L6 n f) k0 v2 v1 r18 st18 = some out := hF
        replace hP : zV (dC, dI) zcl (zKs n) ad (zcE n cI cZ cR cA ad) st18 H := hP
        unfold F_R_least_L6_s1 at hF
        refine va_mmin S.1 S.2.1 (S.2.2.1.trans hl.1.symm) S.2.2.2.1 (S.2.2.2.2 _ zx_116) (S.2.2.2.2 _ zx_122) (S.2.2.2.2 _ zx_53) (S.2.2.2.2 _ zx_1) (Nat.le_of_ble_eq_true rfl) (Nat.le_of_ble_eq_true rfl) (Nat.zero_le _) (Nat.zero_le _) d_R_least_21 ?_
        refine lv_istore_n S.1 S.2.1 d_R_least_24 rfl hl (by decide) rfl (fun ls hl => ?_)
        have hl : lv_has ls 3 [(1, .int (if r18 < v1 then r18 else v1)), (0, .ref (ad (7, k0))), (2, .int v2)] := hl
        refine lv_iinc (k := 2) (v := v2 + 1) S.1 S.2.1 d_R_least_25 hl rfl rfl (by decide) rfl (fun ls hl => ?_)
        have hl : lv_has ls 3 [(2, .int (v2 + 1)), (1, .int (if r18 < v1 then r18 else v1)), (0, .ref (ad (7, k0)))] := hl
        refine lv_goto (tgt := 6) S.1 S.2.1 d_R_least_28 (by decide) ?_
        exact ih k0 (if r18 < v1 then r18 else v1) (v2 + 1) hk0 st18 _ _ _ hP hS (lv_sub hl [2, 1, 0] rfl) hF

set_option maxHeartbeats 4000000 in
set_option maxRecDepth 1000000 in
theorem C_R_least {dC : Nat → ClassId} {dI : Nat → Nat → Nat} {cI cZ cR cA : ClassId} {n : Nat} {ad : zK → Nat} {A : Nat → Prop} (hn : 2 ≤ n ∧ n ≤ 6) (hD : zD A (zKs n) ad) (l : Launch) (k0 : Nat) (hk0 : (7, k0) ∈ zKs n) (st : zS) (out : Int32 × zS) (hF : F_R_least n k0 st = some out) : zC zT (dC, dI) zcl (zty cI cZ cR cA) A l y_R_least b_R_least 3 (some .int) rm_R_least [.ref (ad (7, k0))] (fun H => zV (dC, dI) zcl (zKs n) ad (zcE n cI cZ cR cA ad) st H) (fun o H => o = some (.int out.1) ∧ zV (dC, dI) zcl (zKs n) ad (zcE n cI cZ cR cA ad) out.2 H) := by
  refine zC_of (by decide) (Nat.le_of_ble_eq_true rfl) (fun p e s m args below meth c ls S hret hlk hK hP hl => ?_)
  have hS : va_S A s.heap s.heap [] := va_S.rf
  have hl : lv_has ls 3 [(0, .ref (ad (7, k0)))] := hl
  have hP : zV (dC, dI) zcl (zKs n) ad (zcE n cI cZ cR cA ad) st s.heap := hP
  unfold F_R_least at hF
  refine lv_sipush (v := 10000) S.1 S.2.1 d_R_least_0 (by decide) ?_
  refine lv_istore_n S.1 S.2.1 d_R_least_3 rfl hl (by decide) rfl (fun ls hl => ?_)
  have hl : lv_has ls 3 [(1, .int 10000), (0, .ref (ad (7, k0)))] := hl
  refine lv_iconst (v := 0) S.1 S.2.1 d_R_least_4 (by decide) ?_
  refine lv_istore_n S.1 S.2.1 d_R_least_5 rfl hl (by decide) rfl (fun ls hl => ?_)
  have hl : lv_has ls 3 [(2, .int 0), (1, .int 10000), (0, .ref (ad (7, k0)))] := hl
  exact T_R_least_L6 hn hD S hret hlk hK out zFuel k0 10000 0 hk0 st _ _ _ hP hS (lv_sub hl [2, 1, 0] rfl) hF

theorem d_R_best_0 : decode b_R_best 0 = .ok (.iconst (-1), 1) := by decide +kernel
theorem d_R_best_1 : decode b_R_best 1 = .ok (.istore_n 2, 1) := by decide +kernel
theorem d_R_best_2 : decode b_R_best 2 = .ok (.iconst 0, 1) := by decide +kernel
theorem d_R_best_3 : decode b_R_best 3 = .ok (.istore_n 3, 1) := by decide +kernel
theorem d_R_best_4 : decode b_R_best 4 = .ok (.iload_n 3, 1) := by decide +kernel
theorem d_R_best_5 : decode b_R_best 5 = .ok (.aload_n 0, 1) := by decide +kernel
theorem d_R_best_6 : decode b_R_best 6 = .ok (.getfield 18, 3) := by decide +kernel
theorem d_R_best_9 : decode b_R_best 9 = .ok (.arraylength, 1) := by decide +kernel
theorem d_R_best_10 : decode b_R_best 10 = .ok (.if_icmp .ge 58, 3) := by decide +kernel
theorem d_R_best_13 : decode b_R_best 13 = .ok (.aload_n 0, 1) := by decide +kernel
theorem d_R_best_14 : decode b_R_best 14 = .ok (.getfield 22, 3) := by decide +kernel
theorem d_R_best_17 : decode b_R_best 17 = .ok (.iload_n 3, 1) := by decide +kernel
theorem d_R_best_18 : decode b_R_best 18 = .ok (.iaload, 1) := by decide +kernel
theorem d_R_best_19 : decode b_R_best 19 = .ok (.aload_n 0, 1) := by decide +kernel
theorem d_R_best_20 : decode b_R_best 20 = .ok (.getfield 38, 3) := by decide +kernel
theorem d_R_best_23 : decode b_R_best 23 = .ok (.if_icmp .ge 16, 3) := by decide +kernel
theorem d_R_best_26 : decode b_R_best 26 = .ok (.aload_n 0, 1) := by decide +kernel
theorem d_R_best_27 : decode b_R_best 27 = .ok (.iload_n 3, 1) := by decide +kernel
theorem d_R_best_28 : decode b_R_best 28 = .ok (.invokevirtual 58, 3) := by decide +kernel
theorem d_R_best_31 : decode b_R_best 31 = .ok (.iload_n 1, 1) := by decide +kernel
theorem d_R_best_32 : decode b_R_best 32 = .ok (.if_icmp .ne 7, 3) := by decide +kernel
theorem d_R_best_35 : decode b_R_best 35 = .ok (.iconst 1, 1) := by decide +kernel
theorem d_R_best_36 : decode b_R_best 36 = .ok (.goto 4, 3) := by decide +kernel
theorem d_R_best_39 : decode b_R_best 39 = .ok (.iconst 0, 1) := by decide +kernel
theorem d_R_best_40 : decode b_R_best 40 = .ok (.istore 4, 2) := by decide +kernel
theorem d_R_best_42 : decode b_R_best 42 = .ok (.iload 4, 2) := by decide +kernel
theorem d_R_best_44 : decode b_R_best 44 = .ok (.ifCond .eq 18, 3) := by decide +kernel
theorem d_R_best_47 : decode b_R_best 47 = .ok (.iload_n 2, 1) := by decide +kernel
theorem d_R_best_48 : decode b_R_best 48 = .ok (.iconst (-1), 1) := by decide +kernel
theorem d_R_best_49 : decode b_R_best 49 = .ok (.if_icmp .eq 11, 3) := by decide +kernel
theorem d_R_best_52 : decode b_R_best 52 = .ok (.iload_n 3, 1) := by decide +kernel
theorem d_R_best_53 : decode b_R_best 53 = .ok (.aload_n 0, 1) := by decide +kernel
theorem d_R_best_54 : decode b_R_best 54 = .ok (.getfield 41, 3) := by decide +kernel
theorem d_R_best_57 : decode b_R_best 57 = .ok (.if_icmp .ne 5, 3) := by decide +kernel
theorem d_R_best_60 : decode b_R_best 60 = .ok (.iload_n 3, 1) := by decide +kernel
theorem d_R_best_61 : decode b_R_best 61 = .ok (.istore_n 2, 1) := by decide +kernel
theorem d_R_best_62 : decode b_R_best 62 = .ok (.iinc 3 1, 3) := by decide +kernel
theorem d_R_best_65 : decode b_R_best 65 = .ok (.goto (-61), 3) := by decide +kernel
theorem d_R_best_68 : decode b_R_best 68 = .ok (.iload_n 2, 1) := by decide +kernel
theorem d_R_best_69 : decode b_R_best 69 = .ok (.ireturn, 1) := by decide +kernel
def F_R_best_L62 (n : Nat) (c4 : Nat → Int32 → Int32 → Int32 → zS → Option (Int32 × zS)) (k0 : Nat) (v1 : Int32) (v2 : Int32) (v3 : Int32) (st : zS) : Option (Int32 × zS) :=
    c4 k0 v1 v2 (v3 + 1) st

def F_R_best_L60 (n : Nat) (c4 : Nat → Int32 → Int32 → Int32 → zS → Option (Int32 × zS)) (k0 : Nat) (v1 : Int32) (v3 : Int32) (st : zS) : Option (Int32 × zS) :=
    F_R_best_L62 n c4 k0 v1 v3 v3 st

def F_R_best_L40 (n : Nat) (c4 : Nat → Int32 → Int32 → Int32 → zS → Option (Int32 × zS)) (k0 : Nat) (v1 : Int32) (v2 : Int32) (v3 : Int32) (t0 : Int32) (st : zS) : Option (Int32 × zS) :=
    if t0 = 0 then (F_R_best_L62 n c4 k0 v1 v2 v3 st) else (if v2 = (-1) then (F_R_best_L60 n c4 k0 v1 v3 st) else (if v3 = (st 7 k0 2) then (F_R_best_L60 n c4 k0 v1 v3 st) else (F_R_best_L62 n c4 k0 v1 v2 v3 st)))

def F_R_best_L39 (n : Nat) (c4 : Nat → Int32 → Int32 → Int32 → zS → Option (Int32 × zS)) (k0 : Nat) (v1 : Int32) (v2 : Int32) (v3 : Int32) (st : zS) : Option (Int32 × zS) :=
    F_R_best_L40 n c4 k0 v1 v2 v3 0 st

def F_R_best_L4_s1 (n : Nat) (c4 : Nat → Int32 → Int32 → Int32 → zS → Option (Int32 × zS)) (k0 : Nat) (v1 : Int32) (v2 : Int32) (v3 : Int32) (t0 : Int32) (st : zS) : Option (Int32 × zS) :=
    if t0 = v1 then (F_R_best_L40 n c4 k0 v1 v2 v3 1 st) else (F_R_best_L39 n c4 k0 v1 v2 v3 st)

def F_R_best_L4 (n : Nat) : Nat → Nat → Int32 → Int32 → Int32 → zS → Option (Int32 × zS)
  | 0, _, _, _, _, _ => none
  | f + 1, k0, v1, v2, v3, st =>
    if (nI n) ≤ v3 then (some (v2, st)) else (if zOut v3 n then none else if (st 7 k0 1) ≤ (st 8 k0 (Int32.toNatClampNeg v3)) then (F_R_best_L39 n (F_R_best_L4 n f) k0 v1 v2 v3 st) else ((F_R_through n k0 v3 st).bind (fun u => F_R_best_L4_s1 n (F_R_best_L4 n f) k0 v1 v2 v3 u.1 u.2)))

def F_R_best (n : Nat) (k0 : Nat) (v1 : Int32) (st : zS) : Option (Int32 × zS) :=
    F_R_best_L4 n zFuel k0 v1 (-1) 0 st

set_option maxHeartbeats 4000000 in
set_option maxRecDepth 1000000 in
theorem T_R_best_L62 {dC : Nat → ClassId} {dI : Nat → Nat → Nat} {cI cZ cR cA : ClassId} {n : Nat} {ad : zK → Nat} {A : Nat → Prop} (hn : 2 ≤ n ∧ n ≤ 6) (hD : zD A (zKs n) ad) {p : Program} {l : Launch} {e : Env} {s : State} {m : MethodId} {args : Array Value} {below : List Frame} {meth : Method} {c : Code} (S : CallFix p m c b_R_best 5 s args zT N_R) (hret : meth.sig.returnType = some .int) (hlk : meth.locks = false) (hK : va_K (dC, dI) zcl (zty cI cZ cR cA) s) (out : Int32 × zS) (c4 : Nat → Int32 → Int32 → Int32 → zS → Option (Int32 × zS)) (hc4 : ∀ (k0 : Nat) (v1 : Int32) (v2 : Int32) (v3 : Int32) (hk0 : (7, k0) ∈ zKs n) (st : zS) (H : Heap) (locs : List Loc) (ls : Array Slot), zV (dC, dI) zcl (zKs n) ad (zcE n cI cZ cR cA ad) st H → va_S A s.heap H locs → lv_has ls 5 [(0, .ref (ad (7, k0))), (1, .int v1), (2, .int v2), (3, .int v3)] → c4 k0 v1 v2 v3 st = some out → W p l e rm_R_best s m args below meth c H locs 0 0 (zQ below A (fun o H => o = some (.int out.1) ∧ zV (dC, dI) zcl (zKs n) ad (zcE n cI cZ cR cA ad) out.2 H) args s) (F0 m 4 ls [])) (k0 : Nat) (v1 : Int32) (v2 : Int32) (v3 : Int32) (hk0 : (7, k0) ∈ zKs n) (st : zS) (H : Heap) (locs : List Loc) (ls : Array Slot) (hP : zV (dC, dI) zcl (zKs n) ad (zcE n cI cZ cR cA ad) st H) (hS : va_S A s.heap H locs) (hl : lv_has ls 5 [(0, .ref (ad (7, k0))), (1, .int v1), (2, .int v2), (3, .int v3)]) (hF : F_R_best_L62 n c4 k0 v1 v2 v3 st = some out) : W p l e rm_R_best s m args below meth c H locs 0 0 (zQ below A (fun o H => o = some (.int out.1) ∧ zV (dC, dI) zcl (zKs n) ad (zcE n cI cZ cR cA ad) out.2 H) args s) (F0 m 62 ls []) := by
  unfold F_R_best_L62 at hF
  refine lv_iinc (k := 3) (v := v3 + 1) S.1 S.2.1 d_R_best_62 hl rfl rfl (by decide) rfl (fun ls hl => ?_)
  have hl : lv_has ls 5 [(3, .int (v3 + 1)), (0, .ref (ad (7, k0))), (1, .int v1), (2, .int v2)] := hl
  refine lv_goto (tgt := 4) S.1 S.2.1 d_R_best_65 (by decide) ?_
  exact hc4 k0 v1 v2 (v3 + 1) hk0 st _ _ _ hP hS (lv_sub hl [1, 2, 3, 0] rfl) hF

set_option maxHeartbeats 4000000 in
set_option maxRecDepth 1000000 in
theorem T_R_best_L60 {dC : Nat → ClassId} {dI : Nat → Nat → Nat} {cI cZ cR cA : ClassId} {n : Nat} {ad : zK → Nat} {A : Nat → Prop} (hn : 2 ≤ n ∧ n ≤ 6) (hD : zD A (zKs n) ad) {p : Program} {l : Launch} {e : Env} {s : State} {m : MethodId} {args : Array Value} {below : List Frame} {meth : Method} {c : Code} (S : CallFix p m c b_R_best 5 s args zT N_R) (hret : meth.sig.returnType = some .int) (hlk : meth.locks = false) (hK : va_K (dC, dI) zcl (zty cI cZ cR cA) s) (out : Int32 × zS) (c4 : Nat → Int32 → Int32 → Int32 → zS → Option (Int32 × zS)) (hc4 : ∀ (k0 : Nat) (v1 : Int32) (v2 : Int32) (v3 : Int32) (hk0 : (7, k0) ∈ zKs n) (st : zS) (H : Heap) (locs : List Loc) (ls : Array Slot), zV (dC, dI) zcl (zKs n) ad (zcE n cI cZ cR cA ad) st H → va_S A s.heap H locs → lv_has ls 5 [(0, .ref (ad (7, k0))), (1, .int v1), (2, .int v2), (3, .int v3)] → c4 k0 v1 v2 v3 st = some out → W p l e rm_R_best s m args below meth c H locs 0 0 (zQ below A (fun o H => o = some (.int out.1) ∧ zV (dC, dI) zcl (zKs n) ad (zcE n cI cZ cR cA ad) out.2 H) args s) (F0 m 4 ls [])) (k0 : Nat) (v1 : Int32) (v3 : Int32) (hk0 : (7, k0) ∈ zKs n) (st : zS) (H : Heap) (locs : List Loc) (ls : Array Slot) (hP : zV (dC, dI) zcl (zKs n) ad (zcE n cI cZ cR cA ad) st H) (hS : va_S A s.heap H locs) (hl : lv_has ls 5 [(0, .ref (ad (7, k0))), (1, .int v1), (3, .int v3)]) (hF : F_R_best_L60 n c4 k0 v1 v3 st = some out) : W p l e rm_R_best s m args below meth c H locs 0 0 (zQ below A (fun o H => o = some (.int out.1) ∧ zV (dC, dI) zcl (zKs n) ad (zcE n cI cZ cR cA ad) out.2 H) args s) (F0 m 60 ls []) := by
  unfold F_R_best_L60 at hF
  refine lv_iload_n S.1 S.2.1 d_R_best_60 rfl (lv_at hl 2 rfl) ?_
  refine lv_istore_n S.1 S.2.1 d_R_best_61 rfl hl (by decide) rfl (fun ls hl => ?_)
  have hl : lv_has ls 5 [(2, .int v3), (0, .ref (ad (7, k0))), (1, .int v1), (3, .int v3)] := hl
  exact T_R_best_L62 hn hD S hret hlk hK out c4 hc4 k0 v1 v3 v3 hk0 st _ _ _ hP hS (lv_sub hl [1, 2, 0, 3] rfl) hF

set_option maxHeartbeats 4000000 in
set_option maxRecDepth 1000000 in
theorem T_R_best_L40 {dC : Nat → ClassId} {dI : Nat → Nat → Nat} {cI cZ cR cA : ClassId} {n : Nat} {ad : zK → Nat} {A : Nat → Prop} (hn : 2 ≤ n ∧ n ≤ 6) (hD : zD A (zKs n) ad) {p : Program} {l : Launch} {e : Env} {s : State} {m : MethodId} {args : Array Value} {below : List Frame} {meth : Method} {c : Code} (S : CallFix p m c b_R_best 5 s args zT N_R) (hret : meth.sig.returnType = some .int) (hlk : meth.locks = false) (hK : va_K (dC, dI) zcl (zty cI cZ cR cA) s) (out : Int32 × zS) (c4 : Nat → Int32 → Int32 → Int32 → zS → Option (Int32 × zS)) (hc4 : ∀ (k0 : Nat) (v1 : Int32) (v2 : Int32) (v3 : Int32) (hk0 : (7, k0) ∈ zKs n) (st : zS) (H : Heap) (locs : List Loc) (ls : Array Slot), zV (dC, dI) zcl (zKs n) ad (zcE n cI cZ cR cA ad) st H → va_S A s.heap H locs → lv_has ls 5 [(0, .ref (ad (7, k0))), (1, .int v1), (2, .int v2), (3, .int v3)] → c4 k0 v1 v2 v3 st = some out → W p l e rm_R_best s m args below meth c H locs 0 0 (zQ below A (fun o H => o = some (.int out.1) ∧ zV (dC, dI) zcl (zKs n) ad (zcE n cI cZ cR cA ad) out.2 H) args s) (F0 m 4 ls [])) (k0 : Nat) (v1 : Int32) (v2 : Int32) (v3 : Int32) (t0 : Int32) (hk0 : (7, k0) ∈ zKs n) (st : zS) (H : Heap) (locs : List Loc) (ls : Array Slot) (hP : zV (dC, dI) zcl (zKs n) ad (zcE n cI cZ cR cA ad) st H) (hS : va_S A s.heap H locs) (hl : lv_has ls 5 [(0, .ref (ad (7, k0))), (1, .int v1), (2, .int v2), (3, .int v3)]) (hF : F_R_best_L40 n c4 k0 v1 v2 v3 t0 st = some out) : W p l e rm_R_best s m args below meth c H locs 0 0 (zQ below A (fun o H => o = some (.int out.1) ∧ zV (dC, dI) zcl (zKs n) ad (zcE n cI cZ cR cA ad) out.2 H) args s) (F0 m 40 ls [.int t0]) := by
  unfold F_R_best_L40 at hF
  refine lv_istore S.1 S.2.1 d_R_best_40 hl (by decide) rfl (fun ls hl => ?_)
  have hl : lv_has ls 5 [(4, .int t0), (0, .ref (ad (7, k0))), (1, .int v1), (2, .int v2), (3, .int v3)] := hl
  refine lv_iload S.1 S.2.1 d_R_best_42 (lv_at hl 0 rfl) ?_
  refine lv_if_eq (tgt := 62) S.1 S.2.1 d_R_best_44 (by decide) (fun h44 => ?_) (fun h44 => ?_)
  · rw [if_pos h44] at hF
    exact T_R_best_L62 hn hD S hret hlk hK out c4 hc4 k0 v1 v2 v3 hk0 st _ _ _ hP hS (lv_sub hl [1, 2, 3, 4] rfl) hF
  · rw [if_neg h44] at hF
    refine lv_iload_n S.1 S.2.1 d_R_best_47 rfl (lv_at hl 3 rfl) ?_
    refine lv_iconst (v := (-1)) S.1 S.2.1 d_R_best_48 (by decide) ?_
    refine lv_icmp_eq (tgt := 60) S.1 S.2.1 d_R_best_49 (by decide) (fun h49 => ?_) (fun h49 => ?_)
    · rw [if_pos h49] at hF
      exact T_R_best_L60 hn hD S hret hlk hK out c4 hc4 k0 v1 v3 hk0 st _ _ _ hP hS (lv_sub hl [1, 2, 4] rfl) hF
    · rw [if_neg h49] at hF
      refine lv_iload_n S.1 S.2.1 d_R_best_52 rfl (lv_at hl 4 rfl) ?_
      refine lv_aload_n S.1 S.2.1 d_R_best_53 rfl (lv_at hl 1 rfl) ?_
      refine zr_get (v := .int (st 7 k0 2)) S zi_R hK hP hk0 rfl rfl 7 (by decide) zx_48 rfl d_R_best_54 ?_
      refine lv_icmp_ne (tgt := 62) S.1 S.2.1 d_R_best_57 (by decide) (fun h57 => ?_) (fun h57 => ?_)
      · rw [if_neg h57] at hF
        exact T_R_best_L62 hn hD S hret hlk hK out c4 hc4 k0 v1 v2 v3 hk0 st _ _ _ hP hS (lv_sub hl [1, 2, 3, 4] rfl) hF
      · rw [if_pos h57] at hF
        exact T_R_best_L60 hn hD S hret hlk hK out c4 hc4 k0 v1 v3 hk0 st _ _ _ hP hS (lv_sub hl [1, 2, 4] rfl) hF

set_option maxHeartbeats 4000000 in
set_option maxRecDepth 1000000 in
theorem T_R_best_L39 {dC : Nat → ClassId} {dI : Nat → Nat → Nat} {cI cZ cR cA : ClassId} {n : Nat} {ad : zK → Nat} {A : Nat → Prop} (hn : 2 ≤ n ∧ n ≤ 6) (hD : zD A (zKs n) ad) {p : Program} {l : Launch} {e : Env} {s : State} {m : MethodId} {args : Array Value} {below : List Frame} {meth : Method} {c : Code} (S : CallFix p m c b_R_best 5 s args zT N_R) (hret : meth.sig.returnType = some .int) (hlk : meth.locks = false) (hK : va_K (dC, dI) zcl (zty cI cZ cR cA) s) (out : Int32 × zS) (c4 : Nat → Int32 → Int32 → Int32 → zS → Option (Int32 × zS)) (hc4 : ∀ (k0 : Nat) (v1 : Int32) (v2 : Int32) (v3 : Int32) (hk0 : (7, k0) ∈ zKs n) (st : zS) (H : Heap) (locs : List Loc) (ls : Array Slot), zV (dC, dI) zcl (zKs n) ad (zcE n cI cZ cR cA ad) st H → va_S A s.heap H locs → lv_has ls 5 [(0, .ref (ad (7, k0))), (1, .int v1), (2, .int v2), (3, .int v3)] → c4 k0 v1 v2 v3 st = some out → W p l e rm_R_best s m args below meth c H locs 0 0 (zQ below A (fun o H => o = some (.int out.1) ∧ zV (dC, dI) zcl (zKs n) ad (zcE n cI cZ cR cA ad) out.2 H) args s) (F0 m 4 ls [])) (k0 : Nat) (v1 : Int32) (v2 : Int32) (v3 : Int32) (hk0 : (7, k0) ∈ zKs n) (st : zS) (H : Heap) (locs : List Loc) (ls : Array Slot) (hP : zV (dC, dI) zcl (zKs n) ad (zcE n cI cZ cR cA ad) st H) (hS : va_S A s.heap H locs) (hl : lv_has ls 5 [(0, .ref (ad (7, k0))), (1, .int v1), (2, .int v2), (3, .int v3)]) (hF : F_R_best_L39 n c4 k0 v1 v2 v3 st = some out) : W p l e rm_R_best s m args below meth c H locs 0 0 (zQ below A (fun o H => o = some (.int out.1) ∧ zV (dC, dI) zcl (zKs n) ad (zcE n cI cZ cR cA ad) out.2 H) args s) (F0 m 39 ls []) := by
  unfold F_R_best_L39 at hF
  refine lv_iconst (v := 0) S.1 S.2.1 d_R_best_39 (by decide) ?_
  exact T_R_best_L40 hn hD S hret hlk hK out c4 hc4 k0 v1 v2 v3 0 hk0 st _ _ _ hP hS (lv_sub hl [0, 1, 2, 3] rfl) hF

set_option maxHeartbeats 4000000 in
set_option maxRecDepth 1000000 in
theorem T_R_best_L4 {dC : Nat → ClassId} {dI : Nat → Nat → Nat} {cI cZ cR cA : ClassId} {n : Nat} {ad : zK → Nat} {A : Nat → Prop} (hn : 2 ≤ n ∧ n ≤ 6) (hD : zD A (zKs n) ad) {p : Program} {l : Launch} {e : Env} {s : State} {m : MethodId} {args : Array Value} {below : List Frame} {meth : Method} {c : Code} (S : CallFix p m c b_R_best 5 s args zT N_R) (hret : meth.sig.returnType = some .int) (hlk : meth.locks = false) (hK : va_K (dC, dI) zcl (zty cI cZ cR cA) s) (out : Int32 × zS) : ∀ (fu : Nat) (k0 : Nat) (v1 : Int32) (v2 : Int32) (v3 : Int32) (hk0 : (7, k0) ∈ zKs n) (st : zS) (H : Heap) (locs : List Loc) (ls : Array Slot) (hP : zV (dC, dI) zcl (zKs n) ad (zcE n cI cZ cR cA ad) st H) (hS : va_S A s.heap H locs) (hl : lv_has ls 5 [(0, .ref (ad (7, k0))), (1, .int v1), (2, .int v2), (3, .int v3)]) (hF : F_R_best_L4 n fu k0 v1 v2 v3 st = some out), W p l e rm_R_best s m args below meth c H locs 0 0 (zQ below A (fun o H => o = some (.int out.1) ∧ zV (dC, dI) zcl (zKs n) ad (zcE n cI cZ cR cA ad) out.2 H) args s) (F0 m 4 ls []) := by
  intro fu
  induction fu with
  | zero => intro k0 v1 v2 v3 hk0 st H locs ls hP hS hl hF; rw [F_R_best_L4] at hF; cases hF
  | succ f ih =>
    intro k0 v1 v2 v3 hk0 st H locs ls hP hS hl hF
    rw [F_R_best_L4] at hF
    refine lv_iload_n S.1 S.2.1 d_R_best_4 rfl (lv_at hl 3 rfl) ?_
    refine lv_aload_n S.1 S.2.1 d_R_best_5 rfl (lv_at hl 0 rfl) ?_
    refine zr_get (v := .ref (ad (6, k0 / 6))) S zi_R hK hP hk0 rfl rfl 2 (by decide) zx_43 rfl d_R_best_6 ?_
    refine zr_alen (n := n) S hK hP (zk_67 hk0) rfl 0 rfl rfl d_R_best_9 ?_
    refine lv_icmp_ge (tgt := 68) S.1 S.2.1 d_R_best_10 (by decide) (fun h10 => ?_) (fun h10 => ?_)
    · rw [if_pos h10] at hF
      refine lv_iload_n S.1 S.2.1 d_R_best_68 rfl (lv_at hl 2 rfl) ?_
      cases hF
      exact zr_iret S hret hlk hS d_R_best_69 ⟨rfl, hP⟩
    · rw [if_neg h10] at hF
      refine lv_aload_n S.1 S.2.1 d_R_best_13 rfl (lv_at hl 0 rfl) ?_
      refine zr_get (v := .ref (ad (8, k0))) S zi_R hK hP hk0 rfl rfl 3 (by decide) zx_44 rfl d_R_best_14 ?_
      refine lv_iload_n S.1 S.2.1 d_R_best_17 rfl (lv_at hl 3 rfl) ?_
      by_cases g18 : zOut v3 n
      · rw [if_pos g18] at hF; cases hF
      rw [if_neg g18] at hF
      refine zr_iald S hK hP (zk_87 hk0) rfl 0 rfl g18 d_R_best_18 ?_
      refine lv_aload_n S.1 S.2.1 d_R_best_19 rfl (lv_at hl 0 rfl) ?_
      refine zr_get (v := .int (st 7 k0 1)) S zi_R hK hP hk0 rfl rfl 6 (by decide) zx_47 rfl d_R_best_20 ?_
      refine lv_icmp_ge (tgt := 39) S.1 S.2.1 d_R_best_23 (by decide) (fun h23 => ?_) (fun h23 => ?_)
      · rw [if_pos h23] at hF
        exact T_R_best_L39 hn hD S hret hlk hK out (F_R_best_L4 n f) ih k0 v1 v2 v3 hk0 st _ _ _ hP hS (lv_sub hl [0, 1, 2, 3] rfl) hF
      · rw [if_neg h23] at hF
        refine lv_aload_n S.1 S.2.1 d_R_best_26 rfl (lv_at hl 0 rfl) ?_
        refine lv_iload_n S.1 S.2.1 d_R_best_27 rfl (lv_at hl 3 rfl) ?_
        cases hc28 : F_R_through n k0 v3 st with
        | none => rw [hc28] at hF; cases hF
        | some u28 =>
          obtain ⟨r28, st28⟩ := u28
          rw [hc28] at hF
          replace hF := zbind hF
          refine zr_callV (rest := []) S zT_good (C_R_through hn hD l k0 v3 hk0 st (r28, st28) hc28) zn_R_through zx_119 ⟨rfl, rfl⟩ ⟨Nat.le_of_ble_eq_true rfl, Nat.le_of_ble_eq_true rfl⟩ ⟨Nat.zero_le _, Nat.zero_le _⟩ hK (zr_recv hK hP hk0 rfl rfl) hP hl.1 (Nat.le_of_ble_eq_true rfl) hS (fun _ h => h) d_R_best_28 rfl (fun o H locs hpo _ _ hS => ?_)
          obtain ⟨rfl, hP⟩ := hpo
          refine W.eq (g2 := F0 m 31 ls [.int r28]) rfl ?_
          replace hF : F_R_best_L4_s1 n (F_R_best_L4 n f) k0 v1 v2 v3 r28 st28 = some out := hF
          replace hP : zV (dC, dI) zcl (zKs n) ad (zcE n cI cZ cR cA ad) st28 H := hP
          unfold F_R_best_L4_s1 at hF
          refine lv_iload_n S.1 S.2.1 d_R_best_31 rfl (lv_at hl 1 rfl) ?_
          refine lv_icmp_ne (tgt := 39) S.1 S.2.1 d_R_best_32 (by decide) (fun h32 => ?_) (fun h32 => ?_)
          · rw [if_neg h32] at hF
            exact T_R_best_L39 hn hD S hret hlk hK out (F_R_best_L4 n f) ih k0 v1 v2 v3 hk0 st28 _ _ _ hP hS (lv_sub hl [0, 1, 2, 3] rfl) hF
          · rw [if_pos h32] at hF
            refine lv_iconst (v := 1) S.1 S.2.1 d_R_best_35 (by decide) ?_
            refine lv_goto (tgt := 40) S.1 S.2.1 d_R_best_36 (by decide) ?_
            exact T_R_best_L40 hn hD S hret hlk hK out (F_R_best_L4 n f) ih k0 v1 v2 v3 1 hk0 st28 _ _ _ hP hS (lv_sub hl [0, 1, 2, 3] rfl) hF

set_option maxHeartbeats 4000000 in
set_option maxRecDepth 1000000 in
theorem C_R_best {dC : Nat → ClassId} {dI : Nat → Nat → Nat} {cI cZ cR cA : ClassId} {n : Nat} {ad : zK → Nat} {A : Nat → Prop} (hn : 2 ≤ n ∧ n ≤ 6) (hD : zD A (zKs n) ad) (l : Launch) (k0 : Nat) (v1 : Int32) (hk0 : (7, k0) ∈ zKs n) (st : zS) (out : Int32 × zS) (hF : F_R_best n k0 v1 st = some out) : zC zT (dC, dI) zcl (zty cI cZ cR cA) A l y_R_best b_R_best 5 (some .int) rm_R_best [.ref (ad (7, k0)), .int v1] (fun H => zV (dC, dI) zcl (zKs n) ad (zcE n cI cZ cR cA ad) st H) (fun o H => o = some (.int out.1) ∧ zV (dC, dI) zcl (zKs n) ad (zcE n cI cZ cR cA ad) out.2 H) := by
  refine zC_of (by decide) (Nat.le_of_ble_eq_true rfl) (fun p e s m args below meth c ls S hret hlk hK hP hl => ?_)
  have hS : va_S A s.heap s.heap [] := va_S.rf
  have hl : lv_has ls 5 [(0, .ref (ad (7, k0))), (1, .int v1)] := hl
  have hP : zV (dC, dI) zcl (zKs n) ad (zcE n cI cZ cR cA ad) st s.heap := hP
  unfold F_R_best at hF
  refine lv_iconst (v := (-1)) S.1 S.2.1 d_R_best_0 (by decide) ?_
  refine lv_istore_n S.1 S.2.1 d_R_best_1 rfl hl (by decide) rfl (fun ls hl => ?_)
  have hl : lv_has ls 5 [(2, .int (-1)), (0, .ref (ad (7, k0))), (1, .int v1)] := hl
  refine lv_iconst (v := 0) S.1 S.2.1 d_R_best_2 (by decide) ?_
  refine lv_istore_n S.1 S.2.1 d_R_best_3 rfl hl (by decide) rfl (fun ls hl => ?_)
  have hl : lv_has ls 5 [(3, .int 0), (2, .int (-1)), (0, .ref (ad (7, k0))), (1, .int v1)] := hl
  exact T_R_best_L4 hn hD S hret hlk hK out zFuel k0 v1 (-1) 0 hk0 st _ _ _ hP hS (lv_sub hl [2, 3, 1, 0] rfl) hF

theorem d_R_takeBest_0 : decode b_R_takeBest 0 = .ok (.aload_n 0, 1) := by decide +kernel
theorem d_R_takeBest_1 : decode b_R_takeBest 1 = .ok (.invokevirtual 50, 3) := by decide +kernel
theorem d_R_takeBest_4 : decode b_R_takeBest 4 = .ok (.istore_n 1, 1) := by decide +kernel
theorem d_R_takeBest_5 : decode b_R_takeBest 5 = .ok (.iload_n 1, 1) := by decide +kernel
theorem d_R_takeBest_6 : decode b_R_takeBest 6 = .ok (.sipush 10000, 3) := by decide +kernel
theorem d_R_takeBest_9 : decode b_R_takeBest 9 = .ok (.if_icmp .ne 7, 3) := by decide +kernel
theorem d_R_takeBest_12 : decode b_R_takeBest 12 = .ok (.iconst (-1), 1) := by decide +kernel
theorem d_R_takeBest_13 : decode b_R_takeBest 13 = .ok (.goto 8, 3) := by decide +kernel
theorem d_R_takeBest_16 : decode b_R_takeBest 16 = .ok (.aload_n 0, 1) := by decide +kernel
theorem d_R_takeBest_17 : decode b_R_takeBest 17 = .ok (.iload_n 1, 1) := by decide +kernel
theorem d_R_takeBest_18 : decode b_R_takeBest 18 = .ok (.invokevirtual 54, 3) := by decide +kernel
theorem d_R_takeBest_21 : decode b_R_takeBest 21 = .ok (.istore_n 2, 1) := by decide +kernel
theorem d_R_takeBest_22 : decode b_R_takeBest 22 = .ok (.iload_n 1, 1) := by decide +kernel
theorem d_R_takeBest_23 : decode b_R_takeBest 23 = .ok (.sipush 10000, 3) := by decide +kernel
theorem d_R_takeBest_26 : decode b_R_takeBest 26 = .ok (.if_icmp .ne 21, 3) := by decide +kernel
theorem d_R_takeBest_29 : decode b_R_takeBest 29 = .ok (.aload_n 0, 1) := by decide +kernel
theorem d_R_takeBest_30 : decode b_R_takeBest 30 = .ok (.getfield 38, 3) := by decide +kernel
theorem d_R_takeBest_33 : decode b_R_takeBest 33 = .ok (.sipush 10000, 3) := by decide +kernel
theorem d_R_takeBest_36 : decode b_R_takeBest 36 = .ok (.if_icmp .ne 7, 3) := by decide +kernel
theorem d_R_takeBest_39 : decode b_R_takeBest 39 = .ok (.iconst 1, 1) := by decide +kernel
theorem d_R_takeBest_40 : decode b_R_takeBest 40 = .ok (.goto 17, 3) := by decide +kernel
theorem d_R_takeBest_43 : decode b_R_takeBest 43 = .ok (.iconst 0, 1) := by decide +kernel
theorem d_R_takeBest_44 : decode b_R_takeBest 44 = .ok (.goto 13, 3) := by decide +kernel
theorem d_R_takeBest_47 : decode b_R_takeBest 47 = .ok (.iload_n 2, 1) := by decide +kernel
theorem d_R_takeBest_48 : decode b_R_takeBest 48 = .ok (.iconst (-1), 1) := by decide +kernel
theorem d_R_takeBest_49 : decode b_R_takeBest 49 = .ok (.if_icmp .eq 7, 3) := by decide +kernel
theorem d_R_takeBest_52 : decode b_R_takeBest 52 = .ok (.iconst 1, 1) := by decide +kernel
theorem d_R_takeBest_53 : decode b_R_takeBest 53 = .ok (.goto 4, 3) := by decide +kernel
theorem d_R_takeBest_56 : decode b_R_takeBest 56 = .ok (.iconst 0, 1) := by decide +kernel
theorem d_R_takeBest_57 : decode b_R_takeBest 57 = .ok (.istore_n 3, 1) := by decide +kernel
theorem d_R_takeBest_58 : decode b_R_takeBest 58 = .ok (.iload_n 3, 1) := by decide +kernel
theorem d_R_takeBest_59 : decode b_R_takeBest 59 = .ok (.ifCond .eq 25, 3) := by decide +kernel
theorem d_R_takeBest_62 : decode b_R_takeBest 62 = .ok (.aload_n 0, 1) := by decide +kernel
theorem d_R_takeBest_63 : decode b_R_takeBest 63 = .ok (.iload_n 2, 1) := by decide +kernel
theorem d_R_takeBest_64 : decode b_R_takeBest 64 = .ok (.putfield 41, 3) := by decide +kernel
theorem d_R_takeBest_67 : decode b_R_takeBest 67 = .ok (.aload_n 0, 1) := by decide +kernel
theorem d_R_takeBest_68 : decode b_R_takeBest 68 = .ok (.iload_n 1, 1) := by decide +kernel
theorem d_R_takeBest_69 : decode b_R_takeBest 69 = .ok (.putfield 35, 3) := by decide +kernel
theorem d_R_takeBest_72 : decode b_R_takeBest 72 = .ok (.aload_n 0, 1) := by decide +kernel
theorem d_R_takeBest_73 : decode b_R_takeBest 73 = .ok (.aload_n 0, 1) := by decide +kernel
theorem d_R_takeBest_74 : decode b_R_takeBest 74 = .ok (.getfield 38, 3) := by decide +kernel
theorem d_R_takeBest_77 : decode b_R_takeBest 77 = .ok (.iload_n 1, 1) := by decide +kernel
theorem d_R_takeBest_78 : decode b_R_takeBest 78 = .ok (.invokestatic 44, 3) := by decide +kernel
theorem d_R_takeBest_81 : decode b_R_takeBest 81 = .ok (.putfield 38, 3) := by decide +kernel
theorem d_R_takeBest_84 : decode b_R_takeBest 84 = .ok (.iload_n 3, 1) := by decide +kernel
theorem d_R_takeBest_85 : decode b_R_takeBest 85 = .ok (.ireturn, 1) := by decide +kernel
def F_R_takeBest_L57_s3 (n : Nat) (v3 : Int32) (st : zS) : Option (Int32 × zS) :=
    if ¬ (v3 = 0 ∨ v3 = 1) then none else some (v3, st)

def F_R_takeBest_L57_s2 (n : Nat) (v3 : Int32) (k0 : Nat) (v1 : Int32) (st : zS) : Option (Int32 × zS) :=
    F_R_takeBest_L57_s3 n v3 (zs st 7 k0 1 (if v1 < (st 7 k0 1) then v1 else (st 7 k0 1)))

def F_R_takeBest_L57_s1 (n : Nat) (v3 : Int32) (k0 : Nat) (v1 : Int32) (st : zS) : Option (Int32 × zS) :=
    F_R_takeBest_L57_s2 n v3 k0 v1 (zs st 7 k0 0 v1)

def F_R_takeBest_L57 (n : Nat) (k0 : Nat) (v1 : Int32) (v2 : Int32) (t0 : Int32) (st : zS) : Option (Int32 × zS) :=
    if t0 = 0 then (if ¬ (t0 = 0 ∨ t0 = 1) then none else some (t0, st)) else (F_R_takeBest_L57_s1 n t0 k0 v1 (zs st 7 k0 2 v2))

def F_R_takeBest_L21 (n : Nat) (k0 : Nat) (v1 : Int32) (t0 : Int32) (st : zS) : Option (Int32 × zS) :=
    if v1 = 10000 then (if (st 7 k0 1) = 10000 then (F_R_takeBest_L57 n k0 v1 t0 1 st) else (F_R_takeBest_L57 n k0 v1 t0 0 st)) else (if t0 = (-1) then (F_R_takeBest_L57 n k0 v1 t0 0 st) else (F_R_takeBest_L57 n k0 v1 t0 1 st))

def F_R_takeBest_s2 (n : Nat) (v1 : Int32) (k0 : Nat) (t0 : Int32) (st : zS) : Option (Int32 × zS) :=
    F_R_takeBest_L21 n k0 v1 t0 st

def F_R_takeBest_s1 (n : Nat) (k0 : Nat) (t0 : Int32) (st : zS) : Option (Int32 × zS) :=
    if t0 = 10000 then (F_R_takeBest_L21 n k0 t0 (-1) st) else ((F_R_best n k0 t0 st).bind (fun u => F_R_takeBest_s2 n t0 k0 u.1 u.2))

def F_R_takeBest (n : Nat) (k0 : Nat) (st : zS) : Option (Int32 × zS) :=
    (F_R_least n k0 st).bind (fun u => F_R_takeBest_s1 n k0 u.1 u.2)

set_option maxHeartbeats 4000000 in
set_option maxRecDepth 1000000 in
theorem T_R_takeBest_L57 {dC : Nat → ClassId} {dI : Nat → Nat → Nat} {cI cZ cR cA : ClassId} {n : Nat} {ad : zK → Nat} {A : Nat → Prop} (hn : 2 ≤ n ∧ n ≤ 6) (hD : zD A (zKs n) ad) {p : Program} {l : Launch} {e : Env} {s : State} {m : MethodId} {args : Array Value} {below : List Frame} {meth : Method} {c : Code} (S : CallFix p m c b_R_takeBest 4 s args zT N_R) (hret : meth.sig.returnType = some .boolean) (hlk : meth.locks = false) (hK : va_K (dC, dI) zcl (zty cI cZ cR cA) s) (out : Int32 × zS) (k0 : Nat) (v1 : Int32) (v2 : Int32) (t0 : Int32) (hk0 : (7, k0) ∈ zKs n) (st : zS) (H : Heap) (locs : List Loc) (ls : Array Slot) (hP : zV (dC, dI) zcl (zKs n) ad (zcE n cI cZ cR cA ad) st H) (hS : va_S A s.heap H locs) (hl : lv_has ls 4 [(0, .ref (ad (7, k0))), (1, .int v1), (2, .int v2)]) (hF : F_R_takeBest_L57 n k0 v1 v2 t0 st = some out) : W p l e rm_R_takeBest s m args below meth c H locs 0 0 (zQ below A (fun o H => o = some (.int out.1) ∧ zV (dC, dI) zcl (zKs n) ad (zcE n cI cZ cR cA ad) out.2 H) args s) (F0 m 57 ls [.int t0]) := by
  unfold F_R_takeBest_L57 at hF
  refine lv_istore_n S.1 S.2.1 d_R_takeBest_57 rfl hl (by decide) rfl (fun ls hl => ?_)
  have hl : lv_has ls 4 [(3, .int t0), (0, .ref (ad (7, k0))), (1, .int v1), (2, .int v2)] := hl
  refine lv_iload_n S.1 S.2.1 d_R_takeBest_58 rfl (lv_at hl 0 rfl) ?_
  refine lv_if_eq (tgt := 84) S.1 S.2.1 d_R_takeBest_59 (by decide) (fun h59 => ?_) (fun h59 => ?_)
  · rw [if_pos h59] at hF
    refine lv_iload_n S.1 S.2.1 d_R_takeBest_84 rfl (lv_at hl 0 rfl) ?_
    by_cases g85 : ¬ (t0 = 0 ∨ t0 = 1)
    · rw [if_pos g85] at hF; cases hF
    rw [if_neg g85] at hF
    cases hF
    exact zr_zret S hret hlk (Decidable.not_not.mp g85) hS d_R_takeBest_85 ⟨rfl, hP⟩
  · rw [if_neg h59] at hF
    refine lv_aload_n S.1 S.2.1 d_R_takeBest_62 rfl (lv_at hl 1 rfl) ?_
    refine lv_iload_n S.1 S.2.1 d_R_takeBest_63 rfl (lv_at hl 3 rfl) ?_
    refine zr_put (v := v2) S zi_R t_R t_R_ok n_R hK hP hD hS hk0 rfl rfl 7 (by decide) zx_48 rfl rfl rfl (Nat.le_of_ble_eq_true rfl) 2 rfl d_R_takeBest_64 (fun H locs hP hS => ?_)
    replace hF : F_R_takeBest_L57_s1 n t0 k0 v1 (zs st 7 k0 2 v2) = some out := hF
    generalize zs st 7 k0 2 v2 = st67 at hP hF
    unfold F_R_takeBest_L57_s1 at hF
    refine lv_aload_n S.1 S.2.1 d_R_takeBest_67 rfl (lv_at hl 1 rfl) ?_
    refine lv_iload_n S.1 S.2.1 d_R_takeBest_68 rfl (lv_at hl 2 rfl) ?_
    refine zr_put (v := v1) S zi_R t_R t_R_ok n_R hK hP hD hS hk0 rfl rfl 5 (by decide) zx_46 rfl rfl rfl (Nat.le_of_ble_eq_true rfl) 0 rfl d_R_takeBest_69 (fun H locs hP hS => ?_)
    replace hF : F_R_takeBest_L57_s2 n t0 k0 v1 (zs st67 7 k0 0 v1) = some out := hF
    generalize zs st67 7 k0 0 v1 = st72 at hP hF
    unfold F_R_takeBest_L57_s2 at hF
    refine lv_aload_n S.1 S.2.1 d_R_takeBest_72 rfl (lv_at hl 1 rfl) ?_
    refine lv_aload_n S.1 S.2.1 d_R_takeBest_73 rfl (lv_at hl 1 rfl) ?_
    refine zr_get (v := .int (st72 7 k0 1)) S zi_R hK hP hk0 rfl rfl 6 (by decide) zx_47 rfl d_R_takeBest_74 ?_
    refine lv_iload_n S.1 S.2.1 d_R_takeBest_77 rfl (lv_at hl 2 rfl) ?_
    refine va_mmin S.1 S.2.1 (S.2.2.1.trans hl.1.symm) S.2.2.2.1 (S.2.2.2.2 _ zx_116) (S.2.2.2.2 _ zx_122) (S.2.2.2.2 _ zx_53) (S.2.2.2.2 _ zx_1) (Nat.le_of_ble_eq_true rfl) (Nat.le_of_ble_eq_true rfl) (Nat.zero_le _) (Nat.zero_le _) d_R_takeBest_78 ?_
    refine zr_put (v := if v1 < (st72 7 k0 1) then v1 else (st72 7 k0 1)) S zi_R t_R t_R_ok n_R hK hP hD hS hk0 rfl rfl 6 (by decide) zx_47 rfl rfl rfl (Nat.le_of_ble_eq_true rfl) 1 rfl d_R_takeBest_81 (fun H locs hP hS => ?_)
    replace hF : F_R_takeBest_L57_s3 n t0 (zs st72 7 k0 1 (if v1 < (st72 7 k0 1) then v1 else (st72 7 k0 1))) = some out := hF
    generalize zs st72 7 k0 1 (if v1 < (st72 7 k0 1) then v1 else (st72 7 k0 1)) = st84 at hP hF
    unfold F_R_takeBest_L57_s3 at hF
    refine lv_iload_n S.1 S.2.1 d_R_takeBest_84 rfl (lv_at hl 0 rfl) ?_
    by_cases g85 : ¬ (t0 = 0 ∨ t0 = 1)
    · rw [if_pos g85] at hF; cases hF
    rw [if_neg g85] at hF
    cases hF
    exact zr_zret S hret hlk (Decidable.not_not.mp g85) hS d_R_takeBest_85 ⟨rfl, hP⟩

set_option maxHeartbeats 4000000 in
set_option maxRecDepth 1000000 in
theorem T_R_takeBest_L21 {dC : Nat → ClassId} {dI : Nat → Nat → Nat} {cI cZ cR cA : ClassId} {n : Nat} {ad : zK → Nat} {A : Nat → Prop} (hn : 2 ≤ n ∧ n ≤ 6) (hD : zD A (zKs n) ad) {p : Program} {l : Launch} {e : Env} {s : State} {m : MethodId} {args : Array Value} {below : List Frame} {meth : Method} {c : Code} (S : CallFix p m c b_R_takeBest 4 s args zT N_R) (hret : meth.sig.returnType = some .boolean) (hlk : meth.locks = false) (hK : va_K (dC, dI) zcl (zty cI cZ cR cA) s) (out : Int32 × zS) (k0 : Nat) (v1 : Int32) (t0 : Int32) (hk0 : (7, k0) ∈ zKs n) (st : zS) (H : Heap) (locs : List Loc) (ls : Array Slot) (hP : zV (dC, dI) zcl (zKs n) ad (zcE n cI cZ cR cA ad) st H) (hS : va_S A s.heap H locs) (hl : lv_has ls 4 [(0, .ref (ad (7, k0))), (1, .int v1)]) (hF : F_R_takeBest_L21 n k0 v1 t0 st = some out) : W p l e rm_R_takeBest s m args below meth c H locs 0 0 (zQ below A (fun o H => o = some (.int out.1) ∧ zV (dC, dI) zcl (zKs n) ad (zcE n cI cZ cR cA ad) out.2 H) args s) (F0 m 21 ls [.int t0]) := by
  unfold F_R_takeBest_L21 at hF
  refine lv_istore_n S.1 S.2.1 d_R_takeBest_21 rfl hl (by decide) rfl (fun ls hl => ?_)
  have hl : lv_has ls 4 [(2, .int t0), (0, .ref (ad (7, k0))), (1, .int v1)] := hl
  refine lv_iload_n S.1 S.2.1 d_R_takeBest_22 rfl (lv_at hl 2 rfl) ?_
  refine lv_sipush (v := 10000) S.1 S.2.1 d_R_takeBest_23 (by decide) ?_
  refine lv_icmp_ne (tgt := 47) S.1 S.2.1 d_R_takeBest_26 (by decide) (fun h26 => ?_) (fun h26 => ?_)
  · rw [if_neg h26] at hF
    refine lv_iload_n S.1 S.2.1 d_R_takeBest_47 rfl (lv_at hl 0 rfl) ?_
    refine lv_iconst (v := (-1)) S.1 S.2.1 d_R_takeBest_48 (by decide) ?_
    refine lv_icmp_eq (tgt := 56) S.1 S.2.1 d_R_takeBest_49 (by decide) (fun h49 => ?_) (fun h49 => ?_)
    · rw [if_pos h49] at hF
      refine lv_iconst (v := 0) S.1 S.2.1 d_R_takeBest_56 (by decide) ?_
      exact T_R_takeBest_L57 hn hD S hret hlk hK out k0 v1 t0 0 hk0 st _ _ _ hP hS (lv_sub hl [1, 2, 0] rfl) hF
    · rw [if_neg h49] at hF
      refine lv_iconst (v := 1) S.1 S.2.1 d_R_takeBest_52 (by decide) ?_
      refine lv_goto (tgt := 57) S.1 S.2.1 d_R_takeBest_53 (by decide) ?_
      exact T_R_takeBest_L57 hn hD S hret hlk hK out k0 v1 t0 1 hk0 st _ _ _ hP hS (lv_sub hl [1, 2, 0] rfl) hF
  · rw [if_pos h26] at hF
    refine lv_aload_n S.1 S.2.1 d_R_takeBest_29 rfl (lv_at hl 1 rfl) ?_
    refine zr_get (v := .int (st 7 k0 1)) S zi_R hK hP hk0 rfl rfl 6 (by decide) zx_47 rfl d_R_takeBest_30 ?_
    refine lv_sipush (v := 10000) S.1 S.2.1 d_R_takeBest_33 (by decide) ?_
    refine lv_icmp_ne (tgt := 43) S.1 S.2.1 d_R_takeBest_36 (by decide) (fun h36 => ?_) (fun h36 => ?_)
    · rw [if_neg h36] at hF
      refine lv_iconst (v := 0) S.1 S.2.1 d_R_takeBest_43 (by decide) ?_
      refine lv_goto (tgt := 57) S.1 S.2.1 d_R_takeBest_44 (by decide) ?_
      exact T_R_takeBest_L57 hn hD S hret hlk hK out k0 v1 t0 0 hk0 st _ _ _ hP hS (lv_sub hl [1, 2, 0] rfl) hF
    · rw [if_pos h36] at hF
      refine lv_iconst (v := 1) S.1 S.2.1 d_R_takeBest_39 (by decide) ?_
      refine lv_goto (tgt := 57) S.1 S.2.1 d_R_takeBest_40 (by decide) ?_
      exact T_R_takeBest_L57 hn hD S hret hlk hK out k0 v1 t0 1 hk0 st _ _ _ hP hS (lv_sub hl [1, 2, 0] rfl) hF

set_option maxHeartbeats 4000000 in
set_option maxRecDepth 1000000 in
theorem C_R_takeBest {dC : Nat → ClassId} {dI : Nat → Nat → Nat} {cI cZ cR cA : ClassId} {n : Nat} {ad : zK → Nat} {A : Nat → Prop} (hn : 2 ≤ n ∧ n ≤ 6) (hD : zD A (zKs n) ad) (l : Launch) (k0 : Nat) (hk0 : (7, k0) ∈ zKs n) (st : zS) (out : Int32 × zS) (hF : F_R_takeBest n k0 st = some out) : zC zT (dC, dI) zcl (zty cI cZ cR cA) A l y_R_takeBest b_R_takeBest 4 (some .boolean) rm_R_takeBest [.ref (ad (7, k0))] (fun H => zV (dC, dI) zcl (zKs n) ad (zcE n cI cZ cR cA ad) st H) (fun o H => o = some (.int out.1) ∧ zV (dC, dI) zcl (zKs n) ad (zcE n cI cZ cR cA ad) out.2 H) := by
  refine zC_of (by decide) (Nat.le_of_ble_eq_true rfl) (fun p e s m args below meth c ls S hret hlk hK hP hl => ?_)
  have hS : va_S A s.heap s.heap [] := va_S.rf
  have hl : lv_has ls 4 [(0, .ref (ad (7, k0)))] := hl
  have hP : zV (dC, dI) zcl (zKs n) ad (zcE n cI cZ cR cA ad) st s.heap := hP
  unfold F_R_takeBest at hF
  refine lv_aload_n S.1 S.2.1 d_R_takeBest_0 rfl (lv_at hl 0 rfl) ?_
  cases hc1 : F_R_least n k0 st with
  | none => rw [hc1] at hF; cases hF
  | some u1 =>
    obtain ⟨r1, st1⟩ := u1
    rw [hc1] at hF
    replace hF := zbind hF
    refine zr_callV (rest := []) S zT_good (C_R_least hn hD l k0 hk0 st (r1, st1) hc1) zn_R_least zx_117 ⟨rfl, rfl⟩ ⟨Nat.le_of_ble_eq_true rfl, Nat.le_of_ble_eq_true rfl⟩ ⟨Nat.zero_le _, Nat.zero_le _⟩ hK (zr_recv hK hP hk0 rfl rfl) hP hl.1 (Nat.le_of_ble_eq_true rfl) hS (fun _ h => h) d_R_takeBest_1 rfl (fun o H locs hpo _ _ hS => ?_)
    obtain ⟨rfl, hP⟩ := hpo
    refine W.eq (g2 := F0 m 4 ls [.int r1]) rfl ?_
    replace hF : F_R_takeBest_s1 n k0 r1 st1 = some out := hF
    replace hP : zV (dC, dI) zcl (zKs n) ad (zcE n cI cZ cR cA ad) st1 H := hP
    unfold F_R_takeBest_s1 at hF
    refine lv_istore_n S.1 S.2.1 d_R_takeBest_4 rfl hl (by decide) rfl (fun ls hl => ?_)
    have hl : lv_has ls 4 [(1, .int r1), (0, .ref (ad (7, k0)))] := hl
    refine lv_iload_n S.1 S.2.1 d_R_takeBest_5 rfl (lv_at hl 0 rfl) ?_
    refine lv_sipush (v := 10000) S.1 S.2.1 d_R_takeBest_6 (by decide) ?_
    refine lv_icmp_ne (tgt := 16) S.1 S.2.1 d_R_takeBest_9 (by decide) (fun h9 => ?_) (fun h9 => ?_)
    · rw [if_neg h9] at hF
      refine lv_aload_n S.1 S.2.1 d_R_takeBest_16 rfl (lv_at hl 1 rfl) ?_
      refine lv_iload_n S.1 S.2.1 d_R_takeBest_17 rfl (lv_at hl 0 rfl) ?_
      cases hc18 : F_R_best n k0 r1 st1 with
      | none => rw [hc18] at hF; cases hF
      | some u18 =>
        obtain ⟨r18, st18⟩ := u18
        rw [hc18] at hF
        replace hF := zbind hF
        refine zr_callV (rest := []) S zT_good (C_R_best hn hD l k0 r1 hk0 st1 (r18, st18) hc18) zn_R_best zx_118 ⟨rfl, rfl⟩ ⟨Nat.le_of_ble_eq_true rfl, Nat.le_of_ble_eq_true rfl⟩ ⟨Nat.zero_le _, Nat.zero_le _⟩ hK (zr_recv hK hP hk0 rfl rfl) hP hl.1 (Nat.le_of_ble_eq_true rfl) hS (fun _ h => h) d_R_takeBest_18 rfl (fun o H locs hpo _ _ hS => ?_)
        obtain ⟨rfl, hP⟩ := hpo
        refine W.eq (g2 := F0 m 21 ls [.int r18]) rfl ?_
        replace hF : F_R_takeBest_s2 n r1 k0 r18 st18 = some out := hF
        replace hP : zV (dC, dI) zcl (zKs n) ad (zcE n cI cZ cR cA ad) st18 H := hP
        unfold F_R_takeBest_s2 at hF
        exact T_R_takeBest_L21 hn hD S hret hlk hK out k0 r1 r18 hk0 st18 _ _ _ hP hS (lv_sub hl [1, 0] rfl) hF
    · rw [if_pos h9] at hF
      refine lv_iconst (v := (-1)) S.1 S.2.1 d_R_takeBest_12 (by decide) ?_
      refine lv_goto (tgt := 21) S.1 S.2.1 d_R_takeBest_13 (by decide) ?_
      exact T_R_takeBest_L21 hn hD S hret hlk hK out k0 r1 (-1) hk0 st1 _ _ _ hP hS (lv_sub hl [1, 0] rfl) hF

theorem d_R_isNeighbour_0 : decode b_R_isNeighbour 0 = .ok (.aload_n 0, 1) := by decide +kernel
theorem d_R_isNeighbour_1 : decode b_R_isNeighbour 1 = .ok (.getfield 18, 3) := by decide +kernel
theorem d_R_isNeighbour_4 : decode b_R_isNeighbour 4 = .ok (.iload_n 1, 1) := by decide +kernel
theorem d_R_isNeighbour_5 : decode b_R_isNeighbour 5 = .ok (.iaload, 1) := by decide +kernel
theorem d_R_isNeighbour_6 : decode b_R_isNeighbour 6 = .ok (.ifCond .le 7, 3) := by decide +kernel
theorem d_R_isNeighbour_9 : decode b_R_isNeighbour 9 = .ok (.iconst 1, 1) := by decide +kernel
theorem d_R_isNeighbour_10 : decode b_R_isNeighbour 10 = .ok (.goto 4, 3) := by decide +kernel
theorem d_R_isNeighbour_13 : decode b_R_isNeighbour 13 = .ok (.iconst 0, 1) := by decide +kernel
theorem d_R_isNeighbour_14 : decode b_R_isNeighbour 14 = .ok (.ireturn, 1) := by decide +kernel
def F_R_isNeighbour (n : Nat) (k0 : Nat) (v1 : Int32) (st : zS) : Option (Int32 × zS) :=
    if zOut v1 n then none else if (st 6 (k0 / 6) (Int32.toNatClampNeg v1)) ≤ 0 then (some (0, st)) else (some (1, st))

set_option maxHeartbeats 4000000 in
set_option maxRecDepth 1000000 in
theorem C_R_isNeighbour {dC : Nat → ClassId} {dI : Nat → Nat → Nat} {cI cZ cR cA : ClassId} {n : Nat} {ad : zK → Nat} {A : Nat → Prop} (hn : 2 ≤ n ∧ n ≤ 6) (hD : zD A (zKs n) ad) (l : Launch) (k0 : Nat) (v1 : Int32) (hk0 : (7, k0) ∈ zKs n) (st : zS) (out : Int32 × zS) (hF : F_R_isNeighbour n k0 v1 st = some out) : zC zT (dC, dI) zcl (zty cI cZ cR cA) A l y_R_isNeighbour b_R_isNeighbour 2 (some .boolean) rm_R_isNeighbour [.ref (ad (7, k0)), .int v1] (fun H => zV (dC, dI) zcl (zKs n) ad (zcE n cI cZ cR cA ad) st H) (fun o H => o = some (.int out.1) ∧ zV (dC, dI) zcl (zKs n) ad (zcE n cI cZ cR cA ad) out.2 H) := by
  refine zC_of (by decide) (Nat.le_of_ble_eq_true rfl) (fun p e s m args below meth c ls S hret hlk hK hP hl => ?_)
  have hS : va_S A s.heap s.heap [] := va_S.rf
  have hl : lv_has ls 2 [(0, .ref (ad (7, k0))), (1, .int v1)] := hl
  have hP : zV (dC, dI) zcl (zKs n) ad (zcE n cI cZ cR cA ad) st s.heap := hP
  unfold F_R_isNeighbour at hF
  refine lv_aload_n S.1 S.2.1 d_R_isNeighbour_0 rfl (lv_at hl 0 rfl) ?_
  refine zr_get (v := .ref (ad (6, k0 / 6))) S zi_R hK hP hk0 rfl rfl 2 (by decide) zx_43 rfl d_R_isNeighbour_1 ?_
  refine lv_iload_n S.1 S.2.1 d_R_isNeighbour_4 rfl (lv_at hl 1 rfl) ?_
  by_cases g5 : zOut v1 n
  · rw [if_pos g5] at hF; cases hF
  rw [if_neg g5] at hF
  refine zr_iald S hK hP (zk_67 hk0) rfl 0 rfl g5 d_R_isNeighbour_5 ?_
  refine lv_if_le (tgt := 13) S.1 S.2.1 d_R_isNeighbour_6 (by decide) (fun h6 => ?_) (fun h6 => ?_)
  · rw [if_pos h6] at hF
    refine lv_iconst (v := 0) S.1 S.2.1 d_R_isNeighbour_13 (by decide) ?_
    cases hF
    exact zr_zret S hret hlk (by decide) hS d_R_isNeighbour_14 ⟨rfl, hP⟩
  · rw [if_neg h6] at hF
    refine lv_iconst (v := 1) S.1 S.2.1 d_R_isNeighbour_9 (by decide) ?_
    refine lv_goto (tgt := 14) S.1 S.2.1 d_R_isNeighbour_10 (by decide) ?_
    cases hF
    exact zr_zret S hret hlk (by decide) hS d_R_isNeighbour_14 ⟨rfl, hP⟩

theorem d_D_updateAllBut_0 : decode b_D_updateAllBut 0 = .ok (.iconst 0, 1) := by decide +kernel
theorem d_D_updateAllBut_1 : decode b_D_updateAllBut 1 = .ok (.istore_n 3, 1) := by decide +kernel
theorem d_D_updateAllBut_2 : decode b_D_updateAllBut 2 = .ok (.iload_n 3, 1) := by decide +kernel
theorem d_D_updateAllBut_3 : decode b_D_updateAllBut 3 = .ok (.aload_n 0, 1) := by decide +kernel
theorem d_D_updateAllBut_4 : decode b_D_updateAllBut 4 = .ok (.getfield 18, 3) := by decide +kernel
theorem d_D_updateAllBut_7 : decode b_D_updateAllBut 7 = .ok (.if_icmp .ge 32, 3) := by decide +kernel
theorem d_D_updateAllBut_10 : decode b_D_updateAllBut 10 = .ok (.iload_n 3, 1) := by decide +kernel
theorem d_D_updateAllBut_11 : decode b_D_updateAllBut 11 = .ok (.iload_n 2, 1) := by decide +kernel
theorem d_D_updateAllBut_12 : decode b_D_updateAllBut 12 = .ok (.if_icmp .eq 21, 3) := by decide +kernel
theorem d_D_updateAllBut_15 : decode b_D_updateAllBut 15 = .ok (.aload_n 1, 1) := by decide +kernel
theorem d_D_updateAllBut_16 : decode b_D_updateAllBut 16 = .ok (.iload_n 3, 1) := by decide +kernel
theorem d_D_updateAllBut_17 : decode b_D_updateAllBut 17 = .ok (.invokevirtual 190, 3) := by decide +kernel
theorem d_D_updateAllBut_20 : decode b_D_updateAllBut 20 = .ok (.ifCond .eq 13, 3) := by decide +kernel
theorem d_D_updateAllBut_23 : decode b_D_updateAllBut 23 = .ok (.aload_n 0, 1) := by decide +kernel
theorem d_D_updateAllBut_24 : decode b_D_updateAllBut 24 = .ok (.getfield 39, 3) := by decide +kernel
theorem d_D_updateAllBut_27 : decode b_D_updateAllBut 27 = .ok (.aload_n 1, 1) := by decide +kernel
theorem d_D_updateAllBut_28 : decode b_D_updateAllBut 28 = .ok (.iload_n 3, 1) := by decide +kernel
theorem d_D_updateAllBut_29 : decode b_D_updateAllBut 29 = .ok (.iconst 0, 1) := by decide +kernel
theorem d_D_updateAllBut_30 : decode b_D_updateAllBut 30 = .ok (.invokevirtual 137, 3) := by decide +kernel
theorem d_D_updateAllBut_33 : decode b_D_updateAllBut 33 = .ok (.iinc 3 1, 3) := by decide +kernel
theorem d_D_updateAllBut_36 : decode b_D_updateAllBut 36 = .ok (.goto (-34), 3) := by decide +kernel
theorem d_D_updateAllBut_39 : decode b_D_updateAllBut 39 = .ok (.return_, 1) := by decide +kernel
def F_D_updateAllBut_L33 (n : Nat) (c2 : Nat → Int32 → Int32 → zS → Option (Int32 × zS)) (k1 : Nat) (v2 : Int32) (v3 : Int32) (st : zS) : Option (Int32 × zS) :=
    c2 k1 v2 (v3 + 1) st

def F_D_updateAllBut_L2_s2 (n : Nat) (c2 : Nat → Int32 → Int32 → zS → Option (Int32 × zS)) (k1 : Nat) (v2 : Int32) (v3 : Int32) (st : zS) : Option (Int32 × zS) :=
    F_D_updateAllBut_L33 n c2 k1 v2 v3 st

def F_D_updateAllBut_L2_s1 (n : Nat) (c2 : Nat → Int32 → Int32 → zS → Option (Int32 × zS)) (k1 : Nat) (v2 : Int32) (v3 : Int32) (t0 : Int32) (st : zS) : Option (Int32 × zS) :=
    if t0 = 0 then (F_D_updateAllBut_L33 n c2 k1 v2 v3 st) else ((F_L_send n k1 v3 0 st).bind (fun u => F_D_updateAllBut_L2_s2 n c2 k1 v2 v3 u.2))

def F_D_updateAllBut_L2 (n : Nat) : Nat → Nat → Int32 → Int32 → zS → Option (Int32 × zS)
  | 0, _, _, _, _ => none
  | f + 1, k1, v2, v3, st =>
    if (nI n) ≤ v3 then (some (0, st)) else (if v3 = v2 then (F_D_updateAllBut_L33 n (F_D_updateAllBut_L2 n f) k1 v2 v3 st) else ((F_R_isNeighbour n k1 v3 st).bind (fun u => F_D_updateAllBut_L2_s1 n (F_D_updateAllBut_L2 n f) k1 v2 v3 u.1 u.2)))

def F_D_updateAllBut (n : Nat) (k1 : Nat) (v2 : Int32) (st : zS) : Option (Int32 × zS) :=
    F_D_updateAllBut_L2 n zFuel k1 v2 0 st

set_option maxHeartbeats 4000000 in
set_option maxRecDepth 1000000 in
theorem T_D_updateAllBut_L33 {dC : Nat → ClassId} {dI : Nat → Nat → Nat} {cI cZ cR cA : ClassId} {n : Nat} {ad : zK → Nat} {A : Nat → Prop} (hn : 2 ≤ n ∧ n ≤ 6) (hD : zD A (zKs n) ad) {p : Program} {l : Launch} {e : Env} {s : State} {m : MethodId} {args : Array Value} {below : List Frame} {meth : Method} {c : Code} (S : CallFix p m c b_D_updateAllBut 4 s args zT N_D) (hret : meth.sig.returnType = none) (hlk : meth.locks = false) (hK : va_K (dC, dI) zcl (zty cI cZ cR cA) s) (out : Int32 × zS) (c2 : Nat → Int32 → Int32 → zS → Option (Int32 × zS)) (hc2 : ∀ (k1 : Nat) (v2 : Int32) (v3 : Int32) (hk1 : (7, k1) ∈ zKs n) (st : zS) (H : Heap) (locs : List Loc) (ls : Array Slot), zV (dC, dI) zcl (zKs n) ad (zcE n cI cZ cR cA ad) st H → va_S A s.heap H locs → lv_has ls 4 [(0, .ref (ad (0, 0))), (1, .ref (ad (7, k1))), (2, .int v2), (3, .int v3)] → c2 k1 v2 v3 st = some out → W p l e rm_D_updateAllBut s m args below meth c H locs 0 0 (zQ below A (fun o H => o = none ∧ zV (dC, dI) zcl (zKs n) ad (zcE n cI cZ cR cA ad) out.2 H) args s) (F0 m 2 ls [])) (k1 : Nat) (v2 : Int32) (v3 : Int32) (hk1 : (7, k1) ∈ zKs n) (st : zS) (H : Heap) (locs : List Loc) (ls : Array Slot) (hP : zV (dC, dI) zcl (zKs n) ad (zcE n cI cZ cR cA ad) st H) (hS : va_S A s.heap H locs) (hl : lv_has ls 4 [(0, .ref (ad (0, 0))), (1, .ref (ad (7, k1))), (2, .int v2), (3, .int v3)]) (hF : F_D_updateAllBut_L33 n c2 k1 v2 v3 st = some out) : W p l e rm_D_updateAllBut s m args below meth c H locs 0 0 (zQ below A (fun o H => o = none ∧ zV (dC, dI) zcl (zKs n) ad (zcE n cI cZ cR cA ad) out.2 H) args s) (F0 m 33 ls []) := by
  unfold F_D_updateAllBut_L33 at hF
  refine lv_iinc (k := 3) (v := v3 + 1) S.1 S.2.1 d_D_updateAllBut_33 hl rfl rfl (by decide) rfl (fun ls hl => ?_)
  have hl : lv_has ls 4 [(3, .int (v3 + 1)), (0, .ref (ad (0, 0))), (1, .ref (ad (7, k1))), (2, .int v2)] := hl
  refine lv_goto (tgt := 2) S.1 S.2.1 d_D_updateAllBut_36 (by decide) ?_
  exact hc2 k1 v2 (v3 + 1) hk1 st _ _ _ hP hS (lv_sub hl [1, 2, 3, 0] rfl) hF

set_option maxHeartbeats 4000000 in
set_option maxRecDepth 1000000 in
theorem T_D_updateAllBut_L2 {dC : Nat → ClassId} {dI : Nat → Nat → Nat} {cI cZ cR cA : ClassId} {n : Nat} {ad : zK → Nat} {A : Nat → Prop} (hn : 2 ≤ n ∧ n ≤ 6) (hD : zD A (zKs n) ad) {p : Program} {l : Launch} {e : Env} {s : State} {m : MethodId} {args : Array Value} {below : List Frame} {meth : Method} {c : Code} (S : CallFix p m c b_D_updateAllBut 4 s args zT N_D) (hret : meth.sig.returnType = none) (hlk : meth.locks = false) (hK : va_K (dC, dI) zcl (zty cI cZ cR cA) s) (out : Int32 × zS) : ∀ (fu : Nat) (k1 : Nat) (v2 : Int32) (v3 : Int32) (hk1 : (7, k1) ∈ zKs n) (st : zS) (H : Heap) (locs : List Loc) (ls : Array Slot) (hP : zV (dC, dI) zcl (zKs n) ad (zcE n cI cZ cR cA ad) st H) (hS : va_S A s.heap H locs) (hl : lv_has ls 4 [(0, .ref (ad (0, 0))), (1, .ref (ad (7, k1))), (2, .int v2), (3, .int v3)]) (hF : F_D_updateAllBut_L2 n fu k1 v2 v3 st = some out), W p l e rm_D_updateAllBut s m args below meth c H locs 0 0 (zQ below A (fun o H => o = none ∧ zV (dC, dI) zcl (zKs n) ad (zcE n cI cZ cR cA ad) out.2 H) args s) (F0 m 2 ls []) := by
  intro fu
  induction fu with
  | zero => intro k1 v2 v3 hk1 st H locs ls hP hS hl hF; rw [F_D_updateAllBut_L2] at hF; cases hF
  | succ f ih =>
    intro k1 v2 v3 hk1 st H locs ls hP hS hl hF
    rw [F_D_updateAllBut_L2] at hF
    refine lv_iload_n S.1 S.2.1 d_D_updateAllBut_2 rfl (lv_at hl 3 rfl) ?_
    refine lv_aload_n S.1 S.2.1 d_D_updateAllBut_3 rfl (lv_at hl 0 rfl) ?_
    refine zr_get (v := .int (nI n)) S zi_D hK hP zk_0 rfl rfl 0 (by decide) zx_8 rfl d_D_updateAllBut_4 ?_
    refine lv_icmp_ge (tgt := 39) S.1 S.2.1 d_D_updateAllBut_7 (by decide) (fun h7 => ?_) (fun h7 => ?_)
    · rw [if_pos h7] at hF
      cases hF
      exact zr_vret S hret hlk hS d_D_updateAllBut_39 ⟨rfl, hP⟩
    · rw [if_neg h7] at hF
      refine lv_iload_n S.1 S.2.1 d_D_updateAllBut_10 rfl (lv_at hl 3 rfl) ?_
      refine lv_iload_n S.1 S.2.1 d_D_updateAllBut_11 rfl (lv_at hl 2 rfl) ?_
      refine lv_icmp_eq (tgt := 33) S.1 S.2.1 d_D_updateAllBut_12 (by decide) (fun h12 => ?_) (fun h12 => ?_)
      · rw [if_pos h12] at hF
        exact T_D_updateAllBut_L33 hn hD S hret hlk hK out (F_D_updateAllBut_L2 n f) ih k1 v2 v3 hk1 st _ _ _ hP hS (lv_sub hl [0, 1, 2, 3] rfl) hF
      · rw [if_neg h12] at hF
        refine lv_aload_n S.1 S.2.1 d_D_updateAllBut_15 rfl (lv_at hl 1 rfl) ?_
        refine lv_iload_n S.1 S.2.1 d_D_updateAllBut_16 rfl (lv_at hl 3 rfl) ?_
        cases hc17 : F_R_isNeighbour n k1 v3 st with
        | none => rw [hc17] at hF; cases hF
        | some u17 =>
          obtain ⟨r17, st17⟩ := u17
          rw [hc17] at hF
          replace hF := zbind hF
          refine zr_callV (rest := []) S zT_good (C_R_isNeighbour hn hD l k1 v3 hk1 st (r17, st17) hc17) zn_R_isNeighbour zx_77 ⟨rfl, rfl⟩ ⟨Nat.le_of_ble_eq_true rfl, Nat.le_of_ble_eq_true rfl⟩ ⟨Nat.zero_le _, Nat.zero_le _⟩ hK (zr_recv hK hP hk1 rfl rfl) hP hl.1 (Nat.le_of_ble_eq_true rfl) hS (fun _ h => h) d_D_updateAllBut_17 rfl (fun o H locs hpo _ _ hS => ?_)
          obtain ⟨rfl, hP⟩ := hpo
          refine W.eq (g2 := F0 m 20 ls [.int r17]) rfl ?_
          replace hF : F_D_updateAllBut_L2_s1 n (F_D_updateAllBut_L2 n f) k1 v2 v3 r17 st17 = some out := hF
          replace hP : zV (dC, dI) zcl (zKs n) ad (zcE n cI cZ cR cA ad) st17 H := hP
          unfold F_D_updateAllBut_L2_s1 at hF
          refine lv_if_eq (tgt := 33) S.1 S.2.1 d_D_updateAllBut_20 (by decide) (fun h20 => ?_) (fun h20 => ?_)
          · rw [if_pos h20] at hF
            exact T_D_updateAllBut_L33 hn hD S hret hlk hK out (F_D_updateAllBut_L2 n f) ih k1 v2 v3 hk1 st17 _ _ _ hP hS (lv_sub hl [0, 1, 2, 3] rfl) hF
          · rw [if_neg h20] at hF
            refine lv_aload_n S.1 S.2.1 d_D_updateAllBut_23 rfl (lv_at hl 0 rfl) ?_
            refine zr_get (v := .ref (ad (3, 0))) S zi_D hK hP zk_0 rfl rfl 3 (by decide) zx_11 rfl d_D_updateAllBut_24 ?_
            refine lv_aload_n S.1 S.2.1 d_D_updateAllBut_27 rfl (lv_at hl 1 rfl) ?_
            refine lv_iload_n S.1 S.2.1 d_D_updateAllBut_28 rfl (lv_at hl 3 rfl) ?_
            refine lv_iconst (v := 0) S.1 S.2.1 d_D_updateAllBut_29 (by decide) ?_
            cases hc30 : F_L_send n k1 v3 0 st17 with
            | none => rw [hc30] at hF; cases hF
            | some u30 =>
              obtain ⟨r30, st30⟩ := u30
              rw [hc30] at hF
              replace hF := zbind hF
              refine zr_callV (rest := []) S zT_good (C_L_send hn hD l k1 v3 0 hk1 st17 (r30, st30) hc30) zn_L_send zx_60 ⟨rfl, rfl⟩ ⟨Nat.le_of_ble_eq_true rfl, Nat.le_of_ble_eq_true rfl⟩ ⟨Nat.zero_le _, Nat.zero_le _⟩ hK (zr_recv hK hP zk_3 rfl rfl) hP hl.1 (Nat.le_of_ble_eq_true rfl) hS (fun _ h => h) d_D_updateAllBut_30 rfl (fun o H locs hpo _ _ hS => ?_)
              obtain ⟨rfl, hP⟩ := hpo
              refine W.eq (g2 := F0 m 33 ls []) rfl ?_
              replace hF : F_D_updateAllBut_L2_s2 n (F_D_updateAllBut_L2 n f) k1 v2 v3 st30 = some out := hF
              replace hP : zV (dC, dI) zcl (zKs n) ad (zcE n cI cZ cR cA ad) st30 H := hP
              unfold F_D_updateAllBut_L2_s2 at hF
              exact T_D_updateAllBut_L33 hn hD S hret hlk hK out (F_D_updateAllBut_L2 n f) ih k1 v2 v3 hk1 st30 _ _ _ hP hS (lv_sub hl [0, 1, 2, 3] rfl) hF

set_option maxHeartbeats 4000000 in
set_option maxRecDepth 1000000 in
theorem C_D_updateAllBut {dC : Nat → ClassId} {dI : Nat → Nat → Nat} {cI cZ cR cA : ClassId} {n : Nat} {ad : zK → Nat} {A : Nat → Prop} (hn : 2 ≤ n ∧ n ≤ 6) (hD : zD A (zKs n) ad) (l : Launch) (k1 : Nat) (v2 : Int32) (hk1 : (7, k1) ∈ zKs n) (st : zS) (out : Int32 × zS) (hF : F_D_updateAllBut n k1 v2 st = some out) : zC zT (dC, dI) zcl (zty cI cZ cR cA) A l y_D_updateAllBut b_D_updateAllBut 4 (none) rm_D_updateAllBut [.ref (ad (0, 0)), .ref (ad (7, k1)), .int v2] (fun H => zV (dC, dI) zcl (zKs n) ad (zcE n cI cZ cR cA ad) st H) (fun o H => o = none ∧ zV (dC, dI) zcl (zKs n) ad (zcE n cI cZ cR cA ad) out.2 H) := by
  refine zC_of (by decide) (Nat.le_of_ble_eq_true rfl) (fun p e s m args below meth c ls S hret hlk hK hP hl => ?_)
  have hS : va_S A s.heap s.heap [] := va_S.rf
  have hl : lv_has ls 4 [(0, .ref (ad (0, 0))), (1, .ref (ad (7, k1))), (2, .int v2)] := hl
  have hP : zV (dC, dI) zcl (zKs n) ad (zcE n cI cZ cR cA ad) st s.heap := hP
  unfold F_D_updateAllBut at hF
  refine lv_iconst (v := 0) S.1 S.2.1 d_D_updateAllBut_0 (by decide) ?_
  refine lv_istore_n S.1 S.2.1 d_D_updateAllBut_1 rfl hl (by decide) rfl (fun ls hl => ?_)
  have hl : lv_has ls 4 [(3, .int 0), (0, .ref (ad (0, 0))), (1, .ref (ad (7, k1))), (2, .int v2)] := hl
  exact T_D_updateAllBut_L2 hn hD S hret hlk hK out zFuel k1 v2 0 hk1 st _ _ _ hP hS (lv_sub hl [1, 2, 3, 0] rfl) hF

theorem d_R_measureAnew_0 : decode b_R_measureAnew 0 = .ok (.aload_n 0, 1) := by decide +kernel
theorem d_R_measureAnew_1 : decode b_R_measureAnew 1 = .ok (.iconst 0, 1) := by decide +kernel
theorem d_R_measureAnew_2 : decode b_R_measureAnew 2 = .ok (.putfield 61, 3) := by decide +kernel
theorem d_R_measureAnew_5 : decode b_R_measureAnew 5 = .ok (.aload_n 0, 1) := by decide +kernel
theorem d_R_measureAnew_6 : decode b_R_measureAnew 6 = .ok (.aload_n 0, 1) := by decide +kernel
theorem d_R_measureAnew_7 : decode b_R_measureAnew 7 = .ok (.aload_n 0, 1) := by decide +kernel
theorem d_R_measureAnew_8 : decode b_R_measureAnew 8 = .ok (.getfield 41, 3) := by decide +kernel
theorem d_R_measureAnew_11 : decode b_R_measureAnew 11 = .ok (.invokevirtual 58, 3) := by decide +kernel
theorem d_R_measureAnew_14 : decode b_R_measureAnew 14 = .ok (.putfield 35, 3) := by decide +kernel
theorem d_R_measureAnew_17 : decode b_R_measureAnew 17 = .ok (.return_, 1) := by decide +kernel
def F_R_measureAnew_s3 (n : Nat) (st : zS) : Option (Int32 × zS) :=
    some (0, st)

def F_R_measureAnew_s2 (n : Nat) (u0 : Nat) (t1 : Int32) (st : zS) : Option (Int32 × zS) :=
    F_R_measureAnew_s3 n (zs st 7 u0 0 t1)

def F_R_measureAnew_s1 (n : Nat) (k0 : Nat) (st : zS) : Option (Int32 × zS) :=
    (F_R_through n k0 (st 7 k0 2) st).bind (fun u => F_R_measureAnew_s2 n k0 u.1 u.2)

def F_R_measureAnew (n : Nat) (k0 : Nat) (st : zS) : Option (Int32 × zS) :=
    F_R_measureAnew_s1 n k0 (zs st 7 k0 5 0)

set_option maxHeartbeats 4000000 in
set_option maxRecDepth 1000000 in
theorem C_R_measureAnew {dC : Nat → ClassId} {dI : Nat → Nat → Nat} {cI cZ cR cA : ClassId} {n : Nat} {ad : zK → Nat} {A : Nat → Prop} (hn : 2 ≤ n ∧ n ≤ 6) (hD : zD A (zKs n) ad) (l : Launch) (k0 : Nat) (hk0 : (7, k0) ∈ zKs n) (st : zS) (out : Int32 × zS) (hF : F_R_measureAnew n k0 st = some out) : zC zT (dC, dI) zcl (zty cI cZ cR cA) A l y_R_measureAnew b_R_measureAnew 1 (none) rm_R_measureAnew [.ref (ad (7, k0))] (fun H => zV (dC, dI) zcl (zKs n) ad (zcE n cI cZ cR cA ad) st H) (fun o H => o = none ∧ zV (dC, dI) zcl (zKs n) ad (zcE n cI cZ cR cA ad) out.2 H) := by
  refine zC_of (by decide) (Nat.le_of_ble_eq_true rfl) (fun p e s m args below meth c ls S hret hlk hK hP hl => ?_)
  have hS : va_S A s.heap s.heap [] := va_S.rf
  have hl : lv_has ls 1 [(0, .ref (ad (7, k0)))] := hl
  have hP : zV (dC, dI) zcl (zKs n) ad (zcE n cI cZ cR cA ad) st s.heap := hP
  unfold F_R_measureAnew at hF
  refine lv_aload_n S.1 S.2.1 d_R_measureAnew_0 rfl (lv_at hl 0 rfl) ?_
  refine lv_iconst (v := 0) S.1 S.2.1 d_R_measureAnew_1 (by decide) ?_
  refine zr_put (v := 0) S zi_R t_R t_R_ok n_R hK hP hD hS hk0 rfl rfl 10 (by decide) zx_49 rfl rfl rfl (Nat.le_of_ble_eq_true rfl) 5 rfl d_R_measureAnew_2 (fun H locs hP hS => ?_)
  replace hF : F_R_measureAnew_s1 n k0 (zs st 7 k0 5 0) = some out := hF
  generalize zs st 7 k0 5 0 = st5 at hP hF
  unfold F_R_measureAnew_s1 at hF
  refine lv_aload_n S.1 S.2.1 d_R_measureAnew_5 rfl (lv_at hl 0 rfl) ?_
  refine lv_aload_n S.1 S.2.1 d_R_measureAnew_6 rfl (lv_at hl 0 rfl) ?_
  refine lv_aload_n S.1 S.2.1 d_R_measureAnew_7 rfl (lv_at hl 0 rfl) ?_
  refine zr_get (v := .int (st5 7 k0 2)) S zi_R hK hP hk0 rfl rfl 7 (by decide) zx_48 rfl d_R_measureAnew_8 ?_
  cases hc11 : F_R_through n k0 (st5 7 k0 2) st5 with
  | none => rw [hc11] at hF; cases hF
  | some u11 =>
    obtain ⟨r11, st11⟩ := u11
    rw [hc11] at hF
    replace hF := zbind hF
    refine zr_callV (rest := [.ref (ad (7, k0))]) S zT_good (C_R_through hn hD l k0 (st5 7 k0 2) hk0 st5 (r11, st11) hc11) zn_R_through zx_119 ⟨rfl, rfl⟩ ⟨Nat.le_of_ble_eq_true rfl, Nat.le_of_ble_eq_true rfl⟩ ⟨Nat.zero_le _, Nat.zero_le _⟩ hK (zr_recv hK hP hk0 rfl rfl) hP hl.1 (Nat.le_of_ble_eq_true rfl) hS (fun _ h => h) d_R_measureAnew_11 rfl (fun o H locs hpo _ _ hS => ?_)
    obtain ⟨rfl, hP⟩ := hpo
    refine W.eq (g2 := F0 m 14 ls [.int r11, .ref (ad (7, k0))]) rfl ?_
    replace hF : F_R_measureAnew_s2 n k0 r11 st11 = some out := hF
    replace hP : zV (dC, dI) zcl (zKs n) ad (zcE n cI cZ cR cA ad) st11 H := hP
    unfold F_R_measureAnew_s2 at hF
    refine zr_put (v := r11) S zi_R t_R t_R_ok n_R hK hP hD hS hk0 rfl rfl 5 (by decide) zx_46 rfl rfl rfl (Nat.le_of_ble_eq_true rfl) 0 rfl d_R_measureAnew_14 (fun H locs hP hS => ?_)
    replace hF : F_R_measureAnew_s3 n (zs st11 7 k0 0 r11) = some out := hF
    generalize zs st11 7 k0 0 r11 = st17 at hP hF
    unfold F_R_measureAnew_s3 at hF
    cases hF
    exact zr_vret S hret hlk hS d_R_measureAnew_17 ⟨rfl, hP⟩

theorem d_D_askAll_0 : decode b_D_askAll 0 = .ok (.iconst 0, 1) := by decide +kernel
theorem d_D_askAll_1 : decode b_D_askAll 1 = .ok (.istore_n 2, 1) := by decide +kernel
theorem d_D_askAll_2 : decode b_D_askAll 2 = .ok (.iload_n 2, 1) := by decide +kernel
theorem d_D_askAll_3 : decode b_D_askAll 3 = .ok (.aload_n 0, 1) := by decide +kernel
theorem d_D_askAll_4 : decode b_D_askAll 4 = .ok (.getfield 18, 3) := by decide +kernel
theorem d_D_askAll_7 : decode b_D_askAll 7 = .ok (.if_icmp .ge 34, 3) := by decide +kernel
theorem d_D_askAll_10 : decode b_D_askAll 10 = .ok (.aload_n 1, 1) := by decide +kernel
theorem d_D_askAll_11 : decode b_D_askAll 11 = .ok (.iload_n 2, 1) := by decide +kernel
theorem d_D_askAll_12 : decode b_D_askAll 12 = .ok (.invokevirtual 190, 3) := by decide +kernel
theorem d_D_askAll_15 : decode b_D_askAll 15 = .ok (.ifCond .eq 20, 3) := by decide +kernel
theorem d_D_askAll_18 : decode b_D_askAll 18 = .ok (.aload_n 0, 1) := by decide +kernel
theorem d_D_askAll_19 : decode b_D_askAll 19 = .ok (.getfield 39, 3) := by decide +kernel
theorem d_D_askAll_22 : decode b_D_askAll 22 = .ok (.aload_n 1, 1) := by decide +kernel
theorem d_D_askAll_23 : decode b_D_askAll 23 = .ok (.iload_n 2, 1) := by decide +kernel
theorem d_D_askAll_24 : decode b_D_askAll 24 = .ok (.iconst 1, 1) := by decide +kernel
theorem d_D_askAll_25 : decode b_D_askAll 25 = .ok (.invokevirtual 137, 3) := by decide +kernel
theorem d_D_askAll_28 : decode b_D_askAll 28 = .ok (.aload_n 1, 1) := by decide +kernel
theorem d_D_askAll_29 : decode b_D_askAll 29 = .ok (.getfield 112, 3) := by decide +kernel
theorem d_D_askAll_32 : decode b_D_askAll 32 = .ok (.iload_n 2, 1) := by decide +kernel
theorem d_D_askAll_33 : decode b_D_askAll 33 = .ok (.iconst 1, 1) := by decide +kernel
theorem d_D_askAll_34 : decode b_D_askAll 34 = .ok (.bastore, 1) := by decide +kernel
theorem d_D_askAll_35 : decode b_D_askAll 35 = .ok (.iinc 2 1, 3) := by decide +kernel
theorem d_D_askAll_38 : decode b_D_askAll 38 = .ok (.goto (-36), 3) := by decide +kernel
theorem d_D_askAll_41 : decode b_D_askAll 41 = .ok (.return_, 1) := by decide +kernel
def F_D_askAll_L35 (n : Nat) (c2 : Nat → Int32 → zS → Option (Int32 × zS)) (k1 : Nat) (v2 : Int32) (st : zS) : Option (Int32 × zS) :=
    c2 k1 (v2 + 1) st

def F_D_askAll_L2_s3 (n : Nat) (c2 : Nat → Int32 → zS → Option (Int32 × zS)) (k1 : Nat) (v2 : Int32) (st : zS) : Option (Int32 × zS) :=
    F_D_askAll_L35 n c2 k1 v2 st

def F_D_askAll_L2_s2 (n : Nat) (c2 : Nat → Int32 → zS → Option (Int32 × zS)) (k1 : Nat) (v2 : Int32) (st : zS) : Option (Int32 × zS) :=
    if zOut v2 n then none else F_D_askAll_L2_s3 n c2 k1 v2 (zs st 9 k1 (Int32.toNatClampNeg v2) 1)

def F_D_askAll_L2_s1 (n : Nat) (c2 : Nat → Int32 → zS → Option (Int32 × zS)) (k1 : Nat) (v2 : Int32) (t0 : Int32) (st : zS) : Option (Int32 × zS) :=
    if t0 = 0 then (F_D_askAll_L35 n c2 k1 v2 st) else ((F_L_send n k1 v2 1 st).bind (fun u => F_D_askAll_L2_s2 n c2 k1 v2 u.2))

def F_D_askAll_L2 (n : Nat) : Nat → Nat → Int32 → zS → Option (Int32 × zS)
  | 0, _, _, _ => none
  | f + 1, k1, v2, st =>
    if (nI n) ≤ v2 then (some (0, st)) else ((F_R_isNeighbour n k1 v2 st).bind (fun u => F_D_askAll_L2_s1 n (F_D_askAll_L2 n f) k1 v2 u.1 u.2))

def F_D_askAll (n : Nat) (k1 : Nat) (st : zS) : Option (Int32 × zS) :=
    F_D_askAll_L2 n zFuel k1 0 st

set_option maxHeartbeats 4000000 in
set_option maxRecDepth 1000000 in
theorem T_D_askAll_L35 {dC : Nat → ClassId} {dI : Nat → Nat → Nat} {cI cZ cR cA : ClassId} {n : Nat} {ad : zK → Nat} {A : Nat → Prop} (hn : 2 ≤ n ∧ n ≤ 6) (hD : zD A (zKs n) ad) {p : Program} {l : Launch} {e : Env} {s : State} {m : MethodId} {args : Array Value} {below : List Frame} {meth : Method} {c : Code} (S : CallFix p m c b_D_askAll 3 s args zT N_D) (hret : meth.sig.returnType = none) (hlk : meth.locks = false) (hK : va_K (dC, dI) zcl (zty cI cZ cR cA) s) (out : Int32 × zS) (c2 : Nat → Int32 → zS → Option (Int32 × zS)) (hc2 : ∀ (k1 : Nat) (v2 : Int32) (hk1 : (7, k1) ∈ zKs n) (st : zS) (H : Heap) (locs : List Loc) (ls : Array Slot), zV (dC, dI) zcl (zKs n) ad (zcE n cI cZ cR cA ad) st H → va_S A s.heap H locs → lv_has ls 3 [(0, .ref (ad (0, 0))), (1, .ref (ad (7, k1))), (2, .int v2)] → c2 k1 v2 st = some out → W p l e rm_D_askAll s m args below meth c H locs 0 0 (zQ below A (fun o H => o = none ∧ zV (dC, dI) zcl (zKs n) ad (zcE n cI cZ cR cA ad) out.2 H) args s) (F0 m 2 ls [])) (k1 : Nat) (v2 : Int32) (hk1 : (7, k1) ∈ zKs n) (st : zS) (H : Heap) (locs : List Loc) (ls : Array Slot) (hP : zV (dC, dI) zcl (zKs n) ad (zcE n cI cZ cR cA ad) st H) (hS : va_S A s.heap H locs) (hl : lv_has ls 3 [(0, .ref (ad (0, 0))), (1, .ref (ad (7, k1))), (2, .int v2)]) (hF : F_D_askAll_L35 n c2 k1 v2 st = some out) : W p l e rm_D_askAll s m args below meth c H locs 0 0 (zQ below A (fun o H => o = none ∧ zV (dC, dI) zcl (zKs n) ad (zcE n cI cZ cR cA ad) out.2 H) args s) (F0 m 35 ls []) := by
  unfold F_D_askAll_L35 at hF
  refine lv_iinc (k := 2) (v := v2 + 1) S.1 S.2.1 d_D_askAll_35 hl rfl rfl (by decide) rfl (fun ls hl => ?_)
  have hl : lv_has ls 3 [(2, .int (v2 + 1)), (0, .ref (ad (0, 0))), (1, .ref (ad (7, k1)))] := hl
  refine lv_goto (tgt := 2) S.1 S.2.1 d_D_askAll_38 (by decide) ?_
  exact hc2 k1 (v2 + 1) hk1 st _ _ _ hP hS (lv_sub hl [1, 2, 0] rfl) hF

set_option maxHeartbeats 4000000 in
set_option maxRecDepth 1000000 in
theorem T_D_askAll_L2 {dC : Nat → ClassId} {dI : Nat → Nat → Nat} {cI cZ cR cA : ClassId} {n : Nat} {ad : zK → Nat} {A : Nat → Prop} (hn : 2 ≤ n ∧ n ≤ 6) (hD : zD A (zKs n) ad) {p : Program} {l : Launch} {e : Env} {s : State} {m : MethodId} {args : Array Value} {below : List Frame} {meth : Method} {c : Code} (S : CallFix p m c b_D_askAll 3 s args zT N_D) (hret : meth.sig.returnType = none) (hlk : meth.locks = false) (hK : va_K (dC, dI) zcl (zty cI cZ cR cA) s) (out : Int32 × zS) : ∀ (fu : Nat) (k1 : Nat) (v2 : Int32) (hk1 : (7, k1) ∈ zKs n) (st : zS) (H : Heap) (locs : List Loc) (ls : Array Slot) (hP : zV (dC, dI) zcl (zKs n) ad (zcE n cI cZ cR cA ad) st H) (hS : va_S A s.heap H locs) (hl : lv_has ls 3 [(0, .ref (ad (0, 0))), (1, .ref (ad (7, k1))), (2, .int v2)]) (hF : F_D_askAll_L2 n fu k1 v2 st = some out), W p l e rm_D_askAll s m args below meth c H locs 0 0 (zQ below A (fun o H => o = none ∧ zV (dC, dI) zcl (zKs n) ad (zcE n cI cZ cR cA ad) out.2 H) args s) (F0 m 2 ls []) := by
  intro fu
  induction fu with
  | zero => intro k1 v2 hk1 st H locs ls hP hS hl hF; rw [F_D_askAll_L2] at hF; cases hF
  | succ f ih =>
    intro k1 v2 hk1 st H locs ls hP hS hl hF
    rw [F_D_askAll_L2] at hF
    refine lv_iload_n S.1 S.2.1 d_D_askAll_2 rfl (lv_at hl 2 rfl) ?_
    refine lv_aload_n S.1 S.2.1 d_D_askAll_3 rfl (lv_at hl 0 rfl) ?_
    refine zr_get (v := .int (nI n)) S zi_D hK hP zk_0 rfl rfl 0 (by decide) zx_8 rfl d_D_askAll_4 ?_
    refine lv_icmp_ge (tgt := 41) S.1 S.2.1 d_D_askAll_7 (by decide) (fun h7 => ?_) (fun h7 => ?_)
    · rw [if_pos h7] at hF
      cases hF
      exact zr_vret S hret hlk hS d_D_askAll_41 ⟨rfl, hP⟩
    · rw [if_neg h7] at hF
      refine lv_aload_n S.1 S.2.1 d_D_askAll_10 rfl (lv_at hl 1 rfl) ?_
      refine lv_iload_n S.1 S.2.1 d_D_askAll_11 rfl (lv_at hl 2 rfl) ?_
      cases hc12 : F_R_isNeighbour n k1 v2 st with
      | none => rw [hc12] at hF; cases hF
      | some u12 =>
        obtain ⟨r12, st12⟩ := u12
        rw [hc12] at hF
        replace hF := zbind hF
        refine zr_callV (rest := []) S zT_good (C_R_isNeighbour hn hD l k1 v2 hk1 st (r12, st12) hc12) zn_R_isNeighbour zx_77 ⟨rfl, rfl⟩ ⟨Nat.le_of_ble_eq_true rfl, Nat.le_of_ble_eq_true rfl⟩ ⟨Nat.zero_le _, Nat.zero_le _⟩ hK (zr_recv hK hP hk1 rfl rfl) hP hl.1 (Nat.le_of_ble_eq_true rfl) hS (fun _ h => h) d_D_askAll_12 rfl (fun o H locs hpo _ _ hS => ?_)
        obtain ⟨rfl, hP⟩ := hpo
        refine W.eq (g2 := F0 m 15 ls [.int r12]) rfl ?_
        replace hF : F_D_askAll_L2_s1 n (F_D_askAll_L2 n f) k1 v2 r12 st12 = some out := hF
        replace hP : zV (dC, dI) zcl (zKs n) ad (zcE n cI cZ cR cA ad) st12 H := hP
        unfold F_D_askAll_L2_s1 at hF
        refine lv_if_eq (tgt := 35) S.1 S.2.1 d_D_askAll_15 (by decide) (fun h15 => ?_) (fun h15 => ?_)
        · rw [if_pos h15] at hF
          exact T_D_askAll_L35 hn hD S hret hlk hK out (F_D_askAll_L2 n f) ih k1 v2 hk1 st12 _ _ _ hP hS (lv_sub hl [0, 1, 2] rfl) hF
        · rw [if_neg h15] at hF
          refine lv_aload_n S.1 S.2.1 d_D_askAll_18 rfl (lv_at hl 0 rfl) ?_
          refine zr_get (v := .ref (ad (3, 0))) S zi_D hK hP zk_0 rfl rfl 3 (by decide) zx_11 rfl d_D_askAll_19 ?_
          refine lv_aload_n S.1 S.2.1 d_D_askAll_22 rfl (lv_at hl 1 rfl) ?_
          refine lv_iload_n S.1 S.2.1 d_D_askAll_23 rfl (lv_at hl 2 rfl) ?_
          refine lv_iconst (v := 1) S.1 S.2.1 d_D_askAll_24 (by decide) ?_
          cases hc25 : F_L_send n k1 v2 1 st12 with
          | none => rw [hc25] at hF; cases hF
          | some u25 =>
            obtain ⟨r25, st25⟩ := u25
            rw [hc25] at hF
            replace hF := zbind hF
            refine zr_callV (rest := []) S zT_good (C_L_send hn hD l k1 v2 1 hk1 st12 (r25, st25) hc25) zn_L_send zx_60 ⟨rfl, rfl⟩ ⟨Nat.le_of_ble_eq_true rfl, Nat.le_of_ble_eq_true rfl⟩ ⟨Nat.zero_le _, Nat.zero_le _⟩ hK (zr_recv hK hP zk_3 rfl rfl) hP hl.1 (Nat.le_of_ble_eq_true rfl) hS (fun _ h => h) d_D_askAll_25 rfl (fun o H locs hpo _ _ hS => ?_)
            obtain ⟨rfl, hP⟩ := hpo
            refine W.eq (g2 := F0 m 28 ls []) rfl ?_
            replace hF : F_D_askAll_L2_s2 n (F_D_askAll_L2 n f) k1 v2 st25 = some out := hF
            replace hP : zV (dC, dI) zcl (zKs n) ad (zcE n cI cZ cR cA ad) st25 H := hP
            unfold F_D_askAll_L2_s2 at hF
            refine lv_aload_n S.1 S.2.1 d_D_askAll_28 rfl (lv_at hl 1 rfl) ?_
            refine zr_get (v := .ref (ad (9, k1))) S zi_R hK hP hk1 rfl rfl 4 (by decide) zx_5 rfl d_D_askAll_29 ?_
            refine lv_iload_n S.1 S.2.1 d_D_askAll_32 rfl (lv_at hl 2 rfl) ?_
            refine lv_iconst (v := 1) S.1 S.2.1 d_D_askAll_33 (by decide) ?_
            by_cases g34 : zOut v2 n
            · rw [if_pos g34] at hF; cases hF
            rw [if_neg g34] at hF
            refine zr_zast S hK hP hD hS (zk_97 hk1) (fun _ => rfl) 1 rfl g34 (by decide) d_D_askAll_34 (fun H locs hP hS => ?_)
            replace hF : F_D_askAll_L2_s3 n (F_D_askAll_L2 n f) k1 v2 (zs st25 9 k1 (Int32.toNatClampNeg v2) 1) = some out := hF
            generalize zs st25 9 k1 (Int32.toNatClampNeg v2) 1 = st35 at hP hF
            unfold F_D_askAll_L2_s3 at hF
            exact T_D_askAll_L35 hn hD S hret hlk hK out (F_D_askAll_L2 n f) ih k1 v2 hk1 st35 _ _ _ hP hS (lv_sub hl [0, 1, 2] rfl) hF

set_option maxHeartbeats 4000000 in
set_option maxRecDepth 1000000 in
theorem C_D_askAll {dC : Nat → ClassId} {dI : Nat → Nat → Nat} {cI cZ cR cA : ClassId} {n : Nat} {ad : zK → Nat} {A : Nat → Prop} (hn : 2 ≤ n ∧ n ≤ 6) (hD : zD A (zKs n) ad) (l : Launch) (k1 : Nat) (hk1 : (7, k1) ∈ zKs n) (st : zS) (out : Int32 × zS) (hF : F_D_askAll n k1 st = some out) : zC zT (dC, dI) zcl (zty cI cZ cR cA) A l y_D_askAll b_D_askAll 3 (none) rm_D_askAll [.ref (ad (0, 0)), .ref (ad (7, k1))] (fun H => zV (dC, dI) zcl (zKs n) ad (zcE n cI cZ cR cA ad) st H) (fun o H => o = none ∧ zV (dC, dI) zcl (zKs n) ad (zcE n cI cZ cR cA ad) out.2 H) := by
  refine zC_of (by decide) (Nat.le_of_ble_eq_true rfl) (fun p e s m args below meth c ls S hret hlk hK hP hl => ?_)
  have hS : va_S A s.heap s.heap [] := va_S.rf
  have hl : lv_has ls 3 [(0, .ref (ad (0, 0))), (1, .ref (ad (7, k1)))] := hl
  have hP : zV (dC, dI) zcl (zKs n) ad (zcE n cI cZ cR cA ad) st s.heap := hP
  unfold F_D_askAll at hF
  refine lv_iconst (v := 0) S.1 S.2.1 d_D_askAll_0 (by decide) ?_
  refine lv_istore_n S.1 S.2.1 d_D_askAll_1 rfl hl (by decide) rfl (fun ls hl => ?_)
  have hl : lv_has ls 3 [(2, .int 0), (0, .ref (ad (0, 0))), (1, .ref (ad (7, k1)))] := hl
  exact T_D_askAll_L2 hn hD S hret hlk hK out zFuel k1 0 hk1 st _ _ _ hP hS (lv_sub hl [1, 2, 0] rfl) hF
end
section
theorem d_D_look_0 : decode b_D_look 0 = .ok (.aload_n 1, 1) := by decide +kernel
theorem d_D_look_1 : decode b_D_look 1 = .ok (.getfield 89, 3) := by decide +kernel
theorem d_D_look_4 : decode b_D_look 4 = .ok (.istore_n 3, 1) := by decide +kernel
theorem d_D_look_5 : decode b_D_look 5 = .ok (.aload_n 1, 1) := by decide +kernel
theorem d_D_look_6 : decode b_D_look 6 = .ok (.invokevirtual 172, 3) := by decide +kernel
theorem d_D_look_9 : decode b_D_look 9 = .ok (.ifCond .eq 33, 3) := by decide +kernel
theorem d_D_look_12 : decode b_D_look 12 = .ok (.iload_n 2, 1) := by decide +kernel
theorem d_D_look_13 : decode b_D_look 13 = .ok (.iconst (-1), 1) := by decide +kernel
theorem d_D_look_14 : decode b_D_look 14 = .ok (.if_icmp .eq 13, 3) := by decide +kernel
theorem d_D_look_17 : decode b_D_look 17 = .ok (.aload_n 0, 1) := by decide +kernel
theorem d_D_look_18 : decode b_D_look 18 = .ok (.getfield 39, 3) := by decide +kernel
theorem d_D_look_21 : decode b_D_look 21 = .ok (.aload_n 1, 1) := by decide +kernel
theorem d_D_look_22 : decode b_D_look 22 = .ok (.iload_n 2, 1) := by decide +kernel
theorem d_D_look_23 : decode b_D_look 23 = .ok (.iconst 2, 1) := by decide +kernel
theorem d_D_look_24 : decode b_D_look 24 = .ok (.invokevirtual 137, 3) := by decide +kernel
theorem d_D_look_27 : decode b_D_look 27 = .ok (.aload_n 1, 1) := by decide +kernel
theorem d_D_look_28 : decode b_D_look 28 = .ok (.getfield 89, 3) := by decide +kernel
theorem d_D_look_31 : decode b_D_look 31 = .ok (.iload_n 3, 1) := by decide +kernel
theorem d_D_look_32 : decode b_D_look 32 = .ok (.if_icmp .eq 9, 3) := by decide +kernel
theorem d_D_look_35 : decode b_D_look 35 = .ok (.aload_n 0, 1) := by decide +kernel
theorem d_D_look_36 : decode b_D_look 36 = .ok (.aload_n 1, 1) := by decide +kernel
theorem d_D_look_37 : decode b_D_look 37 = .ok (.iload_n 2, 1) := by decide +kernel
theorem d_D_look_38 : decode b_D_look 38 = .ok (.invokevirtual 175, 3) := by decide +kernel
theorem d_D_look_41 : decode b_D_look 41 = .ok (.return_, 1) := by decide +kernel
theorem d_D_look_42 : decode b_D_look 42 = .ok (.aload_n 1, 1) := by decide +kernel
theorem d_D_look_43 : decode b_D_look 43 = .ok (.iconst 1, 1) := by decide +kernel
theorem d_D_look_44 : decode b_D_look 44 = .ok (.putfield 98, 3) := by decide +kernel
theorem d_D_look_47 : decode b_D_look 47 = .ok (.aload_n 1, 1) := by decide +kernel
theorem d_D_look_48 : decode b_D_look 48 = .ok (.iload_n 2, 1) := by decide +kernel
theorem d_D_look_49 : decode b_D_look 49 = .ok (.iconst (-1), 1) := by decide +kernel
theorem d_D_look_50 : decode b_D_look 50 = .ok (.if_icmp .eq 15, 3) := by decide +kernel
theorem d_D_look_53 : decode b_D_look 53 = .ok (.iload_n 2, 1) := by decide +kernel
theorem d_D_look_54 : decode b_D_look 54 = .ok (.aload_n 1, 1) := by decide +kernel
theorem d_D_look_55 : decode b_D_look 55 = .ok (.getfield 95, 3) := by decide +kernel
theorem d_D_look_58 : decode b_D_look 58 = .ok (.if_icmp .ne 7, 3) := by decide +kernel
theorem d_D_look_61 : decode b_D_look 61 = .ok (.iconst 1, 1) := by decide +kernel
theorem d_D_look_62 : decode b_D_look 62 = .ok (.goto 4, 3) := by decide +kernel
theorem d_D_look_65 : decode b_D_look 65 = .ok (.iconst 0, 1) := by decide +kernel
theorem d_D_look_66 : decode b_D_look 66 = .ok (.putfield 105, 3) := by decide +kernel
theorem d_D_look_69 : decode b_D_look 69 = .ok (.aload_n 1, 1) := by decide +kernel
theorem d_D_look_70 : decode b_D_look 70 = .ok (.invokevirtual 178, 3) := by decide +kernel
theorem d_D_look_73 : decode b_D_look 73 = .ok (.iload_n 2, 1) := by decide +kernel
theorem d_D_look_74 : decode b_D_look 74 = .ok (.iconst (-1), 1) := by decide +kernel
theorem d_D_look_75 : decode b_D_look 75 = .ok (.if_icmp .eq 20, 3) := by decide +kernel
theorem d_D_look_78 : decode b_D_look 78 = .ok (.aload_n 1, 1) := by decide +kernel
theorem d_D_look_79 : decode b_D_look 79 = .ok (.getfield 105, 3) := by decide +kernel
theorem d_D_look_82 : decode b_D_look 82 = .ok (.ifCond .ne 13, 3) := by decide +kernel
theorem d_D_look_85 : decode b_D_look 85 = .ok (.aload_n 0, 1) := by decide +kernel
theorem d_D_look_86 : decode b_D_look 86 = .ok (.getfield 39, 3) := by decide +kernel
theorem d_D_look_89 : decode b_D_look 89 = .ok (.aload_n 1, 1) := by decide +kernel
theorem d_D_look_90 : decode b_D_look 90 = .ok (.iload_n 2, 1) := by decide +kernel
theorem d_D_look_91 : decode b_D_look 91 = .ok (.iconst 2, 1) := by decide +kernel
theorem d_D_look_92 : decode b_D_look 92 = .ok (.invokevirtual 137, 3) := by decide +kernel
theorem d_D_look_95 : decode b_D_look 95 = .ok (.aload_n 0, 1) := by decide +kernel
theorem d_D_look_96 : decode b_D_look 96 = .ok (.aload_n 1, 1) := by decide +kernel
theorem d_D_look_97 : decode b_D_look 97 = .ok (.invokevirtual 181, 3) := by decide +kernel
theorem d_D_look_100 : decode b_D_look 100 = .ok (.return_, 1) := by decide +kernel
def F_D_look_L27_s1 (n : Nat) (st : zS) : Option (Int32 × zS) :=
    some (0, st)

def F_D_look_L27 (n : Nat) (k1 : Nat) (v2 : Int32) (v3 : Int32) (st : zS) : Option (Int32 × zS) :=
    if (st 7 k1 0) = v3 then (some (0, st)) else ((F_D_updateAllBut n k1 v2 st).bind (fun u => F_D_look_L27_s1 n u.2))

def F_D_look_L95_s1 (n : Nat) (st : zS) : Option (Int32 × zS) :=
    some (0, st)

def F_D_look_L95 (n : Nat) (k1 : Nat) (st : zS) : Option (Int32 × zS) :=
    (F_D_askAll n k1 st).bind (fun u => F_D_look_L95_s1 n u.2)

def F_D_look_L66_s3 (n : Nat) (k1 : Nat) (st : zS) : Option (Int32 × zS) :=
    F_D_look_L95 n k1 st

def F_D_look_L66_s2 (n : Nat) (k1 : Nat) (v2 : Int32) (st : zS) : Option (Int32 × zS) :=
    if v2 = (-1) then (F_D_look_L95 n k1 st) else (if (st 7 k1 4) = 0 then ((F_L_send n k1 v2 2 st).bind (fun u => F_D_look_L66_s3 n k1 u.2)) else (F_D_look_L95 n k1 st))

def F_D_look_L66_s1 (n : Nat) (k1 : Nat) (v2 : Int32) (st : zS) : Option (Int32 × zS) :=
    (F_R_measureAnew n k1 st).bind (fun u => F_D_look_L66_s2 n k1 v2 u.2)

def F_D_look_L66 (n : Nat) (k1 : Nat) (v2 : Int32) (u0 : Nat) (t1 : Int32) (st : zS) : Option (Int32 × zS) :=
    if ¬ (t1 = 0 ∨ t1 = 1) then none else F_D_look_L66_s1 n k1 v2 (zs st 7 u0 4 t1)

def F_D_look_L65 (n : Nat) (k1 : Nat) (v2 : Int32) (u0 : Nat) (st : zS) : Option (Int32 × zS) :=
    F_D_look_L66 n k1 v2 u0 0 st

def F_D_look_s2 (n : Nat) (k1 : Nat) (v2 : Int32) (st : zS) : Option (Int32 × zS) :=
    if v2 = (-1) then (F_D_look_L65 n k1 v2 k1 st) else (if v2 = (st 7 k1 2) then (F_D_look_L66 n k1 v2 k1 1 st) else (F_D_look_L65 n k1 v2 k1 st))

def F_D_look_s3 (n : Nat) (v3 : Int32) (k1 : Nat) (v2 : Int32) (st : zS) : Option (Int32 × zS) :=
    F_D_look_L27 n k1 v2 v3 st

def F_D_look_s1 (n : Nat) (v3 : Int32) (k1 : Nat) (v2 : Int32) (t0 : Int32) (st : zS) : Option (Int32 × zS) :=
    if t0 = 0 then (F_D_look_s2 n k1 v2 (zs st 7 k1 3 1)) else (if v2 = (-1) then (F_D_look_L27 n k1 v2 v3 st) else ((F_L_send n k1 v2 2 st).bind (fun u => F_D_look_s3 n v3 k1 v2 u.2)))

def F_D_look (n : Nat) (k1 : Nat) (v2 : Int32) (st : zS) : Option (Int32 × zS) :=
    (F_R_takeBest n k1 st).bind (fun u => F_D_look_s1 n (st 7 k1 0) k1 v2 u.1 u.2)

set_option maxHeartbeats 4000000 in
set_option maxRecDepth 1000000 in
theorem T_D_look_L27 {dC : Nat → ClassId} {dI : Nat → Nat → Nat} {cI cZ cR cA : ClassId} {n : Nat} {ad : zK → Nat} {A : Nat → Prop} (hn : 2 ≤ n ∧ n ≤ 6) (hD : zD A (zKs n) ad) {p : Program} {l : Launch} {e : Env} {s : State} {m : MethodId} {args : Array Value} {below : List Frame} {meth : Method} {c : Code} (S : CallFix p m c b_D_look 4 s args zT N_D) (hret : meth.sig.returnType = none) (hlk : meth.locks = false) (hK : va_K (dC, dI) zcl (zty cI cZ cR cA) s) (out : Int32 × zS) (k1 : Nat) (v2 : Int32) (v3 : Int32) (hk1 : (7, k1) ∈ zKs n) (st : zS) (H : Heap) (locs : List Loc) (ls : Array Slot) (hP : zV (dC, dI) zcl (zKs n) ad (zcE n cI cZ cR cA ad) st H) (hS : va_S A s.heap H locs) (hl : lv_has ls 4 [(0, .ref (ad (0, 0))), (1, .ref (ad (7, k1))), (2, .int v2), (3, .int v3)]) (hF : F_D_look_L27 n k1 v2 v3 st = some out) : W p l e rm_D_look s m args below meth c H locs 0 0 (zQ below A (fun o H => o = none ∧ zV (dC, dI) zcl (zKs n) ad (zcE n cI cZ cR cA ad) out.2 H) args s) (F0 m 27 ls []) := by
  unfold F_D_look_L27 at hF
  refine lv_aload_n S.1 S.2.1 d_D_look_27 rfl (lv_at hl 1 rfl) ?_
  refine zr_get (v := .int (st 7 k1 0)) S zi_R hK hP hk1 rfl rfl 5 (by decide) zx_14 rfl d_D_look_28 ?_
  refine lv_iload_n S.1 S.2.1 d_D_look_31 rfl (lv_at hl 3 rfl) ?_
  refine lv_icmp_eq (tgt := 41) S.1 S.2.1 d_D_look_32 (by decide) (fun h32 => ?_) (fun h32 => ?_)
  · rw [if_pos h32] at hF
    cases hF
    exact zr_vret S hret hlk hS d_D_look_41 ⟨rfl, hP⟩
  · rw [if_neg h32] at hF
    refine lv_aload_n S.1 S.2.1 d_D_look_35 rfl (lv_at hl 0 rfl) ?_
    refine lv_aload_n S.1 S.2.1 d_D_look_36 rfl (lv_at hl 1 rfl) ?_
    refine lv_iload_n S.1 S.2.1 d_D_look_37 rfl (lv_at hl 2 rfl) ?_
    cases hc38 : F_D_updateAllBut n k1 v2 st with
    | none => rw [hc38] at hF; cases hF
    | some u38 =>
      obtain ⟨r38, st38⟩ := u38
      rw [hc38] at hF
      replace hF := zbind hF
      refine zr_callV (rest := []) S zT_good (C_D_updateAllBut hn hD l k1 v2 hk1 st (r38, st38) hc38) zn_D_updateAllBut zx_72 ⟨rfl, rfl⟩ ⟨Nat.le_of_ble_eq_true rfl, Nat.le_of_ble_eq_true rfl⟩ ⟨Nat.zero_le _, Nat.zero_le _⟩ hK (zr_recv hK hP zk_0 rfl rfl) hP hl.1 (Nat.le_of_ble_eq_true rfl) hS (fun _ h => h) d_D_look_38 rfl (fun o H locs hpo _ _ hS => ?_)
      obtain ⟨rfl, hP⟩ := hpo
      refine W.eq (g2 := F0 m 41 ls []) rfl ?_
      replace hF : F_D_look_L27_s1 n st38 = some out := hF
      replace hP : zV (dC, dI) zcl (zKs n) ad (zcE n cI cZ cR cA ad) st38 H := hP
      unfold F_D_look_L27_s1 at hF
      cases hF
      exact zr_vret S hret hlk hS d_D_look_41 ⟨rfl, hP⟩

set_option maxHeartbeats 4000000 in
set_option maxRecDepth 1000000 in
theorem T_D_look_L95 {dC : Nat → ClassId} {dI : Nat → Nat → Nat} {cI cZ cR cA : ClassId} {n : Nat} {ad : zK → Nat} {A : Nat → Prop} (hn : 2 ≤ n ∧ n ≤ 6) (hD : zD A (zKs n) ad) {p : Program} {l : Launch} {e : Env} {s : State} {m : MethodId} {args : Array Value} {below : List Frame} {meth : Method} {c : Code} (S : CallFix p m c b_D_look 4 s args zT N_D) (hret : meth.sig.returnType = none) (hlk : meth.locks = false) (hK : va_K (dC, dI) zcl (zty cI cZ cR cA) s) (out : Int32 × zS) (k1 : Nat) (hk1 : (7, k1) ∈ zKs n) (st : zS) (H : Heap) (locs : List Loc) (ls : Array Slot) (hP : zV (dC, dI) zcl (zKs n) ad (zcE n cI cZ cR cA ad) st H) (hS : va_S A s.heap H locs) (hl : lv_has ls 4 [(0, .ref (ad (0, 0))), (1, .ref (ad (7, k1)))]) (hF : F_D_look_L95 n k1 st = some out) : W p l e rm_D_look s m args below meth c H locs 0 0 (zQ below A (fun o H => o = none ∧ zV (dC, dI) zcl (zKs n) ad (zcE n cI cZ cR cA ad) out.2 H) args s) (F0 m 95 ls []) := by
  unfold F_D_look_L95 at hF
  refine lv_aload_n S.1 S.2.1 d_D_look_95 rfl (lv_at hl 0 rfl) ?_
  refine lv_aload_n S.1 S.2.1 d_D_look_96 rfl (lv_at hl 1 rfl) ?_
  cases hc97 : F_D_askAll n k1 st with
  | none => rw [hc97] at hF; cases hF
  | some u97 =>
    obtain ⟨r97, st97⟩ := u97
    rw [hc97] at hF
    replace hF := zbind hF
    refine zr_callV (rest := []) S zT_good (C_D_askAll hn hD l k1 hk1 st (r97, st97) hc97) zn_D_askAll zx_74 ⟨rfl, rfl⟩ ⟨Nat.le_of_ble_eq_true rfl, Nat.le_of_ble_eq_true rfl⟩ ⟨Nat.zero_le _, Nat.zero_le _⟩ hK (zr_recv hK hP zk_0 rfl rfl) hP hl.1 (Nat.le_of_ble_eq_true rfl) hS (fun _ h => h) d_D_look_97 rfl (fun o H locs hpo _ _ hS => ?_)
    obtain ⟨rfl, hP⟩ := hpo
    refine W.eq (g2 := F0 m 100 ls []) rfl ?_
    replace hF : F_D_look_L95_s1 n st97 = some out := hF
    replace hP : zV (dC, dI) zcl (zKs n) ad (zcE n cI cZ cR cA ad) st97 H := hP
    unfold F_D_look_L95_s1 at hF
    cases hF
    exact zr_vret S hret hlk hS d_D_look_100 ⟨rfl, hP⟩

set_option maxHeartbeats 4000000 in
set_option maxRecDepth 1000000 in
theorem T_D_look_L66 {dC : Nat → ClassId} {dI : Nat → Nat → Nat} {cI cZ cR cA : ClassId} {n : Nat} {ad : zK → Nat} {A : Nat → Prop} (hn : 2 ≤ n ∧ n ≤ 6) (hD : zD A (zKs n) ad) {p : Program} {l : Launch} {e : Env} {s : State} {m : MethodId} {args : Array Value} {below : List Frame} {meth : Method} {c : Code} (S : CallFix p m c b_D_look 4 s args zT N_D) (hret : meth.sig.returnType = none) (hlk : meth.locks = false) (hK : va_K (dC, dI) zcl (zty cI cZ cR cA) s) (out : Int32 × zS) (k1 : Nat) (v2 : Int32) (u0 : Nat) (t1 : Int32) (hk1 : (7, k1) ∈ zKs n) (hu0 : (7, u0) ∈ zKs n) (st : zS) (H : Heap) (locs : List Loc) (ls : Array Slot) (hP : zV (dC, dI) zcl (zKs n) ad (zcE n cI cZ cR cA ad) st H) (hS : va_S A s.heap H locs) (hl : lv_has ls 4 [(0, .ref (ad (0, 0))), (1, .ref (ad (7, k1))), (2, .int v2)]) (hF : F_D_look_L66 n k1 v2 u0 t1 st = some out) : W p l e rm_D_look s m args below meth c H locs 0 0 (zQ below A (fun o H => o = none ∧ zV (dC, dI) zcl (zKs n) ad (zcE n cI cZ cR cA ad) out.2 H) args s) (F0 m 66 ls [.int t1, .ref (ad (7, u0))]) := by
  unfold F_D_look_L66 at hF
  by_cases g66 : ¬ (t1 = 0 ∨ t1 = 1)
  · rw [if_pos g66] at hF; cases hF
  rw [if_neg g66] at hF
  refine zr_put (v := t1) S zi_R t_R t_R_ok n_R hK hP hD hS hu0 rfl rfl 9 (by decide) zx_3 rfl (zb_n (Decidable.not_not.mp g66)) (zb_f (Decidable.not_not.mp g66)) (Nat.le_of_ble_eq_true rfl) 4 rfl d_D_look_66 (fun H locs hP hS => ?_)
  replace hF : F_D_look_L66_s1 n k1 v2 (zs st 7 u0 4 t1) = some out := hF
  generalize zs st 7 u0 4 t1 = st69 at hP hF
  unfold F_D_look_L66_s1 at hF
  refine lv_aload_n S.1 S.2.1 d_D_look_69 rfl (lv_at hl 1 rfl) ?_
  cases hc70 : F_R_measureAnew n k1 st69 with
  | none => rw [hc70] at hF; cases hF
  | some u70 =>
    obtain ⟨r70, st70⟩ := u70
    rw [hc70] at hF
    replace hF := zbind hF
    refine zr_callV (rest := []) S zT_good (C_R_measureAnew hn hD l k1 hk1 st69 (r70, st70) hc70) zn_R_measureAnew zx_73 ⟨rfl, rfl⟩ ⟨Nat.le_of_ble_eq_true rfl, Nat.le_of_ble_eq_true rfl⟩ ⟨Nat.zero_le _, Nat.zero_le _⟩ hK (zr_recv hK hP hk1 rfl rfl) hP hl.1 (Nat.le_of_ble_eq_true rfl) hS (fun _ h => h) d_D_look_70 rfl (fun o H locs hpo _ _ hS => ?_)
    obtain ⟨rfl, hP⟩ := hpo
    refine W.eq (g2 := F0 m 73 ls []) rfl ?_
    replace hF : F_D_look_L66_s2 n k1 v2 st70 = some out := hF
    replace hP : zV (dC, dI) zcl (zKs n) ad (zcE n cI cZ cR cA ad) st70 H := hP
    unfold F_D_look_L66_s2 at hF
    refine lv_iload_n S.1 S.2.1 d_D_look_73 rfl (lv_at hl 2 rfl) ?_
    refine lv_iconst (v := (-1)) S.1 S.2.1 d_D_look_74 (by decide) ?_
    refine lv_icmp_eq (tgt := 95) S.1 S.2.1 d_D_look_75 (by decide) (fun h75 => ?_) (fun h75 => ?_)
    · rw [if_pos h75] at hF
      exact T_D_look_L95 hn hD S hret hlk hK out k1 hk1 st70 _ _ _ hP hS (lv_sub hl [0, 1] rfl) hF
    · rw [if_neg h75] at hF
      refine lv_aload_n S.1 S.2.1 d_D_look_78 rfl (lv_at hl 1 rfl) ?_
      refine zr_get (v := .int (st70 7 k1 4)) S zi_R hK hP hk1 rfl rfl 9 (by decide) zx_3 rfl d_D_look_79 ?_
      refine lv_if_ne (tgt := 95) S.1 S.2.1 d_D_look_82 (by decide) (fun h82 => ?_) (fun h82 => ?_)
      · rw [if_neg h82] at hF
        exact T_D_look_L95 hn hD S hret hlk hK out k1 hk1 st70 _ _ _ hP hS (lv_sub hl [0, 1] rfl) hF
      · rw [if_pos h82] at hF
        refine lv_aload_n S.1 S.2.1 d_D_look_85 rfl (lv_at hl 0 rfl) ?_
        refine zr_get (v := .ref (ad (3, 0))) S zi_D hK hP zk_0 rfl rfl 3 (by decide) zx_11 rfl d_D_look_86 ?_
        refine lv_aload_n S.1 S.2.1 d_D_look_89 rfl (lv_at hl 1 rfl) ?_
        refine lv_iload_n S.1 S.2.1 d_D_look_90 rfl (lv_at hl 2 rfl) ?_
        refine lv_iconst (v := 2) S.1 S.2.1 d_D_look_91 (by decide) ?_
        cases hc92 : F_L_send n k1 v2 2 st70 with
        | none => rw [hc92] at hF; cases hF
        | some u92 =>
          obtain ⟨r92, st92⟩ := u92
          rw [hc92] at hF
          replace hF := zbind hF
          refine zr_callV (rest := []) S zT_good (C_L_send hn hD l k1 v2 2 hk1 st70 (r92, st92) hc92) zn_L_send zx_60 ⟨rfl, rfl⟩ ⟨Nat.le_of_ble_eq_true rfl, Nat.le_of_ble_eq_true rfl⟩ ⟨Nat.zero_le _, Nat.zero_le _⟩ hK (zr_recv hK hP zk_3 rfl rfl) hP hl.1 (Nat.le_of_ble_eq_true rfl) hS (fun _ h => h) d_D_look_92 rfl (fun o H locs hpo _ _ hS => ?_)
          obtain ⟨rfl, hP⟩ := hpo
          refine W.eq (g2 := F0 m 95 ls []) rfl ?_
          replace hF : F_D_look_L66_s3 n k1 st92 = some out := hF
          replace hP : zV (dC, dI) zcl (zKs n) ad (zcE n cI cZ cR cA ad) st92 H := hP
          unfold F_D_look_L66_s3 at hF
          exact T_D_look_L95 hn hD S hret hlk hK out k1 hk1 st92 _ _ _ hP hS (lv_sub hl [0, 1] rfl) hF

set_option maxHeartbeats 4000000 in
set_option maxRecDepth 1000000 in
theorem T_D_look_L65 {dC : Nat → ClassId} {dI : Nat → Nat → Nat} {cI cZ cR cA : ClassId} {n : Nat} {ad : zK → Nat} {A : Nat → Prop} (hn : 2 ≤ n ∧ n ≤ 6) (hD : zD A (zKs n) ad) {p : Program} {l : Launch} {e : Env} {s : State} {m : MethodId} {args : Array Value} {below : List Frame} {meth : Method} {c : Code} (S : CallFix p m c b_D_look 4 s args zT N_D) (hret : meth.sig.returnType = none) (hlk : meth.locks = false) (hK : va_K (dC, dI) zcl (zty cI cZ cR cA) s) (out : Int32 × zS) (k1 : Nat) (v2 : Int32) (u0 : Nat) (hk1 : (7, k1) ∈ zKs n) (hu0 : (7, u0) ∈ zKs n) (st : zS) (H : Heap) (locs : List Loc) (ls : Array Slot) (hP : zV (dC, dI) zcl (zKs n) ad (zcE n cI cZ cR cA ad) st H) (hS : va_S A s.heap H locs) (hl : lv_has ls 4 [(0, .ref (ad (0, 0))), (1, .ref (ad (7, k1))), (2, .int v2)]) (hF : F_D_look_L65 n k1 v2 u0 st = some out) : W p l e rm_D_look s m args below meth c H locs 0 0 (zQ below A (fun o H => o = none ∧ zV (dC, dI) zcl (zKs n) ad (zcE n cI cZ cR cA ad) out.2 H) args s) (F0 m 65 ls [.ref (ad (7, u0))]) := by
  unfold F_D_look_L65 at hF
  refine lv_iconst (v := 0) S.1 S.2.1 d_D_look_65 (by decide) ?_
  exact T_D_look_L66 hn hD S hret hlk hK out k1 v2 u0 0 hk1 hu0 st _ _ _ hP hS (lv_sub hl [0, 1, 2] rfl) hF

set_option maxHeartbeats 4000000 in
set_option maxRecDepth 1000000 in
theorem C_D_look {dC : Nat → ClassId} {dI : Nat → Nat → Nat} {cI cZ cR cA : ClassId} {n : Nat} {ad : zK → Nat} {A : Nat → Prop} (hn : 2 ≤ n ∧ n ≤ 6) (hD : zD A (zKs n) ad) (l : Launch) (k1 : Nat) (v2 : Int32) (hk1 : (7, k1) ∈ zKs n) (st : zS) (out : Int32 × zS) (hF : F_D_look n k1 v2 st = some out) : zC zT (dC, dI) zcl (zty cI cZ cR cA) A l y_D_look b_D_look 4 (none) rm_D_look [.ref (ad (0, 0)), .ref (ad (7, k1)), .int v2] (fun H => zV (dC, dI) zcl (zKs n) ad (zcE n cI cZ cR cA ad) st H) (fun o H => o = none ∧ zV (dC, dI) zcl (zKs n) ad (zcE n cI cZ cR cA ad) out.2 H) := by
  refine zC_of (by decide) (Nat.le_of_ble_eq_true rfl) (fun p e s m args below meth c ls S hret hlk hK hP hl => ?_)
  have hS : va_S A s.heap s.heap [] := va_S.rf
  have hl : lv_has ls 4 [(0, .ref (ad (0, 0))), (1, .ref (ad (7, k1))), (2, .int v2)] := hl
  have hP : zV (dC, dI) zcl (zKs n) ad (zcE n cI cZ cR cA ad) st s.heap := hP
  unfold F_D_look at hF
  refine lv_aload_n S.1 S.2.1 d_D_look_0 rfl (lv_at hl 1 rfl) ?_
  refine zr_get (v := .int (st 7 k1 0)) S zi_R hK hP hk1 rfl rfl 5 (by decide) zx_14 rfl d_D_look_1 ?_
  refine lv_istore_n S.1 S.2.1 d_D_look_4 rfl hl (by decide) rfl (fun ls hl => ?_)
  have hl : lv_has ls 4 [(3, .int (st 7 k1 0)), (0, .ref (ad (0, 0))), (1, .ref (ad (7, k1))), (2, .int v2)] := hl
  refine lv_aload_n S.1 S.2.1 d_D_look_5 rfl (lv_at hl 2 rfl) ?_
  cases hc6 : F_R_takeBest n k1 st with
  | none => rw [hc6] at hF; cases hF
  | some u6 =>
    obtain ⟨r6, st6⟩ := u6
    rw [hc6] at hF
    replace hF := zbind hF
    refine zr_callV (rest := []) S zT_good (C_R_takeBest hn hD l k1 hk1 st (r6, st6) hc6) zn_R_takeBest zx_71 ⟨rfl, rfl⟩ ⟨Nat.le_of_ble_eq_true rfl, Nat.le_of_ble_eq_true rfl⟩ ⟨Nat.zero_le _, Nat.zero_le _⟩ hK (zr_recv hK hP hk1 rfl rfl) hP hl.1 (Nat.le_of_ble_eq_true rfl) hS (fun _ h => h) d_D_look_6 rfl (fun o H locs hpo _ _ hS => ?_)
    obtain ⟨rfl, hP⟩ := hpo
    refine W.eq (g2 := F0 m 9 ls [.int r6]) rfl ?_
    replace hF : F_D_look_s1 n (st 7 k1 0) k1 v2 r6 st6 = some out := hF
    replace hP : zV (dC, dI) zcl (zKs n) ad (zcE n cI cZ cR cA ad) st6 H := hP
    unfold F_D_look_s1 at hF
    refine lv_if_eq (tgt := 42) S.1 S.2.1 d_D_look_9 (by decide) (fun h9 => ?_) (fun h9 => ?_)
    · rw [if_pos h9] at hF
      refine lv_aload_n S.1 S.2.1 d_D_look_42 rfl (lv_at hl 2 rfl) ?_
      refine lv_iconst (v := 1) S.1 S.2.1 d_D_look_43 (by decide) ?_
      refine zr_put (v := 1) S zi_R t_R t_R_ok n_R hK hP hD hS hk1 rfl rfl 8 (by decide) zx_17 rfl rfl rfl (Nat.le_of_ble_eq_true rfl) 3 rfl d_D_look_44 (fun H locs hP hS => ?_)
      replace hF : F_D_look_s2 n k1 v2 (zs st6 7 k1 3 1) = some out := hF
      generalize zs st6 7 k1 3 1 = st47 at hP hF
      unfold F_D_look_s2 at hF
      refine lv_aload_n S.1 S.2.1 d_D_look_47 rfl (lv_at hl 2 rfl) ?_
      refine lv_iload_n S.1 S.2.1 d_D_look_48 rfl (lv_at hl 3 rfl) ?_
      refine lv_iconst (v := (-1)) S.1 S.2.1 d_D_look_49 (by decide) ?_
      refine lv_icmp_eq (tgt := 65) S.1 S.2.1 d_D_look_50 (by decide) (fun h50 => ?_) (fun h50 => ?_)
      · rw [if_pos h50] at hF
        exact T_D_look_L65 hn hD S hret hlk hK out k1 v2 k1 hk1 hk1 st47 _ _ _ hP hS (lv_sub hl [1, 2, 3] rfl) hF
      · rw [if_neg h50] at hF
        refine lv_iload_n S.1 S.2.1 d_D_look_53 rfl (lv_at hl 3 rfl) ?_
        refine lv_aload_n S.1 S.2.1 d_D_look_54 rfl (lv_at hl 2 rfl) ?_
        refine zr_get (v := .int (st47 7 k1 2)) S zi_R hK hP hk1 rfl rfl 7 (by decide) zx_16 rfl d_D_look_55 ?_
        refine lv_icmp_ne (tgt := 65) S.1 S.2.1 d_D_look_58 (by decide) (fun h58 => ?_) (fun h58 => ?_)
        · rw [if_neg h58] at hF
          exact T_D_look_L65 hn hD S hret hlk hK out k1 v2 k1 hk1 hk1 st47 _ _ _ hP hS (lv_sub hl [1, 2, 3] rfl) hF
        · rw [if_pos h58] at hF
          refine lv_iconst (v := 1) S.1 S.2.1 d_D_look_61 (by decide) ?_
          refine lv_goto (tgt := 66) S.1 S.2.1 d_D_look_62 (by decide) ?_
          exact T_D_look_L66 hn hD S hret hlk hK out k1 v2 k1 1 hk1 hk1 st47 _ _ _ hP hS (lv_sub hl [1, 2, 3] rfl) hF
    · rw [if_neg h9] at hF
      refine lv_iload_n S.1 S.2.1 d_D_look_12 rfl (lv_at hl 3 rfl) ?_
      refine lv_iconst (v := (-1)) S.1 S.2.1 d_D_look_13 (by decide) ?_
      refine lv_icmp_eq (tgt := 27) S.1 S.2.1 d_D_look_14 (by decide) (fun h14 => ?_) (fun h14 => ?_)
      · rw [if_pos h14] at hF
        exact T_D_look_L27 hn hD S hret hlk hK out k1 v2 (st 7 k1 0) hk1 st6 _ _ _ hP hS (lv_sub hl [1, 2, 3, 0] rfl) hF
      · rw [if_neg h14] at hF
        refine lv_aload_n S.1 S.2.1 d_D_look_17 rfl (lv_at hl 1 rfl) ?_
        refine zr_get (v := .ref (ad (3, 0))) S zi_D hK hP zk_0 rfl rfl 3 (by decide) zx_11 rfl d_D_look_18 ?_
        refine lv_aload_n S.1 S.2.1 d_D_look_21 rfl (lv_at hl 2 rfl) ?_
        refine lv_iload_n S.1 S.2.1 d_D_look_22 rfl (lv_at hl 3 rfl) ?_
        refine lv_iconst (v := 2) S.1 S.2.1 d_D_look_23 (by decide) ?_
        cases hc24 : F_L_send n k1 v2 2 st6 with
        | none => rw [hc24] at hF; cases hF
        | some u24 =>
          obtain ⟨r24, st24⟩ := u24
          rw [hc24] at hF
          replace hF := zbind hF
          refine zr_callV (rest := []) S zT_good (C_L_send hn hD l k1 v2 2 hk1 st6 (r24, st24) hc24) zn_L_send zx_60 ⟨rfl, rfl⟩ ⟨Nat.le_of_ble_eq_true rfl, Nat.le_of_ble_eq_true rfl⟩ ⟨Nat.zero_le _, Nat.zero_le _⟩ hK (zr_recv hK hP zk_3 rfl rfl) hP hl.1 (Nat.le_of_ble_eq_true rfl) hS (fun _ h => h) d_D_look_24 rfl (fun o H locs hpo _ _ hS => ?_)
          obtain ⟨rfl, hP⟩ := hpo
          refine W.eq (g2 := F0 m 27 ls []) rfl ?_
          replace hF : F_D_look_s3 n (st 7 k1 0) k1 v2 st24 = some out := hF
          replace hP : zV (dC, dI) zcl (zKs n) ad (zcE n cI cZ cR cA ad) st24 H := hP
          unfold F_D_look_s3 at hF
          exact T_D_look_L27 hn hD S hret hlk hK out k1 v2 (st 7 k1 0) hk1 st24 _ _ _ hP hS (lv_sub hl [1, 2, 3, 0] rfl) hF

theorem d_R_isWaiting_0 : decode b_R_isWaiting 0 = .ok (.aload_n 0, 1) := by decide +kernel
theorem d_R_isWaiting_1 : decode b_R_isWaiting 1 = .ok (.getfield 31, 3) := by decide +kernel
theorem d_R_isWaiting_4 : decode b_R_isWaiting 4 = .ok (.astore_n 1, 1) := by decide +kernel
theorem d_R_isWaiting_5 : decode b_R_isWaiting 5 = .ok (.aload_n 1, 1) := by decide +kernel
theorem d_R_isWaiting_6 : decode b_R_isWaiting 6 = .ok (.arraylength, 1) := by decide +kernel
theorem d_R_isWaiting_7 : decode b_R_isWaiting 7 = .ok (.istore_n 2, 1) := by decide +kernel
theorem d_R_isWaiting_8 : decode b_R_isWaiting 8 = .ok (.iconst 0, 1) := by decide +kernel
theorem d_R_isWaiting_9 : decode b_R_isWaiting 9 = .ok (.istore_n 3, 1) := by decide +kernel
theorem d_R_isWaiting_10 : decode b_R_isWaiting 10 = .ok (.iload_n 3, 1) := by decide +kernel
theorem d_R_isWaiting_11 : decode b_R_isWaiting 11 = .ok (.iload_n 2, 1) := by decide +kernel
theorem d_R_isWaiting_12 : decode b_R_isWaiting 12 = .ok (.if_icmp .ge 21, 3) := by decide +kernel
theorem d_R_isWaiting_15 : decode b_R_isWaiting 15 = .ok (.aload_n 1, 1) := by decide +kernel
theorem d_R_isWaiting_16 : decode b_R_isWaiting 16 = .ok (.iload_n 3, 1) := by decide +kernel
theorem d_R_isWaiting_17 : decode b_R_isWaiting 17 = .ok (.baload, 1) := by decide +kernel
theorem d_R_isWaiting_18 : decode b_R_isWaiting 18 = .ok (.istore 4, 2) := by decide +kernel
theorem d_R_isWaiting_20 : decode b_R_isWaiting 20 = .ok (.iload 4, 2) := by decide +kernel
theorem d_R_isWaiting_22 : decode b_R_isWaiting 22 = .ok (.ifCond .eq 5, 3) := by decide +kernel
theorem d_R_isWaiting_25 : decode b_R_isWaiting 25 = .ok (.iconst 1, 1) := by decide +kernel
theorem d_R_isWaiting_26 : decode b_R_isWaiting 26 = .ok (.ireturn, 1) := by decide +kernel
theorem d_R_isWaiting_27 : decode b_R_isWaiting 27 = .ok (.iinc 3 1, 3) := by decide +kernel
theorem d_R_isWaiting_30 : decode b_R_isWaiting 30 = .ok (.goto (-20), 3) := by decide +kernel
theorem d_R_isWaiting_33 : decode b_R_isWaiting 33 = .ok (.iconst 0, 1) := by decide +kernel
theorem d_R_isWaiting_34 : decode b_R_isWaiting 34 = .ok (.ireturn, 1) := by decide +kernel
def F_R_isWaiting_L10 (n : Nat) : Nat → Nat → Int32 → Int32 → zS → Option (Int32 × zS)
  | 0, _, _, _, _ => none
  | f + 1, k1, v2, v3, st =>
    if v2 ≤ v3 then (some (0, st)) else (if zOut v3 n then none else if (st 9 k1 (Int32.toNatClampNeg v3)) = 0 then (F_R_isWaiting_L10 n f k1 v2 (v3 + 1) st) else (some (1, st)))

def F_R_isWaiting (n : Nat) (k0 : Nat) (st : zS) : Option (Int32 × zS) :=
    F_R_isWaiting_L10 n zFuel k0 (nI n) 0 st

set_option maxHeartbeats 4000000 in
set_option maxRecDepth 1000000 in
theorem T_R_isWaiting_L10 {dC : Nat → ClassId} {dI : Nat → Nat → Nat} {cI cZ cR cA : ClassId} {n : Nat} {ad : zK → Nat} {A : Nat → Prop} (hn : 2 ≤ n ∧ n ≤ 6) (hD : zD A (zKs n) ad) {p : Program} {l : Launch} {e : Env} {s : State} {m : MethodId} {args : Array Value} {below : List Frame} {meth : Method} {c : Code} (S : CallFix p m c b_R_isWaiting 5 s args zT N_R) (hret : meth.sig.returnType = some .boolean) (hlk : meth.locks = false) (hK : va_K (dC, dI) zcl (zty cI cZ cR cA) s) (out : Int32 × zS) : ∀ (fu : Nat) (k1 : Nat) (v2 : Int32) (v3 : Int32) (hk1 : (9, k1) ∈ zKs n) (st : zS) (H : Heap) (locs : List Loc) (ls : Array Slot) (hP : zV (dC, dI) zcl (zKs n) ad (zcE n cI cZ cR cA ad) st H) (hS : va_S A s.heap H locs) (hl : lv_has ls 5 [(1, .ref (ad (9, k1))), (2, .int v2), (3, .int v3)]) (hF : F_R_isWaiting_L10 n fu k1 v2 v3 st = some out), W p l e rm_R_isWaiting s m args below meth c H locs 0 0 (zQ below A (fun o H => o = some (.int out.1) ∧ zV (dC, dI) zcl (zKs n) ad (zcE n cI cZ cR cA ad) out.2 H) args s) (F0 m 10 ls []) := by
  intro fu
  induction fu with
  | zero => intro k1 v2 v3 hk1 st H locs ls hP hS hl hF; rw [F_R_isWaiting_L10] at hF; cases hF
  | succ f ih =>
    intro k1 v2 v3 hk1 st H locs ls hP hS hl hF
    rw [F_R_isWaiting_L10] at hF
    refine lv_iload_n S.1 S.2.1 d_R_isWaiting_10 rfl (lv_at hl 2 rfl) ?_
    refine lv_iload_n S.1 S.2.1 d_R_isWaiting_11 rfl (lv_at hl 1 rfl) ?_
    refine lv_icmp_ge (tgt := 33) S.1 S.2.1 d_R_isWaiting_12 (by decide) (fun h12 => ?_) (fun h12 => ?_)
    · rw [if_pos h12] at hF
      refine lv_iconst (v := 0) S.1 S.2.1 d_R_isWaiting_33 (by decide) ?_
      cases hF
      exact zr_zret S hret hlk (by decide) hS d_R_isWaiting_34 ⟨rfl, hP⟩
    · rw [if_neg h12] at hF
      refine lv_aload_n S.1 S.2.1 d_R_isWaiting_15 rfl (lv_at hl 0 rfl) ?_
      refine lv_iload_n S.1 S.2.1 d_R_isWaiting_16 rfl (lv_at hl 2 rfl) ?_
      by_cases g17 : zOut v3 n
      · rw [if_pos g17] at hF; cases hF
      rw [if_neg g17] at hF
      refine zr_zald S hK hP hk1 rfl 1 rfl g17 d_R_isWaiting_17 ?_
      refine lv_istore S.1 S.2.1 d_R_isWaiting_18 hl (by decide) rfl (fun ls hl => ?_)
      have hl : lv_has ls 5 [(4, .int (st 9 k1 (Int32.toNatClampNeg v3))), (1, .ref (ad (9, k1))), (2, .int v2), (3, .int v3)] := hl
      refine lv_iload S.1 S.2.1 d_R_isWaiting_20 (lv_at hl 0 rfl) ?_
      refine lv_if_eq (tgt := 27) S.1 S.2.1 d_R_isWaiting_22 (by decide) (fun h22 => ?_) (fun h22 => ?_)
      · rw [if_pos h22] at hF
        refine lv_iinc (k := 3) (v := v3 + 1) S.1 S.2.1 d_R_isWaiting_27 hl rfl rfl (by decide) rfl (fun ls hl => ?_)
        have hl : lv_has ls 5 [(3, .int (v3 + 1)), (4, .int (st 9 k1 (Int32.toNatClampNeg v3))), (1, .ref (ad (9, k1))), (2, .int v2)] := hl
        refine lv_goto (tgt := 10) S.1 S.2.1 d_R_isWaiting_30 (by decide) ?_
        exact ih k1 v2 (v3 + 1) hk1 st _ _ _ hP hS (lv_sub hl [2, 3, 0] rfl) hF
      · rw [if_neg h22] at hF
        refine lv_iconst (v := 1) S.1 S.2.1 d_R_isWaiting_25 (by decide) ?_
        cases hF
        exact zr_zret S hret hlk (by decide) hS d_R_isWaiting_26 ⟨rfl, hP⟩

set_option maxHeartbeats 4000000 in
set_option maxRecDepth 1000000 in
theorem C_R_isWaiting {dC : Nat → ClassId} {dI : Nat → Nat → Nat} {cI cZ cR cA : ClassId} {n : Nat} {ad : zK → Nat} {A : Nat → Prop} (hn : 2 ≤ n ∧ n ≤ 6) (hD : zD A (zKs n) ad) (l : Launch) (k0 : Nat) (hk0 : (7, k0) ∈ zKs n) (st : zS) (out : Int32 × zS) (hF : F_R_isWaiting n k0 st = some out) : zC zT (dC, dI) zcl (zty cI cZ cR cA) A l y_R_isWaiting b_R_isWaiting 5 (some .boolean) rm_R_isWaiting [.ref (ad (7, k0))] (fun H => zV (dC, dI) zcl (zKs n) ad (zcE n cI cZ cR cA ad) st H) (fun o H => o = some (.int out.1) ∧ zV (dC, dI) zcl (zKs n) ad (zcE n cI cZ cR cA ad) out.2 H) := by
  refine zC_of (by decide) (Nat.le_of_ble_eq_true rfl) (fun p e s m args below meth c ls S hret hlk hK hP hl => ?_)
  have hS : va_S A s.heap s.heap [] := va_S.rf
  have hl : lv_has ls 5 [(0, .ref (ad (7, k0)))] := hl
  have hP : zV (dC, dI) zcl (zKs n) ad (zcE n cI cZ cR cA ad) st s.heap := hP
  unfold F_R_isWaiting at hF
  refine lv_aload_n S.1 S.2.1 d_R_isWaiting_0 rfl (lv_at hl 0 rfl) ?_
  refine zr_get (v := .ref (ad (9, k0))) S zi_R hK hP hk0 rfl rfl 4 (by decide) zx_45 rfl d_R_isWaiting_1 ?_
  refine lv_astore_n S.1 S.2.1 d_R_isWaiting_4 rfl hl (by decide) rfl (fun ls hl => ?_)
  have hl : lv_has ls 5 [(1, .ref (ad (9, k0))), (0, .ref (ad (7, k0)))] := hl
  refine lv_aload_n S.1 S.2.1 d_R_isWaiting_5 rfl (lv_at hl 0 rfl) ?_
  refine zr_alen (n := n) S hK hP (zk_97 hk0) rfl 1 rfl rfl d_R_isWaiting_6 ?_
  refine lv_istore_n S.1 S.2.1 d_R_isWaiting_7 rfl hl (by decide) rfl (fun ls hl => ?_)
  have hl : lv_has ls 5 [(2, .int (nI n)), (1, .ref (ad (9, k0))), (0, .ref (ad (7, k0)))] := hl
  refine lv_iconst (v := 0) S.1 S.2.1 d_R_isWaiting_8 (by decide) ?_
  refine lv_istore_n S.1 S.2.1 d_R_isWaiting_9 rfl hl (by decide) rfl (fun ls hl => ?_)
  have hl : lv_has ls 5 [(3, .int 0), (2, .int (nI n)), (1, .ref (ad (9, k0))), (0, .ref (ad (7, k0)))] := hl
  exact T_R_isWaiting_L10 hn hD S hret hlk hK out zFuel k0 (nI n) 0 (zk_97 hk0) st _ _ _ hP hS (lv_sub hl [2, 1, 0] rfl) hF

theorem d_R_calmDown_0 : decode b_R_calmDown 0 = .ok (.aload_n 0, 1) := by decide +kernel
theorem d_R_calmDown_1 : decode b_R_calmDown 1 = .ok (.iconst 0, 1) := by decide +kernel
theorem d_R_calmDown_2 : decode b_R_calmDown 2 = .ok (.putfield 65, 3) := by decide +kernel
theorem d_R_calmDown_5 : decode b_R_calmDown 5 = .ok (.aload_n 0, 1) := by decide +kernel
theorem d_R_calmDown_6 : decode b_R_calmDown 6 = .ok (.iconst 0, 1) := by decide +kernel
theorem d_R_calmDown_7 : decode b_R_calmDown 7 = .ok (.putfield 68, 3) := by decide +kernel
theorem d_R_calmDown_10 : decode b_R_calmDown 10 = .ok (.aload_n 0, 1) := by decide +kernel
theorem d_R_calmDown_11 : decode b_R_calmDown 11 = .ok (.iconst 0, 1) := by decide +kernel
theorem d_R_calmDown_12 : decode b_R_calmDown 12 = .ok (.putfield 61, 3) := by decide +kernel
theorem d_R_calmDown_15 : decode b_R_calmDown 15 = .ok (.return_, 1) := by decide +kernel
def F_R_calmDown_s3 (n : Nat) (st : zS) : Option (Int32 × zS) :=
    some (0, st)

def F_R_calmDown_s2 (n : Nat) (k0 : Nat) (st : zS) : Option (Int32 × zS) :=
    F_R_calmDown_s3 n (zs st 7 k0 5 0)

def F_R_calmDown_s1 (n : Nat) (k0 : Nat) (st : zS) : Option (Int32 × zS) :=
    F_R_calmDown_s2 n k0 (zs st 7 k0 4 0)

def F_R_calmDown (n : Nat) (k0 : Nat) (st : zS) : Option (Int32 × zS) :=
    F_R_calmDown_s1 n k0 (zs st 7 k0 3 0)

set_option maxHeartbeats 4000000 in
set_option maxRecDepth 1000000 in
theorem C_R_calmDown {dC : Nat → ClassId} {dI : Nat → Nat → Nat} {cI cZ cR cA : ClassId} {n : Nat} {ad : zK → Nat} {A : Nat → Prop} (hn : 2 ≤ n ∧ n ≤ 6) (hD : zD A (zKs n) ad) (l : Launch) (k0 : Nat) (hk0 : (7, k0) ∈ zKs n) (st : zS) (out : Int32 × zS) (hF : F_R_calmDown n k0 st = some out) : zC zT (dC, dI) zcl (zty cI cZ cR cA) A l y_R_calmDown b_R_calmDown 1 (none) rm_R_calmDown [.ref (ad (7, k0))] (fun H => zV (dC, dI) zcl (zKs n) ad (zcE n cI cZ cR cA ad) st H) (fun o H => o = none ∧ zV (dC, dI) zcl (zKs n) ad (zcE n cI cZ cR cA ad) out.2 H) := by
  refine zC_of (by decide) (Nat.le_of_ble_eq_true rfl) (fun p e s m args below meth c ls S hret hlk hK hP hl => ?_)
  have hS : va_S A s.heap s.heap [] := va_S.rf
  have hl : lv_has ls 1 [(0, .ref (ad (7, k0)))] := hl
  have hP : zV (dC, dI) zcl (zKs n) ad (zcE n cI cZ cR cA ad) st s.heap := hP
  unfold F_R_calmDown at hF
  refine lv_aload_n S.1 S.2.1 d_R_calmDown_0 rfl (lv_at hl 0 rfl) ?_
  refine lv_iconst (v := 0) S.1 S.2.1 d_R_calmDown_1 (by decide) ?_
  refine zr_put (v := 0) S zi_R t_R t_R_ok n_R hK hP hD hS hk0 rfl rfl 8 (by decide) zx_50 rfl rfl rfl (Nat.le_of_ble_eq_true rfl) 3 rfl d_R_calmDown_2 (fun H locs hP hS => ?_)
  replace hF : F_R_calmDown_s1 n k0 (zs st 7 k0 3 0) = some out := hF
  generalize zs st 7 k0 3 0 = st5 at hP hF
  unfold F_R_calmDown_s1 at hF
  refine lv_aload_n S.1 S.2.1 d_R_calmDown_5 rfl (lv_at hl 0 rfl) ?_
  refine lv_iconst (v := 0) S.1 S.2.1 d_R_calmDown_6 (by decide) ?_
  refine zr_put (v := 0) S zi_R t_R t_R_ok n_R hK hP hD hS hk0 rfl rfl 9 (by decide) zx_51 rfl rfl rfl (Nat.le_of_ble_eq_true rfl) 4 rfl d_R_calmDown_7 (fun H locs hP hS => ?_)
  replace hF : F_R_calmDown_s2 n k0 (zs st5 7 k0 4 0) = some out := hF
  generalize zs st5 7 k0 4 0 = st10 at hP hF
  unfold F_R_calmDown_s2 at hF
  refine lv_aload_n S.1 S.2.1 d_R_calmDown_10 rfl (lv_at hl 0 rfl) ?_
  refine lv_iconst (v := 0) S.1 S.2.1 d_R_calmDown_11 (by decide) ?_
  refine zr_put (v := 0) S zi_R t_R t_R_ok n_R hK hP hD hS hk0 rfl rfl 10 (by decide) zx_49 rfl rfl rfl (Nat.le_of_ble_eq_true rfl) 5 rfl d_R_calmDown_12 (fun H locs hP hS => ?_)
  replace hF : F_R_calmDown_s3 n (zs st10 7 k0 5 0) = some out := hF
  generalize zs st10 7 k0 5 0 = st15 at hP hF
  unfold F_R_calmDown_s3 at hF
  cases hF
  exact zr_vret S hret hlk hS d_R_calmDown_15 ⟨rfl, hP⟩

theorem d_D_endIfDone_0 : decode b_D_endIfDone 0 = .ok (.iconst 0, 1) := by decide +kernel
theorem d_D_endIfDone_1 : decode b_D_endIfDone 1 = .ok (.istore_n 2, 1) := by decide +kernel
theorem d_D_endIfDone_2 : decode b_D_endIfDone 2 = .ok (.iload_n 2, 1) := by decide +kernel
theorem d_D_endIfDone_3 : decode b_D_endIfDone 3 = .ok (.iconst 2, 1) := by decide +kernel
theorem d_D_endIfDone_4 : decode b_D_endIfDone 4 = .ok (.if_icmp .ge 97, 3) := by decide +kernel
theorem d_D_endIfDone_7 : decode b_D_endIfDone 7 = .ok (.aload_n 1, 1) := by decide +kernel
theorem d_D_endIfDone_8 : decode b_D_endIfDone 8 = .ok (.getfield 98, 3) := by decide +kernel
theorem d_D_endIfDone_11 : decode b_D_endIfDone 11 = .ok (.ifCond .eq 90, 3) := by decide +kernel
theorem d_D_endIfDone_14 : decode b_D_endIfDone 14 = .ok (.aload_n 1, 1) := by decide +kernel
theorem d_D_endIfDone_15 : decode b_D_endIfDone 15 = .ok (.invokevirtual 184, 3) := by decide +kernel
theorem d_D_endIfDone_18 : decode b_D_endIfDone 18 = .ok (.ifCond .ne 83, 3) := by decide +kernel
theorem d_D_endIfDone_21 : decode b_D_endIfDone 21 = .ok (.aload_n 1, 1) := by decide +kernel
theorem d_D_endIfDone_22 : decode b_D_endIfDone 22 = .ok (.getfield 105, 3) := by decide +kernel
theorem d_D_endIfDone_25 : decode b_D_endIfDone 25 = .ok (.ifCond .eq 10, 3) := by decide +kernel
theorem d_D_endIfDone_28 : decode b_D_endIfDone 28 = .ok (.aload_n 1, 1) := by decide +kernel
theorem d_D_endIfDone_29 : decode b_D_endIfDone 29 = .ok (.getfield 95, 3) := by decide +kernel
theorem d_D_endIfDone_32 : decode b_D_endIfDone 32 = .ok (.goto 4, 3) := by decide +kernel
theorem d_D_endIfDone_35 : decode b_D_endIfDone 35 = .ok (.iconst (-1), 1) := by decide +kernel
theorem d_D_endIfDone_36 : decode b_D_endIfDone 36 = .ok (.istore_n 3, 1) := by decide +kernel
theorem d_D_endIfDone_37 : decode b_D_endIfDone 37 = .ok (.aload_n 1, 1) := by decide +kernel
theorem d_D_endIfDone_38 : decode b_D_endIfDone 38 = .ok (.getfield 102, 3) := by decide +kernel
theorem d_D_endIfDone_41 : decode b_D_endIfDone 41 = .ok (.ifCond .ne 10, 3) := by decide +kernel
theorem d_D_endIfDone_44 : decode b_D_endIfDone 44 = .ok (.aload_n 1, 1) := by decide +kernel
theorem d_D_endIfDone_45 : decode b_D_endIfDone 45 = .ok (.sipush 10000, 3) := by decide +kernel
theorem d_D_endIfDone_48 : decode b_D_endIfDone 48 = .ok (.putfield 92, 3) := by decide +kernel
theorem d_D_endIfDone_51 : decode b_D_endIfDone 51 = .ok (.aload_n 1, 1) := by decide +kernel
theorem d_D_endIfDone_52 : decode b_D_endIfDone 52 = .ok (.invokevirtual 172, 3) := by decide +kernel
theorem d_D_endIfDone_55 : decode b_D_endIfDone 55 = .ok (.ifCond .eq 31, 3) := by decide +kernel
theorem d_D_endIfDone_58 : decode b_D_endIfDone 58 = .ok (.aload_n 1, 1) := by decide +kernel
theorem d_D_endIfDone_59 : decode b_D_endIfDone 59 = .ok (.invokevirtual 187, 3) := by decide +kernel
theorem d_D_endIfDone_62 : decode b_D_endIfDone 62 = .ok (.iload_n 3, 1) := by decide +kernel
theorem d_D_endIfDone_63 : decode b_D_endIfDone 63 = .ok (.iconst (-1), 1) := by decide +kernel
theorem d_D_endIfDone_64 : decode b_D_endIfDone 64 = .ok (.if_icmp .eq 13, 3) := by decide +kernel
theorem d_D_endIfDone_67 : decode b_D_endIfDone 67 = .ok (.aload_n 0, 1) := by decide +kernel
theorem d_D_endIfDone_68 : decode b_D_endIfDone 68 = .ok (.getfield 39, 3) := by decide +kernel
theorem d_D_endIfDone_71 : decode b_D_endIfDone 71 = .ok (.aload_n 1, 1) := by decide +kernel
theorem d_D_endIfDone_72 : decode b_D_endIfDone 72 = .ok (.iload_n 3, 1) := by decide +kernel
theorem d_D_endIfDone_73 : decode b_D_endIfDone 73 = .ok (.iconst 2, 1) := by decide +kernel
theorem d_D_endIfDone_74 : decode b_D_endIfDone 74 = .ok (.invokevirtual 137, 3) := by decide +kernel
theorem d_D_endIfDone_77 : decode b_D_endIfDone 77 = .ok (.aload_n 0, 1) := by decide +kernel
theorem d_D_endIfDone_78 : decode b_D_endIfDone 78 = .ok (.aload_n 1, 1) := by decide +kernel
theorem d_D_endIfDone_79 : decode b_D_endIfDone 79 = .ok (.iload_n 3, 1) := by decide +kernel
theorem d_D_endIfDone_80 : decode b_D_endIfDone 80 = .ok (.invokevirtual 175, 3) := by decide +kernel
theorem d_D_endIfDone_83 : decode b_D_endIfDone 83 = .ok (.goto 12, 3) := by decide +kernel
theorem d_D_endIfDone_86 : decode b_D_endIfDone 86 = .ok (.aload_n 1, 1) := by decide +kernel
theorem d_D_endIfDone_87 : decode b_D_endIfDone 87 = .ok (.invokevirtual 178, 3) := by decide +kernel
theorem d_D_endIfDone_90 : decode b_D_endIfDone 90 = .ok (.aload_n 0, 1) := by decide +kernel
theorem d_D_endIfDone_91 : decode b_D_endIfDone 91 = .ok (.aload_n 1, 1) := by decide +kernel
theorem d_D_endIfDone_92 : decode b_D_endIfDone 92 = .ok (.invokevirtual 181, 3) := by decide +kernel
theorem d_D_endIfDone_95 : decode b_D_endIfDone 95 = .ok (.iinc 2 1, 3) := by decide +kernel
theorem d_D_endIfDone_98 : decode b_D_endIfDone 98 = .ok (.goto (-96), 3) := by decide +kernel
theorem d_D_endIfDone_101 : decode b_D_endIfDone 101 = .ok (.return_, 1) := by decide +kernel
def F_D_endIfDone_L95 (n : Nat) (c2 : Nat → Int32 → zS → Option (Int32 × zS)) (k1 : Nat) (v2 : Int32) (st : zS) : Option (Int32 × zS) :=
    c2 k1 (v2 + 1) st

def F_D_endIfDone_L77_s1 (n : Nat) (c2 : Nat → Int32 → zS → Option (Int32 × zS)) (k1 : Nat) (v2 : Int32) (st : zS) : Option (Int32 × zS) :=
    F_D_endIfDone_L95 n c2 k1 v2 st

def F_D_endIfDone_L77 (n : Nat) (c2 : Nat → Int32 → zS → Option (Int32 × zS)) (k1 : Nat) (v2 : Int32) (v3 : Int32) (st : zS) : Option (Int32 × zS) :=
    (F_D_updateAllBut n k1 v3 st).bind (fun u => F_D_endIfDone_L77_s1 n c2 k1 v2 u.2)

def F_D_endIfDone_L51_s3 (n : Nat) (c2 : Nat → Int32 → zS → Option (Int32 × zS)) (k1 : Nat) (v2 : Int32) (st : zS) : Option (Int32 × zS) :=
    F_D_endIfDone_L95 n c2 k1 v2 st

def F_D_endIfDone_L51_s2 (n : Nat) (c2 : Nat → Int32 → zS → Option (Int32 × zS)) (k1 : Nat) (v2 : Int32) (st : zS) : Option (Int32 × zS) :=
    (F_D_askAll n k1 st).bind (fun u => F_D_endIfDone_L51_s3 n c2 k1 v2 u.2)

def F_D_endIfDone_L51_s5 (n : Nat) (c2 : Nat → Int32 → zS → Option (Int32 × zS)) (k1 : Nat) (v2 : Int32) (v3 : Int32) (st : zS) : Option (Int32 × zS) :=
    F_D_endIfDone_L77 n c2 k1 v2 v3 st

def F_D_endIfDone_L51_s4 (n : Nat) (c2 : Nat → Int32 → zS → Option (Int32 × zS)) (k1 : Nat) (v2 : Int32) (v3 : Int32) (st : zS) : Option (Int32 × zS) :=
    if v3 = (-1) then (F_D_endIfDone_L77 n c2 k1 v2 v3 st) else ((F_L_send n k1 v3 2 st).bind (fun u => F_D_endIfDone_L51_s5 n c2 k1 v2 v3 u.2))

def F_D_endIfDone_L51_s1 (n : Nat) (c2 : Nat → Int32 → zS → Option (Int32 × zS)) (k1 : Nat) (v2 : Int32) (v3 : Int32) (t0 : Int32) (st : zS) : Option (Int32 × zS) :=
    if t0 = 0 then ((F_R_measureAnew n k1 st).bind (fun u => F_D_endIfDone_L51_s2 n c2 k1 v2 u.2)) else ((F_R_calmDown n k1 st).bind (fun u => F_D_endIfDone_L51_s4 n c2 k1 v2 v3 u.2))

def F_D_endIfDone_L51 (n : Nat) (c2 : Nat → Int32 → zS → Option (Int32 × zS)) (k1 : Nat) (v2 : Int32) (v3 : Int32) (st : zS) : Option (Int32 × zS) :=
    (F_R_takeBest n k1 st).bind (fun u => F_D_endIfDone_L51_s1 n c2 k1 v2 v3 u.1 u.2)

def F_D_endIfDone_L36_s1 (n : Nat) (c2 : Nat → Int32 → zS → Option (Int32 × zS)) (v3 : Int32) (k1 : Nat) (v2 : Int32) (st : zS) : Option (Int32 × zS) :=
    F_D_endIfDone_L51 n c2 k1 v2 v3 st

def F_D_endIfDone_L36 (n : Nat) (c2 : Nat → Int32 → zS → Option (Int32 × zS)) (k1 : Nat) (v2 : Int32) (t0 : Int32) (st : zS) : Option (Int32 × zS) :=
    if (st 7 k1 5) = 0 then (F_D_endIfDone_L36_s1 n c2 t0 k1 v2 (zs st 7 k1 1 10000)) else (F_D_endIfDone_L51 n c2 k1 v2 t0 st)

def F_D_endIfDone_L2_s1 (n : Nat) (c2 : Nat → Int32 → zS → Option (Int32 × zS)) (k1 : Nat) (v2 : Int32) (t0 : Int32) (st : zS) : Option (Int32 × zS) :=
    if t0 = 0 then (if (st 7 k1 4) = 0 then (F_D_endIfDone_L36 n c2 k1 v2 (-1) st) else (F_D_endIfDone_L36 n c2 k1 v2 (st 7 k1 2) st)) else (some (0, st))

def F_D_endIfDone_L2 (n : Nat) : Nat → Nat → Int32 → zS → Option (Int32 × zS)
  | 0, _, _, _ => none
  | f + 1, k1, v2, st =>
    if 2 ≤ v2 then (some (0, st)) else (if (st 7 k1 3) = 0 then (some (0, st)) else ((F_R_isWaiting n k1 st).bind (fun u => F_D_endIfDone_L2_s1 n (F_D_endIfDone_L2 n f) k1 v2 u.1 u.2)))

def F_D_endIfDone (n : Nat) (k1 : Nat) (st : zS) : Option (Int32 × zS) :=
    F_D_endIfDone_L2 n zFuel k1 0 st

set_option maxHeartbeats 4000000 in
set_option maxRecDepth 1000000 in
theorem T_D_endIfDone_L95 {dC : Nat → ClassId} {dI : Nat → Nat → Nat} {cI cZ cR cA : ClassId} {n : Nat} {ad : zK → Nat} {A : Nat → Prop} (hn : 2 ≤ n ∧ n ≤ 6) (hD : zD A (zKs n) ad) {p : Program} {l : Launch} {e : Env} {s : State} {m : MethodId} {args : Array Value} {below : List Frame} {meth : Method} {c : Code} (S : CallFix p m c b_D_endIfDone 4 s args zT N_D) (hret : meth.sig.returnType = none) (hlk : meth.locks = false) (hK : va_K (dC, dI) zcl (zty cI cZ cR cA) s) (out : Int32 × zS) (c2 : Nat → Int32 → zS → Option (Int32 × zS)) (hc2 : ∀ (k1 : Nat) (v2 : Int32) (hk1 : (7, k1) ∈ zKs n) (st : zS) (H : Heap) (locs : List Loc) (ls : Array Slot), zV (dC, dI) zcl (zKs n) ad (zcE n cI cZ cR cA ad) st H → va_S A s.heap H locs → lv_has ls 4 [(0, .ref (ad (0, 0))), (1, .ref (ad (7, k1))), (2, .int v2)] → c2 k1 v2 st = some out → W p l e rm_D_endIfDone s m args below meth c H locs 0 0 (zQ below A (fun o H => o = none ∧ zV (dC, dI) zcl (zKs n) ad (zcE n cI cZ cR cA ad) out.2 H) args s) (F0 m 2 ls [])) (k1 : Nat) (v2 : Int32) (hk1 : (7, k1) ∈ zKs n) (st : zS) (H : Heap) (locs : List Loc) (ls : Array Slot) (hP : zV (dC, dI) zcl (zKs n) ad (zcE n cI cZ cR cA ad) st H) (hS : va_S A s.heap H locs) (hl : lv_has ls 4 [(0, .ref (ad (0, 0))), (1, .ref (ad (7, k1))), (2, .int v2)]) (hF : F_D_endIfDone_L95 n c2 k1 v2 st = some out) : W p l e rm_D_endIfDone s m args below meth c H locs 0 0 (zQ below A (fun o H => o = none ∧ zV (dC, dI) zcl (zKs n) ad (zcE n cI cZ cR cA ad) out.2 H) args s) (F0 m 95 ls []) := by
  unfold F_D_endIfDone_L95 at hF
  refine lv_iinc (k := 2) (v := v2 + 1) S.1 S.2.1 d_D_endIfDone_95 hl rfl rfl (by decide) rfl (fun ls hl => ?_)
  have hl : lv_has ls 4 [(2, .int (v2 + 1)), (0, .ref (ad (0, 0))), (1, .ref (ad (7, k1)))] := hl
  refine lv_goto (tgt := 2) S.1 S.2.1 d_D_endIfDone_98 (by decide) ?_
  exact hc2 k1 (v2 + 1) hk1 st _ _ _ hP hS (lv_sub hl [1, 2, 0] rfl) hF

set_option maxHeartbeats 4000000 in
set_option maxRecDepth 1000000 in
theorem T_D_endIfDone_L77 {dC : Nat → ClassId} {dI : Nat → Nat → Nat} {cI cZ cR cA : ClassId} {n : Nat} {ad : zK → Nat} {A : Nat → Prop} (hn : 2 ≤ n ∧ n ≤ 6) (hD : zD A (zKs n) ad) {p : Program} {l : Launch} {e : Env} {s : State} {m : MethodId} {args : Array Value} {below : List Frame} {meth : Method} {c : Code} (S : CallFix p m c b_D_endIfDone 4 s args zT N_D) (hret : meth.sig.returnType = none) (hlk : meth.locks = false) (hK : va_K (dC, dI) zcl (zty cI cZ cR cA) s) (out : Int32 × zS) (c2 : Nat → Int32 → zS → Option (Int32 × zS)) (hc2 : ∀ (k1 : Nat) (v2 : Int32) (hk1 : (7, k1) ∈ zKs n) (st : zS) (H : Heap) (locs : List Loc) (ls : Array Slot), zV (dC, dI) zcl (zKs n) ad (zcE n cI cZ cR cA ad) st H → va_S A s.heap H locs → lv_has ls 4 [(0, .ref (ad (0, 0))), (1, .ref (ad (7, k1))), (2, .int v2)] → c2 k1 v2 st = some out → W p l e rm_D_endIfDone s m args below meth c H locs 0 0 (zQ below A (fun o H => o = none ∧ zV (dC, dI) zcl (zKs n) ad (zcE n cI cZ cR cA ad) out.2 H) args s) (F0 m 2 ls [])) (k1 : Nat) (v2 : Int32) (v3 : Int32) (hk1 : (7, k1) ∈ zKs n) (st : zS) (H : Heap) (locs : List Loc) (ls : Array Slot) (hP : zV (dC, dI) zcl (zKs n) ad (zcE n cI cZ cR cA ad) st H) (hS : va_S A s.heap H locs) (hl : lv_has ls 4 [(0, .ref (ad (0, 0))), (1, .ref (ad (7, k1))), (2, .int v2), (3, .int v3)]) (hF : F_D_endIfDone_L77 n c2 k1 v2 v3 st = some out) : W p l e rm_D_endIfDone s m args below meth c H locs 0 0 (zQ below A (fun o H => o = none ∧ zV (dC, dI) zcl (zKs n) ad (zcE n cI cZ cR cA ad) out.2 H) args s) (F0 m 77 ls []) := by
  unfold F_D_endIfDone_L77 at hF
  refine lv_aload_n S.1 S.2.1 d_D_endIfDone_77 rfl (lv_at hl 0 rfl) ?_
  refine lv_aload_n S.1 S.2.1 d_D_endIfDone_78 rfl (lv_at hl 1 rfl) ?_
  refine lv_iload_n S.1 S.2.1 d_D_endIfDone_79 rfl (lv_at hl 3 rfl) ?_
  cases hc80 : F_D_updateAllBut n k1 v3 st with
  | none => rw [hc80] at hF; cases hF
  | some u80 =>
    obtain ⟨r80, st80⟩ := u80
    rw [hc80] at hF
    replace hF := zbind hF
    refine zr_callV (rest := []) S zT_good (C_D_updateAllBut hn hD l k1 v3 hk1 st (r80, st80) hc80) zn_D_updateAllBut zx_72 ⟨rfl, rfl⟩ ⟨Nat.le_of_ble_eq_true rfl, Nat.le_of_ble_eq_true rfl⟩ ⟨Nat.zero_le _, Nat.zero_le _⟩ hK (zr_recv hK hP zk_0 rfl rfl) hP hl.1 (Nat.le_of_ble_eq_true rfl) hS (fun _ h => h) d_D_endIfDone_80 rfl (fun o H locs hpo _ _ hS => ?_)
    obtain ⟨rfl, hP⟩ := hpo
    refine W.eq (g2 := F0 m 83 ls []) rfl ?_
    replace hF : F_D_endIfDone_L77_s1 n c2 k1 v2 st80 = some out := hF
    replace hP : zV (dC, dI) zcl (zKs n) ad (zcE n cI cZ cR cA ad) st80 H := hP
    unfold F_D_endIfDone_L77_s1 at hF
    refine lv_goto (tgt := 95) S.1 S.2.1 d_D_endIfDone_83 (by decide) ?_
    exact T_D_endIfDone_L95 hn hD S hret hlk hK out c2 hc2 k1 v2 hk1 st80 _ _ _ hP hS (lv_sub hl [0, 1, 2] rfl) hF

set_option maxHeartbeats 4000000 in
set_option maxRecDepth 1000000 in
theorem T_D_endIfDone_L51 {dC : Nat → ClassId} {dI : Nat → Nat → Nat} {cI cZ cR cA : ClassId} {n : Nat} {ad : zK → Nat} {A : Nat → Prop} (hn : 2 ≤ n ∧ n ≤ 6) (hD : zD A (zKs n) ad) {p : Program} {l : Launch} {e : Env} {s : State} {m : MethodId} {args : Array Value} {below : List Frame} {meth : Method} {c : Code} (S : CallFix p m c b_D_endIfDone 4 s args zT N_D) (hret : meth.sig.returnType = none) (hlk : meth.locks = false) (hK : va_K (dC, dI) zcl (zty cI cZ cR cA) s) (out : Int32 × zS) (c2 : Nat → Int32 → zS → Option (Int32 × zS)) (hc2 : ∀ (k1 : Nat) (v2 : Int32) (hk1 : (7, k1) ∈ zKs n) (st : zS) (H : Heap) (locs : List Loc) (ls : Array Slot), zV (dC, dI) zcl (zKs n) ad (zcE n cI cZ cR cA ad) st H → va_S A s.heap H locs → lv_has ls 4 [(0, .ref (ad (0, 0))), (1, .ref (ad (7, k1))), (2, .int v2)] → c2 k1 v2 st = some out → W p l e rm_D_endIfDone s m args below meth c H locs 0 0 (zQ below A (fun o H => o = none ∧ zV (dC, dI) zcl (zKs n) ad (zcE n cI cZ cR cA ad) out.2 H) args s) (F0 m 2 ls [])) (k1 : Nat) (v2 : Int32) (v3 : Int32) (hk1 : (7, k1) ∈ zKs n) (st : zS) (H : Heap) (locs : List Loc) (ls : Array Slot) (hP : zV (dC, dI) zcl (zKs n) ad (zcE n cI cZ cR cA ad) st H) (hS : va_S A s.heap H locs) (hl : lv_has ls 4 [(0, .ref (ad (0, 0))), (1, .ref (ad (7, k1))), (2, .int v2), (3, .int v3)]) (hF : F_D_endIfDone_L51 n c2 k1 v2 v3 st = some out) : W p l e rm_D_endIfDone s m args below meth c H locs 0 0 (zQ below A (fun o H => o = none ∧ zV (dC, dI) zcl (zKs n) ad (zcE n cI cZ cR cA ad) out.2 H) args s) (F0 m 51 ls []) := by
  unfold F_D_endIfDone_L51 at hF
  refine lv_aload_n S.1 S.2.1 d_D_endIfDone_51 rfl (lv_at hl 1 rfl) ?_
  cases hc52 : F_R_takeBest n k1 st with
  | none => rw [hc52] at hF; cases hF
  | some u52 =>
    obtain ⟨r52, st52⟩ := u52
    rw [hc52] at hF
    replace hF := zbind hF
    refine zr_callV (rest := []) S zT_good (C_R_takeBest hn hD l k1 hk1 st (r52, st52) hc52) zn_R_takeBest zx_71 ⟨rfl, rfl⟩ ⟨Nat.le_of_ble_eq_true rfl, Nat.le_of_ble_eq_true rfl⟩ ⟨Nat.zero_le _, Nat.zero_le _⟩ hK (zr_recv hK hP hk1 rfl rfl) hP hl.1 (Nat.le_of_ble_eq_true rfl) hS (fun _ h => h) d_D_endIfDone_52 rfl (fun o H locs hpo _ _ hS => ?_)
    obtain ⟨rfl, hP⟩ := hpo
    refine W.eq (g2 := F0 m 55 ls [.int r52]) rfl ?_
    replace hF : F_D_endIfDone_L51_s1 n c2 k1 v2 v3 r52 st52 = some out := hF
    replace hP : zV (dC, dI) zcl (zKs n) ad (zcE n cI cZ cR cA ad) st52 H := hP
    unfold F_D_endIfDone_L51_s1 at hF
    refine lv_if_eq (tgt := 86) S.1 S.2.1 d_D_endIfDone_55 (by decide) (fun h55 => ?_) (fun h55 => ?_)
    · rw [if_pos h55] at hF
      refine lv_aload_n S.1 S.2.1 d_D_endIfDone_86 rfl (lv_at hl 1 rfl) ?_
      cases hc87 : F_R_measureAnew n k1 st52 with
      | none => rw [hc87] at hF; cases hF
      | some u87 =>
        obtain ⟨r87, st87⟩ := u87
        rw [hc87] at hF
        replace hF := zbind hF
        refine zr_callV (rest := []) S zT_good (C_R_measureAnew hn hD l k1 hk1 st52 (r87, st87) hc87) zn_R_measureAnew zx_73 ⟨rfl, rfl⟩ ⟨Nat.le_of_ble_eq_true rfl, Nat.le_of_ble_eq_true rfl⟩ ⟨Nat.zero_le _, Nat.zero_le _⟩ hK (zr_recv hK hP hk1 rfl rfl) hP hl.1 (Nat.le_of_ble_eq_true rfl) hS (fun _ h => h) d_D_endIfDone_87 rfl (fun o H locs hpo _ _ hS => ?_)
        obtain ⟨rfl, hP⟩ := hpo
        refine W.eq (g2 := F0 m 90 ls []) rfl ?_
        replace hF : F_D_endIfDone_L51_s2 n c2 k1 v2 st87 = some out := hF
        replace hP : zV (dC, dI) zcl (zKs n) ad (zcE n cI cZ cR cA ad) st87 H := hP
        unfold F_D_endIfDone_L51_s2 at hF
        refine lv_aload_n S.1 S.2.1 d_D_endIfDone_90 rfl (lv_at hl 0 rfl) ?_
        refine lv_aload_n S.1 S.2.1 d_D_endIfDone_91 rfl (lv_at hl 1 rfl) ?_
        cases hc92 : F_D_askAll n k1 st87 with
        | none => rw [hc92] at hF; cases hF
        | some u92 =>
          obtain ⟨r92, st92⟩ := u92
          rw [hc92] at hF
          replace hF := zbind hF
          refine zr_callV (rest := []) S zT_good (C_D_askAll hn hD l k1 hk1 st87 (r92, st92) hc92) zn_D_askAll zx_74 ⟨rfl, rfl⟩ ⟨Nat.le_of_ble_eq_true rfl, Nat.le_of_ble_eq_true rfl⟩ ⟨Nat.zero_le _, Nat.zero_le _⟩ hK (zr_recv hK hP zk_0 rfl rfl) hP hl.1 (Nat.le_of_ble_eq_true rfl) hS (fun _ h => h) d_D_endIfDone_92 rfl (fun o H locs hpo _ _ hS => ?_)
          obtain ⟨rfl, hP⟩ := hpo
          refine W.eq (g2 := F0 m 95 ls []) rfl ?_
          replace hF : F_D_endIfDone_L51_s3 n c2 k1 v2 st92 = some out := hF
          replace hP : zV (dC, dI) zcl (zKs n) ad (zcE n cI cZ cR cA ad) st92 H := hP
          unfold F_D_endIfDone_L51_s3 at hF
          exact T_D_endIfDone_L95 hn hD S hret hlk hK out c2 hc2 k1 v2 hk1 st92 _ _ _ hP hS (lv_sub hl [0, 1, 2] rfl) hF
    · rw [if_neg h55] at hF
      refine lv_aload_n S.1 S.2.1 d_D_endIfDone_58 rfl (lv_at hl 1 rfl) ?_
      cases hc59 : F_R_calmDown n k1 st52 with
      | none => rw [hc59] at hF; cases hF
      | some u59 =>
        obtain ⟨r59, st59⟩ := u59
        rw [hc59] at hF
        replace hF := zbind hF
        refine zr_callV (rest := []) S zT_good (C_R_calmDown hn hD l k1 hk1 st52 (r59, st59) hc59) zn_R_calmDown zx_76 ⟨rfl, rfl⟩ ⟨Nat.le_of_ble_eq_true rfl, Nat.le_of_ble_eq_true rfl⟩ ⟨Nat.zero_le _, Nat.zero_le _⟩ hK (zr_recv hK hP hk1 rfl rfl) hP hl.1 (Nat.le_of_ble_eq_true rfl) hS (fun _ h => h) d_D_endIfDone_59 rfl (fun o H locs hpo _ _ hS => ?_)
        obtain ⟨rfl, hP⟩ := hpo
        refine W.eq (g2 := F0 m 62 ls []) rfl ?_
        replace hF : F_D_endIfDone_L51_s4 n c2 k1 v2 v3 st59 = some out := hF
        replace hP : zV (dC, dI) zcl (zKs n) ad (zcE n cI cZ cR cA ad) st59 H := hP
        unfold F_D_endIfDone_L51_s4 at hF
        refine lv_iload_n S.1 S.2.1 d_D_endIfDone_62 rfl (lv_at hl 3 rfl) ?_
        refine lv_iconst (v := (-1)) S.1 S.2.1 d_D_endIfDone_63 (by decide) ?_
        refine lv_icmp_eq (tgt := 77) S.1 S.2.1 d_D_endIfDone_64 (by decide) (fun h64 => ?_) (fun h64 => ?_)
        · rw [if_pos h64] at hF
          exact T_D_endIfDone_L77 hn hD S hret hlk hK out c2 hc2 k1 v2 v3 hk1 st59 _ _ _ hP hS (lv_sub hl [0, 1, 2, 3] rfl) hF
        · rw [if_neg h64] at hF
          refine lv_aload_n S.1 S.2.1 d_D_endIfDone_67 rfl (lv_at hl 0 rfl) ?_
          refine zr_get (v := .ref (ad (3, 0))) S zi_D hK hP zk_0 rfl rfl 3 (by decide) zx_11 rfl d_D_endIfDone_68 ?_
          refine lv_aload_n S.1 S.2.1 d_D_endIfDone_71 rfl (lv_at hl 1 rfl) ?_
          refine lv_iload_n S.1 S.2.1 d_D_endIfDone_72 rfl (lv_at hl 3 rfl) ?_
          refine lv_iconst (v := 2) S.1 S.2.1 d_D_endIfDone_73 (by decide) ?_
          cases hc74 : F_L_send n k1 v3 2 st59 with
          | none => rw [hc74] at hF; cases hF
          | some u74 =>
            obtain ⟨r74, st74⟩ := u74
            rw [hc74] at hF
            replace hF := zbind hF
            refine zr_callV (rest := []) S zT_good (C_L_send hn hD l k1 v3 2 hk1 st59 (r74, st74) hc74) zn_L_send zx_60 ⟨rfl, rfl⟩ ⟨Nat.le_of_ble_eq_true rfl, Nat.le_of_ble_eq_true rfl⟩ ⟨Nat.zero_le _, Nat.zero_le _⟩ hK (zr_recv hK hP zk_3 rfl rfl) hP hl.1 (Nat.le_of_ble_eq_true rfl) hS (fun _ h => h) d_D_endIfDone_74 rfl (fun o H locs hpo _ _ hS => ?_)
            obtain ⟨rfl, hP⟩ := hpo
            refine W.eq (g2 := F0 m 77 ls []) rfl ?_
            replace hF : F_D_endIfDone_L51_s5 n c2 k1 v2 v3 st74 = some out := hF
            replace hP : zV (dC, dI) zcl (zKs n) ad (zcE n cI cZ cR cA ad) st74 H := hP
            unfold F_D_endIfDone_L51_s5 at hF
            exact T_D_endIfDone_L77 hn hD S hret hlk hK out c2 hc2 k1 v2 v3 hk1 st74 _ _ _ hP hS (lv_sub hl [0, 1, 2, 3] rfl) hF

set_option maxHeartbeats 4000000 in
set_option maxRecDepth 1000000 in
theorem T_D_endIfDone_L36 {dC : Nat → ClassId} {dI : Nat → Nat → Nat} {cI cZ cR cA : ClassId} {n : Nat} {ad : zK → Nat} {A : Nat → Prop} (hn : 2 ≤ n ∧ n ≤ 6) (hD : zD A (zKs n) ad) {p : Program} {l : Launch} {e : Env} {s : State} {m : MethodId} {args : Array Value} {below : List Frame} {meth : Method} {c : Code} (S : CallFix p m c b_D_endIfDone 4 s args zT N_D) (hret : meth.sig.returnType = none) (hlk : meth.locks = false) (hK : va_K (dC, dI) zcl (zty cI cZ cR cA) s) (out : Int32 × zS) (c2 : Nat → Int32 → zS → Option (Int32 × zS)) (hc2 : ∀ (k1 : Nat) (v2 : Int32) (hk1 : (7, k1) ∈ zKs n) (st : zS) (H : Heap) (locs : List Loc) (ls : Array Slot), zV (dC, dI) zcl (zKs n) ad (zcE n cI cZ cR cA ad) st H → va_S A s.heap H locs → lv_has ls 4 [(0, .ref (ad (0, 0))), (1, .ref (ad (7, k1))), (2, .int v2)] → c2 k1 v2 st = some out → W p l e rm_D_endIfDone s m args below meth c H locs 0 0 (zQ below A (fun o H => o = none ∧ zV (dC, dI) zcl (zKs n) ad (zcE n cI cZ cR cA ad) out.2 H) args s) (F0 m 2 ls [])) (k1 : Nat) (v2 : Int32) (t0 : Int32) (hk1 : (7, k1) ∈ zKs n) (st : zS) (H : Heap) (locs : List Loc) (ls : Array Slot) (hP : zV (dC, dI) zcl (zKs n) ad (zcE n cI cZ cR cA ad) st H) (hS : va_S A s.heap H locs) (hl : lv_has ls 4 [(0, .ref (ad (0, 0))), (1, .ref (ad (7, k1))), (2, .int v2)]) (hF : F_D_endIfDone_L36 n c2 k1 v2 t0 st = some out) : W p l e rm_D_endIfDone s m args below meth c H locs 0 0 (zQ below A (fun o H => o = none ∧ zV (dC, dI) zcl (zKs n) ad (zcE n cI cZ cR cA ad) out.2 H) args s) (F0 m 36 ls [.int t0]) := by
  unfold F_D_endIfDone_L36 at hF
  refine lv_istore_n S.1 S.2.1 d_D_endIfDone_36 rfl hl (by decide) rfl (fun ls hl => ?_)
  have hl : lv_has ls 4 [(3, .int t0), (0, .ref (ad (0, 0))), (1, .ref (ad (7, k1))), (2, .int v2)] := hl
  refine lv_aload_n S.1 S.2.1 d_D_endIfDone_37 rfl (lv_at hl 2 rfl) ?_
  refine zr_get (v := .int (st 7 k1 5)) S zi_R hK hP hk1 rfl rfl 10 (by decide) zx_2 rfl d_D_endIfDone_38 ?_
  refine lv_if_ne (tgt := 51) S.1 S.2.1 d_D_endIfDone_41 (by decide) (fun h41 => ?_) (fun h41 => ?_)
  · rw [if_neg h41] at hF
    exact T_D_endIfDone_L51 hn hD S hret hlk hK out c2 hc2 k1 v2 t0 hk1 st _ _ _ hP hS (lv_sub hl [1, 2, 3, 0] rfl) hF
  · rw [if_pos h41] at hF
    refine lv_aload_n S.1 S.2.1 d_D_endIfDone_44 rfl (lv_at hl 2 rfl) ?_
    refine lv_sipush (v := 10000) S.1 S.2.1 d_D_endIfDone_45 (by decide) ?_
    refine zr_put (v := 10000) S zi_R t_R t_R_ok n_R hK hP hD hS hk1 rfl rfl 6 (by decide) zx_15 rfl rfl rfl (Nat.le_of_ble_eq_true rfl) 1 rfl d_D_endIfDone_48 (fun H locs hP hS => ?_)
    replace hF : F_D_endIfDone_L36_s1 n c2 t0 k1 v2 (zs st 7 k1 1 10000) = some out := hF
    generalize zs st 7 k1 1 10000 = st51 at hP hF
    unfold F_D_endIfDone_L36_s1 at hF
    exact T_D_endIfDone_L51 hn hD S hret hlk hK out c2 hc2 k1 v2 t0 hk1 st51 _ _ _ hP hS (lv_sub hl [1, 2, 3, 0] rfl) hF

set_option maxHeartbeats 4000000 in
set_option maxRecDepth 1000000 in
theorem T_D_endIfDone_L2 {dC : Nat → ClassId} {dI : Nat → Nat → Nat} {cI cZ cR cA : ClassId} {n : Nat} {ad : zK → Nat} {A : Nat → Prop} (hn : 2 ≤ n ∧ n ≤ 6) (hD : zD A (zKs n) ad) {p : Program} {l : Launch} {e : Env} {s : State} {m : MethodId} {args : Array Value} {below : List Frame} {meth : Method} {c : Code} (S : CallFix p m c b_D_endIfDone 4 s args zT N_D) (hret : meth.sig.returnType = none) (hlk : meth.locks = false) (hK : va_K (dC, dI) zcl (zty cI cZ cR cA) s) (out : Int32 × zS) : ∀ (fu : Nat) (k1 : Nat) (v2 : Int32) (hk1 : (7, k1) ∈ zKs n) (st : zS) (H : Heap) (locs : List Loc) (ls : Array Slot) (hP : zV (dC, dI) zcl (zKs n) ad (zcE n cI cZ cR cA ad) st H) (hS : va_S A s.heap H locs) (hl : lv_has ls 4 [(0, .ref (ad (0, 0))), (1, .ref (ad (7, k1))), (2, .int v2)]) (hF : F_D_endIfDone_L2 n fu k1 v2 st = some out), W p l e rm_D_endIfDone s m args below meth c H locs 0 0 (zQ below A (fun o H => o = none ∧ zV (dC, dI) zcl (zKs n) ad (zcE n cI cZ cR cA ad) out.2 H) args s) (F0 m 2 ls []) := by
  intro fu
  induction fu with
  | zero => intro k1 v2 hk1 st H locs ls hP hS hl hF; rw [F_D_endIfDone_L2] at hF; cases hF
  | succ f ih =>
    intro k1 v2 hk1 st H locs ls hP hS hl hF
    rw [F_D_endIfDone_L2] at hF
    refine lv_iload_n S.1 S.2.1 d_D_endIfDone_2 rfl (lv_at hl 2 rfl) ?_
    refine lv_iconst (v := 2) S.1 S.2.1 d_D_endIfDone_3 (by decide) ?_
    refine lv_icmp_ge (tgt := 101) S.1 S.2.1 d_D_endIfDone_4 (by decide) (fun h4 => ?_) (fun h4 => ?_)
    · rw [if_pos h4] at hF
      cases hF
      exact zr_vret S hret hlk hS d_D_endIfDone_101 ⟨rfl, hP⟩
    · rw [if_neg h4] at hF
      refine lv_aload_n S.1 S.2.1 d_D_endIfDone_7 rfl (lv_at hl 1 rfl) ?_
      refine zr_get (v := .int (st 7 k1 3)) S zi_R hK hP hk1 rfl rfl 8 (by decide) zx_17 rfl d_D_endIfDone_8 ?_
      refine lv_if_eq (tgt := 101) S.1 S.2.1 d_D_endIfDone_11 (by decide) (fun h11 => ?_) (fun h11 => ?_)
      · rw [if_pos h11] at hF
        cases hF
        exact zr_vret S hret hlk hS d_D_endIfDone_101 ⟨rfl, hP⟩
      · rw [if_neg h11] at hF
        refine lv_aload_n S.1 S.2.1 d_D_endIfDone_14 rfl (lv_at hl 1 rfl) ?_
        cases hc15 : F_R_isWaiting n k1 st with
        | none => rw [hc15] at hF; cases hF
        | some u15 =>
          obtain ⟨r15, st15⟩ := u15
          rw [hc15] at hF
          replace hF := zbind hF
          refine zr_callV (rest := []) S zT_good (C_R_isWaiting hn hD l k1 hk1 st (r15, st15) hc15) zn_R_isWaiting zx_75 ⟨rfl, rfl⟩ ⟨Nat.le_of_ble_eq_true rfl, Nat.le_of_ble_eq_true rfl⟩ ⟨Nat.zero_le _, Nat.zero_le _⟩ hK (zr_recv hK hP hk1 rfl rfl) hP hl.1 (Nat.le_of_ble_eq_true rfl) hS (fun _ h => h) d_D_endIfDone_15 rfl (fun o H locs hpo _ _ hS => ?_)
          obtain ⟨rfl, hP⟩ := hpo
          refine W.eq (g2 := F0 m 18 ls [.int r15]) rfl ?_
          replace hF : F_D_endIfDone_L2_s1 n (F_D_endIfDone_L2 n f) k1 v2 r15 st15 = some out := hF
          replace hP : zV (dC, dI) zcl (zKs n) ad (zcE n cI cZ cR cA ad) st15 H := hP
          unfold F_D_endIfDone_L2_s1 at hF
          refine lv_if_ne (tgt := 101) S.1 S.2.1 d_D_endIfDone_18 (by decide) (fun h18 => ?_) (fun h18 => ?_)
          · rw [if_neg h18] at hF
            cases hF
            exact zr_vret S hret hlk hS d_D_endIfDone_101 ⟨rfl, hP⟩
          · rw [if_pos h18] at hF
            refine lv_aload_n S.1 S.2.1 d_D_endIfDone_21 rfl (lv_at hl 1 rfl) ?_
            refine zr_get (v := .int (st15 7 k1 4)) S zi_R hK hP hk1 rfl rfl 9 (by decide) zx_3 rfl d_D_endIfDone_22 ?_
            refine lv_if_eq (tgt := 35) S.1 S.2.1 d_D_endIfDone_25 (by decide) (fun h25 => ?_) (fun h25 => ?_)
            · rw [if_pos h25] at hF
              refine lv_iconst (v := (-1)) S.1 S.2.1 d_D_endIfDone_35 (by decide) ?_
              exact T_D_endIfDone_L36 hn hD S hret hlk hK out (F_D_endIfDone_L2 n f) ih k1 v2 (-1) hk1 st15 _ _ _ hP hS (lv_sub hl [0, 1, 2] rfl) hF
            · rw [if_neg h25] at hF
              refine lv_aload_n S.1 S.2.1 d_D_endIfDone_28 rfl (lv_at hl 1 rfl) ?_
              refine zr_get (v := .int (st15 7 k1 2)) S zi_R hK hP hk1 rfl rfl 7 (by decide) zx_16 rfl d_D_endIfDone_29 ?_
              refine lv_goto (tgt := 36) S.1 S.2.1 d_D_endIfDone_32 (by decide) ?_
              exact T_D_endIfDone_L36 hn hD S hret hlk hK out (F_D_endIfDone_L2 n f) ih k1 v2 (st15 7 k1 2) hk1 st15 _ _ _ hP hS (lv_sub hl [0, 1, 2] rfl) hF

set_option maxHeartbeats 4000000 in
set_option maxRecDepth 1000000 in
theorem C_D_endIfDone {dC : Nat → ClassId} {dI : Nat → Nat → Nat} {cI cZ cR cA : ClassId} {n : Nat} {ad : zK → Nat} {A : Nat → Prop} (hn : 2 ≤ n ∧ n ≤ 6) (hD : zD A (zKs n) ad) (l : Launch) (k1 : Nat) (hk1 : (7, k1) ∈ zKs n) (st : zS) (out : Int32 × zS) (hF : F_D_endIfDone n k1 st = some out) : zC zT (dC, dI) zcl (zty cI cZ cR cA) A l y_D_endIfDone b_D_endIfDone 4 (none) rm_D_endIfDone [.ref (ad (0, 0)), .ref (ad (7, k1))] (fun H => zV (dC, dI) zcl (zKs n) ad (zcE n cI cZ cR cA ad) st H) (fun o H => o = none ∧ zV (dC, dI) zcl (zKs n) ad (zcE n cI cZ cR cA ad) out.2 H) := by
  refine zC_of (by decide) (Nat.le_of_ble_eq_true rfl) (fun p e s m args below meth c ls S hret hlk hK hP hl => ?_)
  have hS : va_S A s.heap s.heap [] := va_S.rf
  have hl : lv_has ls 4 [(0, .ref (ad (0, 0))), (1, .ref (ad (7, k1)))] := hl
  have hP : zV (dC, dI) zcl (zKs n) ad (zcE n cI cZ cR cA ad) st s.heap := hP
  unfold F_D_endIfDone at hF
  refine lv_iconst (v := 0) S.1 S.2.1 d_D_endIfDone_0 (by decide) ?_
  refine lv_istore_n S.1 S.2.1 d_D_endIfDone_1 rfl hl (by decide) rfl (fun ls hl => ?_)
  have hl : lv_has ls 4 [(2, .int 0), (0, .ref (ad (0, 0))), (1, .ref (ad (7, k1)))] := hl
  exact T_D_endIfDone_L2 hn hD S hret hlk hK out zFuel k1 0 hk1 st _ _ _ hP hS (lv_sub hl [1, 2, 0] rfl) hF
end
section
theorem d_D_weighAgain_0 : decode b_D_weighAgain 0 = .ok (.iconst 0, 1) := by decide +kernel
theorem d_D_weighAgain_1 : decode b_D_weighAgain 1 = .ok (.istore_n 3, 1) := by decide +kernel
theorem d_D_weighAgain_2 : decode b_D_weighAgain 2 = .ok (.iload_n 3, 1) := by decide +kernel
theorem d_D_weighAgain_3 : decode b_D_weighAgain 3 = .ok (.aload_n 0, 1) := by decide +kernel
theorem d_D_weighAgain_4 : decode b_D_weighAgain 4 = .ok (.getfield 18, 3) := by decide +kernel
theorem d_D_weighAgain_7 : decode b_D_weighAgain 7 = .ok (.if_icmp .ge 58, 3) := by decide +kernel
theorem d_D_weighAgain_10 : decode b_D_weighAgain 10 = .ok (.aload_n 0, 1) := by decide +kernel
theorem d_D_weighAgain_11 : decode b_D_weighAgain 11 = .ok (.iload_n 1, 1) := by decide +kernel
theorem d_D_weighAgain_12 : decode b_D_weighAgain 12 = .ok (.iload_n 3, 1) := by decide +kernel
theorem d_D_weighAgain_13 : decode b_D_weighAgain 13 = .ok (.invokevirtual 85, 3) := by decide +kernel
theorem d_D_weighAgain_16 : decode b_D_weighAgain 16 = .ok (.astore 4, 2) := by decide +kernel
theorem d_D_weighAgain_18 : decode b_D_weighAgain 18 = .ok (.aload 4, 2) := by decide +kernel
theorem d_D_weighAgain_20 : decode b_D_weighAgain 20 = .ok (.invokevirtual 141, 3) := by decide +kernel
theorem d_D_weighAgain_23 : decode b_D_weighAgain 23 = .ok (.ifCond .eq 6, 3) := by decide +kernel
theorem d_D_weighAgain_26 : decode b_D_weighAgain 26 = .ok (.goto 33, 3) := by decide +kernel
theorem d_D_weighAgain_29 : decode b_D_weighAgain 29 = .ok (.aload 4, 2) := by decide +kernel
theorem d_D_weighAgain_31 : decode b_D_weighAgain 31 = .ok (.getfield 98, 3) := by decide +kernel
theorem d_D_weighAgain_34 : decode b_D_weighAgain 34 = .ok (.ifCond .eq 12, 3) := by decide +kernel
theorem d_D_weighAgain_37 : decode b_D_weighAgain 37 = .ok (.aload 4, 2) := by decide +kernel
theorem d_D_weighAgain_39 : decode b_D_weighAgain 39 = .ok (.iload_n 2, 1) := by decide +kernel
theorem d_D_weighAgain_40 : decode b_D_weighAgain 40 = .ok (.invokevirtual 145, 3) := by decide +kernel
theorem d_D_weighAgain_43 : decode b_D_weighAgain 43 = .ok (.goto 10, 3) := by decide +kernel
theorem d_D_weighAgain_46 : decode b_D_weighAgain 46 = .ok (.aload_n 0, 1) := by decide +kernel
theorem d_D_weighAgain_47 : decode b_D_weighAgain 47 = .ok (.aload 4, 2) := by decide +kernel
theorem d_D_weighAgain_49 : decode b_D_weighAgain 49 = .ok (.iconst (-1), 1) := by decide +kernel
theorem d_D_weighAgain_50 : decode b_D_weighAgain 50 = .ok (.invokevirtual 149, 3) := by decide +kernel
theorem d_D_weighAgain_53 : decode b_D_weighAgain 53 = .ok (.aload_n 0, 1) := by decide +kernel
theorem d_D_weighAgain_54 : decode b_D_weighAgain 54 = .ok (.aload 4, 2) := by decide +kernel
theorem d_D_weighAgain_56 : decode b_D_weighAgain 56 = .ok (.invokevirtual 153, 3) := by decide +kernel
theorem d_D_weighAgain_59 : decode b_D_weighAgain 59 = .ok (.iinc 3 1, 3) := by decide +kernel
theorem d_D_weighAgain_62 : decode b_D_weighAgain 62 = .ok (.goto (-60), 3) := by decide +kernel
theorem d_D_weighAgain_65 : decode b_D_weighAgain 65 = .ok (.return_, 1) := by decide +kernel
def F_D_weighAgain_L59 (n : Nat) (c2 : Int32 → Int32 → Int32 → zS → Option (Int32 × zS)) (v1 : Int32) (v2 : Int32) (v3 : Int32) (st : zS) : Option (Int32 × zS) :=
    c2 v1 v2 (v3 + 1) st

def F_D_weighAgain_L53_s1 (n : Nat) (c2 : Int32 → Int32 → Int32 → zS → Option (Int32 × zS)) (v1 : Int32) (v2 : Int32) (v3 : Int32) (st : zS) : Option (Int32 × zS) :=
    F_D_weighAgain_L59 n c2 v1 v2 v3 st

def F_D_weighAgain_L53 (n : Nat) (c2 : Int32 → Int32 → Int32 → zS → Option (Int32 × zS)) (v1 : Int32) (v2 : Int32) (v3 : Int32) (k4 : Nat) (st : zS) : Option (Int32 × zS) :=
    (F_D_endIfDone n k4 st).bind (fun u => F_D_weighAgain_L53_s1 n c2 v1 v2 v3 u.2)

def F_D_weighAgain_L2_s3 (n : Nat) (c2 : Int32 → Int32 → Int32 → zS → Option (Int32 × zS)) (k4 : Nat) (v1 : Int32) (v2 : Int32) (v3 : Int32) (st : zS) : Option (Int32 × zS) :=
    F_D_weighAgain_L53 n c2 v1 v2 v3 k4 st

def F_D_weighAgain_L2_s4 (n : Nat) (c2 : Int32 → Int32 → Int32 → zS → Option (Int32 × zS)) (k4 : Nat) (v1 : Int32) (v2 : Int32) (v3 : Int32) (st : zS) : Option (Int32 × zS) :=
    F_D_weighAgain_L53 n c2 v1 v2 v3 k4 st

def F_D_weighAgain_L2_s2 (n : Nat) (c2 : Int32 → Int32 → Int32 → zS → Option (Int32 × zS)) (k4 : Nat) (v1 : Int32) (v2 : Int32) (v3 : Int32) (t0 : Int32) (st : zS) : Option (Int32 × zS) :=
    if t0 = 0 then (if (st 7 k4 3) = 0 then ((F_D_look n k4 (-1) st).bind (fun u => F_D_weighAgain_L2_s3 n c2 k4 v1 v2 v3 u.2)) else ((F_R_growIfFarther n k4 v2 st).bind (fun u => F_D_weighAgain_L2_s4 n c2 k4 v1 v2 v3 u.2))) else (F_D_weighAgain_L59 n c2 v1 v2 v3 st)

def F_D_weighAgain_L2_s1 (n : Nat) (c2 : Int32 → Int32 → Int32 → zS → Option (Int32 × zS)) (v1 : Int32) (v2 : Int32) (v3 : Int32) (u0 : Nat) (st : zS) : Option (Int32 × zS) :=
    (F_R_isOwn n u0 st).bind (fun u => F_D_weighAgain_L2_s2 n c2 u0 v1 v2 v3 u.1 u.2)

def F_D_weighAgain_L2 (n : Nat) : Nat → Int32 → Int32 → Int32 → zS → Option (Int32 × zS)
  | 0, _, _, _, _ => none
  | f + 1, v1, v2, v3, st =>
    if (nI n) ≤ v3 then (some (0, st)) else ((F_D_route n v1 v3 st).bind (fun u => F_D_weighAgain_L2_s1 n (F_D_weighAgain_L2 n f) v1 v2 v3 u.1 u.2))

def F_D_weighAgain (n : Nat) (v1 : Int32) (v2 : Int32) (st : zS) : Option (Int32 × zS) :=
    F_D_weighAgain_L2 n zFuel v1 v2 0 st

set_option maxHeartbeats 4000000 in
set_option maxRecDepth 1000000 in
theorem T_D_weighAgain_L59 {dC : Nat → ClassId} {dI : Nat → Nat → Nat} {cI cZ cR cA : ClassId} {n : Nat} {ad : zK → Nat} {A : Nat → Prop} (hn : 2 ≤ n ∧ n ≤ 6) (hD : zD A (zKs n) ad) {p : Program} {l : Launch} {e : Env} {s : State} {m : MethodId} {args : Array Value} {below : List Frame} {meth : Method} {c : Code} (S : CallFix p m c b_D_weighAgain 5 s args zT N_D) (hret : meth.sig.returnType = none) (hlk : meth.locks = false) (hK : va_K (dC, dI) zcl (zty cI cZ cR cA) s) (out : Int32 × zS) (c2 : Int32 → Int32 → Int32 → zS → Option (Int32 × zS)) (hc2 : ∀ (v1 : Int32) (v2 : Int32) (v3 : Int32) (st : zS) (H : Heap) (locs : List Loc) (ls : Array Slot), zV (dC, dI) zcl (zKs n) ad (zcE n cI cZ cR cA ad) st H → va_S A s.heap H locs → lv_has ls 5 [(0, .ref (ad (0, 0))), (1, .int v1), (2, .int v2), (3, .int v3)] → c2 v1 v2 v3 st = some out → W p l e rm_D_weighAgain s m args below meth c H locs 0 0 (zQ below A (fun o H => o = none ∧ zV (dC, dI) zcl (zKs n) ad (zcE n cI cZ cR cA ad) out.2 H) args s) (F0 m 2 ls [])) (v1 : Int32) (v2 : Int32) (v3 : Int32) (st : zS) (H : Heap) (locs : List Loc) (ls : Array Slot) (hP : zV (dC, dI) zcl (zKs n) ad (zcE n cI cZ cR cA ad) st H) (hS : va_S A s.heap H locs) (hl : lv_has ls 5 [(0, .ref (ad (0, 0))), (1, .int v1), (2, .int v2), (3, .int v3)]) (hF : F_D_weighAgain_L59 n c2 v1 v2 v3 st = some out) : W p l e rm_D_weighAgain s m args below meth c H locs 0 0 (zQ below A (fun o H => o = none ∧ zV (dC, dI) zcl (zKs n) ad (zcE n cI cZ cR cA ad) out.2 H) args s) (F0 m 59 ls []) := by
  unfold F_D_weighAgain_L59 at hF
  refine lv_iinc (k := 3) (v := v3 + 1) S.1 S.2.1 d_D_weighAgain_59 hl rfl rfl (by decide) rfl (fun ls hl => ?_)
  have hl : lv_has ls 5 [(3, .int (v3 + 1)), (0, .ref (ad (0, 0))), (1, .int v1), (2, .int v2)] := hl
  refine lv_goto (tgt := 2) S.1 S.2.1 d_D_weighAgain_62 (by decide) ?_
  exact hc2 v1 v2 (v3 + 1) st _ _ _ hP hS (lv_sub hl [1, 2, 3, 0] rfl) hF

set_option maxHeartbeats 4000000 in
set_option maxRecDepth 1000000 in
theorem T_D_weighAgain_L53 {dC : Nat → ClassId} {dI : Nat → Nat → Nat} {cI cZ cR cA : ClassId} {n : Nat} {ad : zK → Nat} {A : Nat → Prop} (hn : 2 ≤ n ∧ n ≤ 6) (hD : zD A (zKs n) ad) {p : Program} {l : Launch} {e : Env} {s : State} {m : MethodId} {args : Array Value} {below : List Frame} {meth : Method} {c : Code} (S : CallFix p m c b_D_weighAgain 5 s args zT N_D) (hret : meth.sig.returnType = none) (hlk : meth.locks = false) (hK : va_K (dC, dI) zcl (zty cI cZ cR cA) s) (out : Int32 × zS) (c2 : Int32 → Int32 → Int32 → zS → Option (Int32 × zS)) (hc2 : ∀ (v1 : Int32) (v2 : Int32) (v3 : Int32) (st : zS) (H : Heap) (locs : List Loc) (ls : Array Slot), zV (dC, dI) zcl (zKs n) ad (zcE n cI cZ cR cA ad) st H → va_S A s.heap H locs → lv_has ls 5 [(0, .ref (ad (0, 0))), (1, .int v1), (2, .int v2), (3, .int v3)] → c2 v1 v2 v3 st = some out → W p l e rm_D_weighAgain s m args below meth c H locs 0 0 (zQ below A (fun o H => o = none ∧ zV (dC, dI) zcl (zKs n) ad (zcE n cI cZ cR cA ad) out.2 H) args s) (F0 m 2 ls [])) (v1 : Int32) (v2 : Int32) (v3 : Int32) (k4 : Nat) (hk4 : (7, k4) ∈ zKs n) (st : zS) (H : Heap) (locs : List Loc) (ls : Array Slot) (hP : zV (dC, dI) zcl (zKs n) ad (zcE n cI cZ cR cA ad) st H) (hS : va_S A s.heap H locs) (hl : lv_has ls 5 [(0, .ref (ad (0, 0))), (1, .int v1), (2, .int v2), (3, .int v3), (4, .ref (ad (7, k4)))]) (hF : F_D_weighAgain_L53 n c2 v1 v2 v3 k4 st = some out) : W p l e rm_D_weighAgain s m args below meth c H locs 0 0 (zQ below A (fun o H => o = none ∧ zV (dC, dI) zcl (zKs n) ad (zcE n cI cZ cR cA ad) out.2 H) args s) (F0 m 53 ls []) := by
  unfold F_D_weighAgain_L53 at hF
  refine lv_aload_n S.1 S.2.1 d_D_weighAgain_53 rfl (lv_at hl 0 rfl) ?_
  refine lv_aload S.1 S.2.1 d_D_weighAgain_54 (lv_at hl 4 rfl) ?_
  cases hc56 : F_D_endIfDone n k4 st with
  | none => rw [hc56] at hF; cases hF
  | some u56 =>
    obtain ⟨r56, st56⟩ := u56
    rw [hc56] at hF
    replace hF := zbind hF
    refine zr_callV (rest := []) S zT_good (C_D_endIfDone hn hD l k4 hk4 st (r56, st56) hc56) zn_D_endIfDone zx_65 ⟨rfl, rfl⟩ ⟨Nat.le_of_ble_eq_true rfl, Nat.le_of_ble_eq_true rfl⟩ ⟨Nat.zero_le _, Nat.zero_le _⟩ hK (zr_recv hK hP zk_0 rfl rfl) hP hl.1 (Nat.le_of_ble_eq_true rfl) hS (fun _ h => h) d_D_weighAgain_56 rfl (fun o H locs hpo _ _ hS => ?_)
    obtain ⟨rfl, hP⟩ := hpo
    refine W.eq (g2 := F0 m 59 ls []) rfl ?_
    replace hF : F_D_weighAgain_L53_s1 n c2 v1 v2 v3 st56 = some out := hF
    replace hP : zV (dC, dI) zcl (zKs n) ad (zcE n cI cZ cR cA ad) st56 H := hP
    unfold F_D_weighAgain_L53_s1 at hF
    exact T_D_weighAgain_L59 hn hD S hret hlk hK out c2 hc2 v1 v2 v3 st56 _ _ _ hP hS (lv_sub hl [0, 1, 2, 3] rfl) hF

set_option maxHeartbeats 4000000 in
set_option maxRecDepth 1000000 in
theorem T_D_weighAgain_L2 {dC : Nat → ClassId} {dI : Nat → Nat → Nat} {cI cZ cR cA : ClassId} {n : Nat} {ad : zK → Nat} {A : Nat → Prop} (hn : 2 ≤ n ∧ n ≤ 6) (hD : zD A (zKs n) ad) {p : Program} {l : Launch} {e : Env} {s : State} {m : MethodId} {args : Array Value} {below : List Frame} {meth : Method} {c : Code} (S : CallFix p m c b_D_weighAgain 5 s args zT N_D) (hret : meth.sig.returnType = none) (hlk : meth.locks = false) (hK : va_K (dC, dI) zcl (zty cI cZ cR cA) s) (out : Int32 × zS) : ∀ (fu : Nat) (v1 : Int32) (v2 : Int32) (v3 : Int32) (st : zS) (H : Heap) (locs : List Loc) (ls : Array Slot) (hP : zV (dC, dI) zcl (zKs n) ad (zcE n cI cZ cR cA ad) st H) (hS : va_S A s.heap H locs) (hl : lv_has ls 5 [(0, .ref (ad (0, 0))), (1, .int v1), (2, .int v2), (3, .int v3)]) (hF : F_D_weighAgain_L2 n fu v1 v2 v3 st = some out), W p l e rm_D_weighAgain s m args below meth c H locs 0 0 (zQ below A (fun o H => o = none ∧ zV (dC, dI) zcl (zKs n) ad (zcE n cI cZ cR cA ad) out.2 H) args s) (F0 m 2 ls []) := by
  intro fu
  induction fu with
  | zero => intro v1 v2 v3 st H locs ls hP hS hl hF; rw [F_D_weighAgain_L2] at hF; cases hF
  | succ f ih =>
    intro v1 v2 v3 st H locs ls hP hS hl hF
    rw [F_D_weighAgain_L2] at hF
    refine lv_iload_n S.1 S.2.1 d_D_weighAgain_2 rfl (lv_at hl 3 rfl) ?_
    refine lv_aload_n S.1 S.2.1 d_D_weighAgain_3 rfl (lv_at hl 0 rfl) ?_
    refine zr_get (v := .int (nI n)) S zi_D hK hP zk_0 rfl rfl 0 (by decide) zx_8 rfl d_D_weighAgain_4 ?_
    refine lv_icmp_ge (tgt := 65) S.1 S.2.1 d_D_weighAgain_7 (by decide) (fun h7 => ?_) (fun h7 => ?_)
    · rw [if_pos h7] at hF
      cases hF
      exact zr_vret S hret hlk hS d_D_weighAgain_65 ⟨rfl, hP⟩
    · rw [if_neg h7] at hF
      refine lv_aload_n S.1 S.2.1 d_D_weighAgain_10 rfl (lv_at hl 0 rfl) ?_
      refine lv_iload_n S.1 S.2.1 d_D_weighAgain_11 rfl (lv_at hl 1 rfl) ?_
      refine lv_iload_n S.1 S.2.1 d_D_weighAgain_12 rfl (lv_at hl 3 rfl) ?_
      cases hc13 : F_D_route n v1 v3 st with
      | none => rw [hc13] at hF; cases hF
      | some u13 =>
        obtain ⟨r13, st13⟩ := u13
        rw [hc13] at hF
        replace hF := zbind hF
        refine zr_callV (rest := []) S zT_good (C_D_route hn hD l v1 v3 st (r13, st13) hc13) zn_D_route zx_88 ⟨rfl, rfl⟩ ⟨Nat.le_of_ble_eq_true rfl, Nat.le_of_ble_eq_true rfl⟩ ⟨Nat.zero_le _, Nat.zero_le _⟩ hK (zr_recv hK hP zk_0 rfl rfl) hP hl.1 (Nat.le_of_ble_eq_true rfl) hS (fun _ h => h) d_D_weighAgain_13 rfl (fun o H locs hpo _ _ hS => ?_)
        obtain ⟨rfl, hP⟩ := hpo
        refine W.eq (g2 := F0 m 16 ls [.ref (ad (7, r13))]) rfl ?_
        have hk_r13 := zk_D_route hn hc13
        replace hF : F_D_weighAgain_L2_s1 n (F_D_weighAgain_L2 n f) v1 v2 v3 r13 st13 = some out := hF
        replace hP : zV (dC, dI) zcl (zKs n) ad (zcE n cI cZ cR cA ad) st13 H := hP
        unfold F_D_weighAgain_L2_s1 at hF
        refine lv_astore S.1 S.2.1 d_D_weighAgain_16 hl (by decide) rfl (fun ls hl => ?_)
        have hl : lv_has ls 5 [(4, .ref (ad (7, r13))), (0, .ref (ad (0, 0))), (1, .int v1), (2, .int v2), (3, .int v3)] := hl
        refine lv_aload S.1 S.2.1 d_D_weighAgain_18 (lv_at hl 0 rfl) ?_
        cases hc20 : F_R_isOwn n r13 st13 with
        | none => rw [hc20] at hF; cases hF
        | some u20 =>
          obtain ⟨r20, st20⟩ := u20
          rw [hc20] at hF
          replace hF := zbind hF
          refine zr_callV (rest := []) S zT_good (C_R_isOwn hn hD l r13 hk_r13 st13 (r20, st20) hc20) zn_R_isOwn zx_61 ⟨rfl, rfl⟩ ⟨Nat.le_of_ble_eq_true rfl, Nat.le_of_ble_eq_true rfl⟩ ⟨Nat.zero_le _, Nat.zero_le _⟩ hK (zr_recv hK hP hk_r13 rfl rfl) hP hl.1 (Nat.le_of_ble_eq_true rfl) hS (fun _ h => h) d_D_weighAgain_20 rfl (fun o H locs hpo _ _ hS => ?_)
          obtain ⟨rfl, hP⟩ := hpo
          refine W.eq (g2 := F0 m 23 ls [.int r20]) rfl ?_
          replace hF : F_D_weighAgain_L2_s2 n (F_D_weighAgain_L2 n f) r13 v1 v2 v3 r20 st20 = some out := hF
          replace hP : zV (dC, dI) zcl (zKs n) ad (zcE n cI cZ cR cA ad) st20 H := hP
          unfold F_D_weighAgain_L2_s2 at hF
          refine lv_if_eq (tgt := 29) S.1 S.2.1 d_D_weighAgain_23 (by decide) (fun h23 => ?_) (fun h23 => ?_)
          · rw [if_pos h23] at hF
            refine lv_aload S.1 S.2.1 d_D_weighAgain_29 (lv_at hl 0 rfl) ?_
            refine zr_get (v := .int (st20 7 r13 3)) S zi_R hK hP hk_r13 rfl rfl 8 (by decide) zx_17 rfl d_D_weighAgain_31 ?_
            refine lv_if_eq (tgt := 46) S.1 S.2.1 d_D_weighAgain_34 (by decide) (fun h34 => ?_) (fun h34 => ?_)
            · rw [if_pos h34] at hF
              refine lv_aload_n S.1 S.2.1 d_D_weighAgain_46 rfl (lv_at hl 1 rfl) ?_
              refine lv_aload S.1 S.2.1 d_D_weighAgain_47 (lv_at hl 0 rfl) ?_
              refine lv_iconst (v := (-1)) S.1 S.2.1 d_D_weighAgain_49 (by decide) ?_
              cases hc50 : F_D_look n r13 (-1) st20 with
              | none => rw [hc50] at hF; cases hF
              | some u50 =>
                obtain ⟨r50, st50⟩ := u50
                rw [hc50] at hF
                replace hF := zbind hF
                refine zr_callV (rest := []) S zT_good (C_D_look hn hD l r13 (-1) hk_r13 st20 (r50, st50) hc50) zn_D_look zx_63 ⟨rfl, rfl⟩ ⟨Nat.le_of_ble_eq_true rfl, Nat.le_of_ble_eq_true rfl⟩ ⟨Nat.zero_le _, Nat.zero_le _⟩ hK (zr_recv hK hP zk_0 rfl rfl) hP hl.1 (Nat.le_of_ble_eq_true rfl) hS (fun _ h => h) d_D_weighAgain_50 rfl (fun o H locs hpo _ _ hS => ?_)
                obtain ⟨rfl, hP⟩ := hpo
                refine W.eq (g2 := F0 m 53 ls []) rfl ?_
                replace hF : F_D_weighAgain_L2_s3 n (F_D_weighAgain_L2 n f) r13 v1 v2 v3 st50 = some out := hF
                replace hP : zV (dC, dI) zcl (zKs n) ad (zcE n cI cZ cR cA ad) st50 H := hP
                unfold F_D_weighAgain_L2_s3 at hF
                exact T_D_weighAgain_L53 hn hD S hret hlk hK out (F_D_weighAgain_L2 n f) ih v1 v2 v3 r13 hk_r13 st50 _ _ _ hP hS (lv_sub hl [1, 2, 3, 4, 0] rfl) hF
            · rw [if_neg h34] at hF
              refine lv_aload S.1 S.2.1 d_D_weighAgain_37 (lv_at hl 0 rfl) ?_
              refine lv_iload_n S.1 S.2.1 d_D_weighAgain_39 rfl (lv_at hl 3 rfl) ?_
              cases hc40 : F_R_growIfFarther n r13 v2 st20 with
              | none => rw [hc40] at hF; cases hF
              | some u40 =>
                obtain ⟨r40, st40⟩ := u40
                rw [hc40] at hF
                replace hF := zbind hF
                refine zr_callV (rest := []) S zT_good (C_R_growIfFarther hn hD l r13 v2 hk_r13 st20 (r40, st40) hc40) zn_R_growIfFarther zx_62 ⟨rfl, rfl⟩ ⟨Nat.le_of_ble_eq_true rfl, Nat.le_of_ble_eq_true rfl⟩ ⟨Nat.zero_le _, Nat.zero_le _⟩ hK (zr_recv hK hP hk_r13 rfl rfl) hP hl.1 (Nat.le_of_ble_eq_true rfl) hS (fun _ h => h) d_D_weighAgain_40 rfl (fun o H locs hpo _ _ hS => ?_)
                obtain ⟨rfl, hP⟩ := hpo
                refine W.eq (g2 := F0 m 43 ls []) rfl ?_
                replace hF : F_D_weighAgain_L2_s4 n (F_D_weighAgain_L2 n f) r13 v1 v2 v3 st40 = some out := hF
                replace hP : zV (dC, dI) zcl (zKs n) ad (zcE n cI cZ cR cA ad) st40 H := hP
                unfold F_D_weighAgain_L2_s4 at hF
                refine lv_goto (tgt := 53) S.1 S.2.1 d_D_weighAgain_43 (by decide) ?_
                exact T_D_weighAgain_L53 hn hD S hret hlk hK out (F_D_weighAgain_L2 n f) ih v1 v2 v3 r13 hk_r13 st40 _ _ _ hP hS (lv_sub hl [1, 2, 3, 4, 0] rfl) hF
          · rw [if_neg h23] at hF
            refine lv_goto (tgt := 59) S.1 S.2.1 d_D_weighAgain_26 (by decide) ?_
            exact T_D_weighAgain_L59 hn hD S hret hlk hK out (F_D_weighAgain_L2 n f) ih v1 v2 v3 st20 _ _ _ hP hS (lv_sub hl [1, 2, 3, 4] rfl) hF

set_option maxHeartbeats 4000000 in
set_option maxRecDepth 1000000 in
theorem C_D_weighAgain {dC : Nat → ClassId} {dI : Nat → Nat → Nat} {cI cZ cR cA : ClassId} {n : Nat} {ad : zK → Nat} {A : Nat → Prop} (hn : 2 ≤ n ∧ n ≤ 6) (hD : zD A (zKs n) ad) (l : Launch) (v1 : Int32) (v2 : Int32) (st : zS) (out : Int32 × zS) (hF : F_D_weighAgain n v1 v2 st = some out) : zC zT (dC, dI) zcl (zty cI cZ cR cA) A l y_D_weighAgain b_D_weighAgain 5 (none) rm_D_weighAgain [.ref (ad (0, 0)), .int v1, .int v2] (fun H => zV (dC, dI) zcl (zKs n) ad (zcE n cI cZ cR cA ad) st H) (fun o H => o = none ∧ zV (dC, dI) zcl (zKs n) ad (zcE n cI cZ cR cA ad) out.2 H) := by
  refine zC_of (by decide) (Nat.le_of_ble_eq_true rfl) (fun p e s m args below meth c ls S hret hlk hK hP hl => ?_)
  have hS : va_S A s.heap s.heap [] := va_S.rf
  have hl : lv_has ls 5 [(0, .ref (ad (0, 0))), (1, .int v1), (2, .int v2)] := hl
  have hP : zV (dC, dI) zcl (zKs n) ad (zcE n cI cZ cR cA ad) st s.heap := hP
  unfold F_D_weighAgain at hF
  refine lv_iconst (v := 0) S.1 S.2.1 d_D_weighAgain_0 (by decide) ?_
  refine lv_istore_n S.1 S.2.1 d_D_weighAgain_1 rfl hl (by decide) rfl (fun ls hl => ?_)
  have hl : lv_has ls 5 [(3, .int 0), (0, .ref (ad (0, 0))), (1, .int v1), (2, .int v2)] := hl
  exact T_D_weighAgain_L2 hn hD S hret hlk hK out zFuel v1 v2 0 st _ _ _ hP hS (lv_sub hl [1, 2, 3, 0] rfl) hF

theorem d_D_connect_0 : decode b_D_connect 0 = .ok (.aload_n 0, 1) := by decide +kernel
theorem d_D_connect_1 : decode b_D_connect 1 = .ok (.iload_n 1, 1) := by decide +kernel
theorem d_D_connect_2 : decode b_D_connect 2 = .ok (.invokevirtual 43, 3) := by decide +kernel
theorem d_D_connect_5 : decode b_D_connect 5 = .ok (.ifCond .eq 27, 3) := by decide +kernel
theorem d_D_connect_8 : decode b_D_connect 8 = .ok (.aload_n 0, 1) := by decide +kernel
theorem d_D_connect_9 : decode b_D_connect 9 = .ok (.iload_n 2, 1) := by decide +kernel
theorem d_D_connect_10 : decode b_D_connect 10 = .ok (.invokevirtual 43, 3) := by decide +kernel
theorem d_D_connect_13 : decode b_D_connect 13 = .ok (.ifCond .eq 19, 3) := by decide +kernel
theorem d_D_connect_16 : decode b_D_connect 16 = .ok (.iload_n 1, 1) := by decide +kernel
theorem d_D_connect_17 : decode b_D_connect 17 = .ok (.iload_n 2, 1) := by decide +kernel
theorem d_D_connect_18 : decode b_D_connect 18 = .ok (.if_icmp .eq 14, 3) := by decide +kernel
theorem d_D_connect_21 : decode b_D_connect 21 = .ok (.iload_n 3, 1) := by decide +kernel
theorem d_D_connect_22 : decode b_D_connect 22 = .ok (.iconst 1, 1) := by decide +kernel
theorem d_D_connect_23 : decode b_D_connect 23 = .ok (.if_icmp .lt 9, 3) := by decide +kernel
theorem d_D_connect_26 : decode b_D_connect 26 = .ok (.iload_n 3, 1) := by decide +kernel
theorem d_D_connect_27 : decode b_D_connect 27 = .ok (.bipush 100, 2) := by decide +kernel
theorem d_D_connect_29 : decode b_D_connect 29 = .ok (.if_icmp .le 5, 3) := by decide +kernel
theorem d_D_connect_32 : decode b_D_connect 32 = .ok (.iconst (-1), 1) := by decide +kernel
theorem d_D_connect_33 : decode b_D_connect 33 = .ok (.ireturn, 1) := by decide +kernel
theorem d_D_connect_34 : decode b_D_connect 34 = .ok (.aload_n 0, 1) := by decide +kernel
theorem d_D_connect_35 : decode b_D_connect 35 = .ok (.getfield 39, 3) := by decide +kernel
theorem d_D_connect_38 : decode b_D_connect 38 = .ok (.invokevirtual 47, 3) := by decide +kernel
theorem d_D_connect_41 : decode b_D_connect 41 = .ok (.bipush 100, 2) := by decide +kernel
theorem d_D_connect_43 : decode b_D_connect 43 = .ok (.if_icmp .le 6, 3) := by decide +kernel
theorem d_D_connect_46 : decode b_D_connect 46 = .ok (.bipush (-2), 2) := by decide +kernel
theorem d_D_connect_48 : decode b_D_connect 48 = .ok (.ireturn, 1) := by decide +kernel
theorem d_D_connect_49 : decode b_D_connect 49 = .ok (.aload_n 0, 1) := by decide +kernel
theorem d_D_connect_50 : decode b_D_connect 50 = .ok (.getfield 24, 3) := by decide +kernel
theorem d_D_connect_53 : decode b_D_connect 53 = .ok (.iload_n 1, 1) := by decide +kernel
theorem d_D_connect_54 : decode b_D_connect 54 = .ok (.aaload, 1) := by decide +kernel
theorem d_D_connect_55 : decode b_D_connect 55 = .ok (.iload_n 2, 1) := by decide +kernel
theorem d_D_connect_56 : decode b_D_connect 56 = .ok (.iaload, 1) := by decide +kernel
theorem d_D_connect_57 : decode b_D_connect 57 = .ok (.ifCond .ne 7, 3) := by decide +kernel
theorem d_D_connect_60 : decode b_D_connect 60 = .ok (.iconst 1, 1) := by decide +kernel
theorem d_D_connect_61 : decode b_D_connect 61 = .ok (.goto 4, 3) := by decide +kernel
theorem d_D_connect_64 : decode b_D_connect 64 = .ok (.iconst 0, 1) := by decide +kernel
theorem d_D_connect_65 : decode b_D_connect 65 = .ok (.istore 4, 2) := by decide +kernel
theorem d_D_connect_67 : decode b_D_connect 67 = .ok (.aload_n 0, 1) := by decide +kernel
theorem d_D_connect_68 : decode b_D_connect 68 = .ok (.getfield 24, 3) := by decide +kernel
theorem d_D_connect_71 : decode b_D_connect 71 = .ok (.iload_n 1, 1) := by decide +kernel
theorem d_D_connect_72 : decode b_D_connect 72 = .ok (.aaload, 1) := by decide +kernel
theorem d_D_connect_73 : decode b_D_connect 73 = .ok (.iload_n 2, 1) := by decide +kernel
theorem d_D_connect_74 : decode b_D_connect 74 = .ok (.iload_n 3, 1) := by decide +kernel
theorem d_D_connect_75 : decode b_D_connect 75 = .ok (.iastore, 1) := by decide +kernel
theorem d_D_connect_76 : decode b_D_connect 76 = .ok (.aload_n 0, 1) := by decide +kernel
theorem d_D_connect_77 : decode b_D_connect 77 = .ok (.getfield 24, 3) := by decide +kernel
theorem d_D_connect_80 : decode b_D_connect 80 = .ok (.iload_n 2, 1) := by decide +kernel
theorem d_D_connect_81 : decode b_D_connect 81 = .ok (.aaload, 1) := by decide +kernel
theorem d_D_connect_82 : decode b_D_connect 82 = .ok (.iload_n 1, 1) := by decide +kernel
theorem d_D_connect_83 : decode b_D_connect 83 = .ok (.iload_n 3, 1) := by decide +kernel
theorem d_D_connect_84 : decode b_D_connect 84 = .ok (.iastore, 1) := by decide +kernel
theorem d_D_connect_85 : decode b_D_connect 85 = .ok (.iload_n 1, 1) := by decide +kernel
theorem d_D_connect_86 : decode b_D_connect 86 = .ok (.iload_n 2, 1) := by decide +kernel
theorem d_D_connect_87 : decode b_D_connect 87 = .ok (.invokestatic 9, 3) := by decide +kernel
theorem d_D_connect_90 : decode b_D_connect 90 = .ok (.istore 5, 2) := by decide +kernel
theorem d_D_connect_92 : decode b_D_connect 92 = .ok (.iload_n 1, 1) := by decide +kernel
theorem d_D_connect_93 : decode b_D_connect 93 = .ok (.iload_n 2, 1) := by decide +kernel
theorem d_D_connect_94 : decode b_D_connect 94 = .ok (.invokestatic 15, 3) := by decide +kernel
theorem d_D_connect_97 : decode b_D_connect 97 = .ok (.istore 6, 2) := by decide +kernel
theorem d_D_connect_99 : decode b_D_connect 99 = .ok (.iload 4, 2) := by decide +kernel
theorem d_D_connect_101 : decode b_D_connect 101 = .ok (.ifCond .eq 32, 3) := by decide +kernel
theorem d_D_connect_104 : decode b_D_connect 104 = .ok (.aload_n 0, 1) := by decide +kernel
theorem d_D_connect_105 : decode b_D_connect 105 = .ok (.dup, 1) := by decide +kernel
theorem d_D_connect_106 : decode b_D_connect 106 = .ok (.getfield 51, 3) := by decide +kernel
theorem d_D_connect_109 : decode b_D_connect 109 = .ok (.iconst 1, 1) := by decide +kernel
theorem d_D_connect_110 : decode b_D_connect 110 = .ok (.iadd, 1) := by decide +kernel
theorem d_D_connect_111 : decode b_D_connect 111 = .ok (.putfield 51, 3) := by decide +kernel
theorem d_D_connect_114 : decode b_D_connect 114 = .ok (.aload_n 0, 1) := by decide +kernel
theorem d_D_connect_115 : decode b_D_connect 115 = .ok (.iload 5, 2) := by decide +kernel
theorem d_D_connect_117 : decode b_D_connect 117 = .ok (.iload 6, 2) := by decide +kernel
theorem d_D_connect_119 : decode b_D_connect 119 = .ok (.invokevirtual 54, 3) := by decide +kernel
theorem d_D_connect_122 : decode b_D_connect 122 = .ok (.aload_n 0, 1) := by decide +kernel
theorem d_D_connect_123 : decode b_D_connect 123 = .ok (.iload 6, 2) := by decide +kernel
theorem d_D_connect_125 : decode b_D_connect 125 = .ok (.iload 5, 2) := by decide +kernel
theorem d_D_connect_127 : decode b_D_connect 127 = .ok (.invokevirtual 54, 3) := by decide +kernel
theorem d_D_connect_130 : decode b_D_connect 130 = .ok (.goto 19, 3) := by decide +kernel
theorem d_D_connect_133 : decode b_D_connect 133 = .ok (.aload_n 0, 1) := by decide +kernel
theorem d_D_connect_134 : decode b_D_connect 134 = .ok (.iload 5, 2) := by decide +kernel
theorem d_D_connect_136 : decode b_D_connect 136 = .ok (.iload 6, 2) := by decide +kernel
theorem d_D_connect_138 : decode b_D_connect 138 = .ok (.invokevirtual 58, 3) := by decide +kernel
theorem d_D_connect_141 : decode b_D_connect 141 = .ok (.aload_n 0, 1) := by decide +kernel
theorem d_D_connect_142 : decode b_D_connect 142 = .ok (.iload 6, 2) := by decide +kernel
theorem d_D_connect_144 : decode b_D_connect 144 = .ok (.iload 5, 2) := by decide +kernel
theorem d_D_connect_146 : decode b_D_connect 146 = .ok (.invokevirtual 58, 3) := by decide +kernel
theorem d_D_connect_149 : decode b_D_connect 149 = .ok (.aload_n 0, 1) := by decide +kernel
theorem d_D_connect_150 : decode b_D_connect 150 = .ok (.getfield 51, 3) := by decide +kernel
theorem d_D_connect_153 : decode b_D_connect 153 = .ok (.ireturn, 1) := by decide +kernel
def F_D_connect_L65_s4 (n : Nat) (st : zS) : Option (Int32 × zS) :=
    some (st 0 0 0, st)

def F_D_connect_L65_s3 (n : Nat) (v6 : Int32) (v5 : Int32) (st : zS) : Option (Int32 × zS) :=
    (F_D_weighAgain n v6 v5 st).bind (fun u => F_D_connect_L65_s4 n u.2)

def F_D_connect_L65_s7 (n : Nat) (st : zS) : Option (Int32 × zS) :=
    some (st 0 0 0, st)

def F_D_connect_L65_s6 (n : Nat) (v6 : Int32) (v5 : Int32) (st : zS) : Option (Int32 × zS) :=
    (F_D_greet n v6 v5 st).bind (fun u => F_D_connect_L65_s7 n u.2)

def F_D_connect_L65_s5 (n : Nat) (v6 : Int32) (v5 : Int32) (st : zS) : Option (Int32 × zS) :=
    (F_D_greet n v5 v6 st).bind (fun u => F_D_connect_L65_s6 n v6 v5 u.2)

def F_D_connect_L65_s2 (n : Nat) (v4 : Int32) (v1 : Int32) (v2 : Int32) (st : zS) : Option (Int32 × zS) :=
    if v4 = 0 then ((F_D_weighAgain n (if v2 < v1 then v2 else v1) (if v1 < v2 then v2 else v1) st).bind (fun u => F_D_connect_L65_s3 n (if v1 < v2 then v2 else v1) (if v2 < v1 then v2 else v1) u.2)) else (F_D_connect_L65_s5 n (if v1 < v2 then v2 else v1) (if v2 < v1 then v2 else v1) (zs st 0 0 0 ((st 0 0 0) + 1)))

def F_D_connect_L65_s1 (n : Nat) (v4 : Int32) (v1 : Int32) (v2 : Int32) (v3 : Int32) (st : zS) : Option (Int32 × zS) :=
    if zOut v2 n then none else if zOut v1 n then none else F_D_connect_L65_s2 n v4 v1 v2 (zs st 6 (Int32.toNatClampNeg v2) (Int32.toNatClampNeg v1) v3)

def F_D_connect_L65 (n : Nat) (v1 : Int32) (v2 : Int32) (v3 : Int32) (t0 : Int32) (st : zS) : Option (Int32 × zS) :=
    if zOut v1 n then none else if zOut v2 n then none else F_D_connect_L65_s1 n t0 v1 v2 v3 (zs st 6 (Int32.toNatClampNeg v1) (Int32.toNatClampNeg v2) v3)

def F_D_connect_s3 (n : Nat) (v1 : Int32) (v2 : Int32) (v3 : Int32) (t0 : Int32) (st : zS) : Option (Int32 × zS) :=
    if t0 ≤ 100 then (if zOut v1 n then none else if zOut v2 n then none else if (st 6 (Int32.toNatClampNeg v1) (Int32.toNatClampNeg v2)) = 0 then (F_D_connect_L65 n v1 v2 v3 1 st) else (F_D_connect_L65 n v1 v2 v3 0 st)) else (some ((-2), st))

def F_D_connect_s2 (n : Nat) (v1 : Int32) (v2 : Int32) (v3 : Int32) (t0 : Int32) (st : zS) : Option (Int32 × zS) :=
    if t0 = 0 then (some ((-1), st)) else (if v1 = v2 then (some ((-1), st)) else (if v3 < 1 then (some ((-1), st)) else (if v3 ≤ 100 then ((F_L_size n st).bind (fun u => F_D_connect_s3 n v1 v2 v3 u.1 u.2)) else (some ((-1), st)))))

def F_D_connect_s1 (n : Nat) (v1 : Int32) (v2 : Int32) (v3 : Int32) (t0 : Int32) (st : zS) : Option (Int32 × zS) :=
    if t0 = 0 then (some ((-1), st)) else ((F_D_isRouter n v2 st).bind (fun u => F_D_connect_s2 n v1 v2 v3 u.1 u.2))

def F_D_connect (n : Nat) (v1 : Int32) (v2 : Int32) (v3 : Int32) (st : zS) : Option (Int32 × zS) :=
    (F_D_isRouter n v1 st).bind (fun u => F_D_connect_s1 n v1 v2 v3 u.1 u.2)

set_option maxHeartbeats 4000000 in
set_option maxRecDepth 1000000 in
theorem T_D_connect_L65 {dC : Nat → ClassId} {dI : Nat → Nat → Nat} {cI cZ cR cA : ClassId} {n : Nat} {ad : zK → Nat} {A : Nat → Prop} (hn : 2 ≤ n ∧ n ≤ 6) (hD : zD A (zKs n) ad) {p : Program} {l : Launch} {e : Env} {s : State} {m : MethodId} {args : Array Value} {below : List Frame} {meth : Method} {c : Code} (S : CallFix p m c b_D_connect 7 s args zT N_D) (hret : meth.sig.returnType = some .int) (hlk : meth.locks = false) (hK : va_K (dC, dI) zcl (zty cI cZ cR cA) s) (out : Int32 × zS) (v1 : Int32) (v2 : Int32) (v3 : Int32) (t0 : Int32) (st : zS) (H : Heap) (locs : List Loc) (ls : Array Slot) (hP : zV (dC, dI) zcl (zKs n) ad (zcE n cI cZ cR cA ad) st H) (hS : va_S A s.heap H locs) (hl : lv_has ls 7 [(0, .ref (ad (0, 0))), (1, .int v1), (2, .int v2), (3, .int v3)]) (hF : F_D_connect_L65 n v1 v2 v3 t0 st = some out) : W p l e rm_D_connect s m args below meth c H locs 0 0 (zQ below A (fun o H => o = some (.int out.1) ∧ zV (dC, dI) zcl (zKs n) ad (zcE n cI cZ cR cA ad) out.2 H) args s) (F0 m 65 ls [.int t0]) := by
  unfold F_D_connect_L65 at hF
  refine lv_istore S.1 S.2.1 d_D_connect_65 hl (by decide) rfl (fun ls hl => ?_)
  have hl : lv_has ls 7 [(4, .int t0), (0, .ref (ad (0, 0))), (1, .int v1), (2, .int v2), (3, .int v3)] := hl
  refine lv_aload_n S.1 S.2.1 d_D_connect_67 rfl (lv_at hl 1 rfl) ?_
  refine zr_get (v := .ref (ad (1, 0))) S zi_D hK hP zk_0 rfl rfl 1 (by decide) zx_9 rfl d_D_connect_68 ?_
  refine lv_iload_n S.1 S.2.1 d_D_connect_71 rfl (lv_at hl 2 rfl) ?_
  by_cases g72 : zOut v1 n
  · rw [if_pos g72] at hF; cases hF
  rw [if_neg g72] at hF
  refine zr_aald (b := ad (6, (Int32.toNatClampNeg v1))) S hK hP zk_1 rfl 3 rfl rfl g72 rfl d_D_connect_72 ?_
  refine lv_iload_n S.1 S.2.1 d_D_connect_73 rfl (lv_at hl 3 rfl) ?_
  refine lv_iload_n S.1 S.2.1 d_D_connect_74 rfl (lv_at hl 4 rfl) ?_
  by_cases g75 : zOut v2 n
  · rw [if_pos g75] at hF; cases hF
  rw [if_neg g75] at hF
  refine zr_iast S hK hP hD hS (zk_6 g72) (fun _ => rfl) 0 rfl g75 d_D_connect_75 (fun H locs hP hS => ?_)
  replace hF : F_D_connect_L65_s1 n t0 v1 v2 v3 (zs st 6 (Int32.toNatClampNeg v1) (Int32.toNatClampNeg v2) v3) = some out := hF
  generalize zs st 6 (Int32.toNatClampNeg v1) (Int32.toNatClampNeg v2) v3 = st76 at hP hF
  unfold F_D_connect_L65_s1 at hF
  refine lv_aload_n S.1 S.2.1 d_D_connect_76 rfl (lv_at hl 1 rfl) ?_
  refine zr_get (v := .ref (ad (1, 0))) S zi_D hK hP zk_0 rfl rfl 1 (by decide) zx_9 rfl d_D_connect_77 ?_
  refine lv_iload_n S.1 S.2.1 d_D_connect_80 rfl (lv_at hl 3 rfl) ?_
  by_cases g81 : zOut v2 n
  · rw [if_pos g81] at hF; cases hF
  rw [if_neg g81] at hF
  refine zr_aald (b := ad (6, (Int32.toNatClampNeg v2))) S hK hP zk_1 rfl 3 rfl rfl g81 rfl d_D_connect_81 ?_
  refine lv_iload_n S.1 S.2.1 d_D_connect_82 rfl (lv_at hl 2 rfl) ?_
  refine lv_iload_n S.1 S.2.1 d_D_connect_83 rfl (lv_at hl 4 rfl) ?_
  by_cases g84 : zOut v1 n
  · rw [if_pos g84] at hF; cases hF
  rw [if_neg g84] at hF
  refine zr_iast S hK hP hD hS (zk_6 g81) (fun _ => rfl) 0 rfl g84 d_D_connect_84 (fun H locs hP hS => ?_)
  replace hF : F_D_connect_L65_s2 n t0 v1 v2 (zs st76 6 (Int32.toNatClampNeg v2) (Int32.toNatClampNeg v1) v3) = some out := hF
  generalize zs st76 6 (Int32.toNatClampNeg v2) (Int32.toNatClampNeg v1) v3 = st85 at hP hF
  unfold F_D_connect_L65_s2 at hF
  refine lv_iload_n S.1 S.2.1 d_D_connect_85 rfl (lv_at hl 2 rfl) ?_
  refine lv_iload_n S.1 S.2.1 d_D_connect_86 rfl (lv_at hl 3 rfl) ?_
  refine va_mmin S.1 S.2.1 (S.2.2.1.trans hl.1.symm) S.2.2.2.1 (S.2.2.2.2 _ zx_89) (S.2.2.2.2 _ zx_122) (S.2.2.2.2 _ zx_53) (S.2.2.2.2 _ zx_1) (Nat.le_of_ble_eq_true rfl) (Nat.le_of_ble_eq_true rfl) (Nat.zero_le _) (Nat.zero_le _) d_D_connect_87 ?_
  refine lv_istore S.1 S.2.1 d_D_connect_90 hl (by decide) rfl (fun ls hl => ?_)
  have hl : lv_has ls 7 [(5, .int (if v2 < v1 then v2 else v1)), (4, .int t0), (0, .ref (ad (0, 0))), (1, .int v1), (2, .int v2), (3, .int v3)] := hl
  refine lv_iload_n S.1 S.2.1 d_D_connect_92 rfl (lv_at hl 3 rfl) ?_
  refine lv_iload_n S.1 S.2.1 d_D_connect_93 rfl (lv_at hl 4 rfl) ?_
  refine va_mmax S.1 S.2.1 (S.2.2.1.trans hl.1.symm) S.2.2.2.1 (S.2.2.2.2 _ zx_64) (S.2.2.2.2 _ zx_121) (S.2.2.2.2 _ zx_53) (S.2.2.2.2 _ zx_0) (Nat.le_of_ble_eq_true rfl) (Nat.le_of_ble_eq_true rfl) (Nat.zero_le _) (Nat.zero_le _) d_D_connect_94 ?_
  refine lv_istore S.1 S.2.1 d_D_connect_97 hl (by decide) rfl (fun ls hl => ?_)
  have hl : lv_has ls 7 [(6, .int (if v1 < v2 then v2 else v1)), (5, .int (if v2 < v1 then v2 else v1)), (4, .int t0), (0, .ref (ad (0, 0))), (1, .int v1), (2, .int v2), (3, .int v3)] := hl
  refine lv_iload S.1 S.2.1 d_D_connect_99 (lv_at hl 2 rfl) ?_
  refine lv_if_eq (tgt := 133) S.1 S.2.1 d_D_connect_101 (by decide) (fun h101 => ?_) (fun h101 => ?_)
  · rw [if_pos h101] at hF
    refine lv_aload_n S.1 S.2.1 d_D_connect_133 rfl (lv_at hl 3 rfl) ?_
    refine lv_iload S.1 S.2.1 d_D_connect_134 (lv_at hl 1 rfl) ?_
    refine lv_iload S.1 S.2.1 d_D_connect_136 (lv_at hl 0 rfl) ?_
    cases hc138 : F_D_weighAgain n (if v2 < v1 then v2 else v1) (if v1 < v2 then v2 else v1) st85 with
    | none => rw [hc138] at hF; cases hF
    | some u138 =>
      obtain ⟨r138, st138⟩ := u138
      rw [hc138] at hF
      replace hF := zbind hF
      refine zr_callV (rest := []) S zT_good (C_D_weighAgain hn hD l (if v2 < v1 then v2 else v1) (if v1 < v2 then v2 else v1) st85 (r138, st138) hc138) zn_D_weighAgain zx_81 ⟨rfl, rfl⟩ ⟨Nat.le_of_ble_eq_true rfl, Nat.le_of_ble_eq_true rfl⟩ ⟨Nat.zero_le _, Nat.zero_le _⟩ hK (zr_recv hK hP zk_0 rfl rfl) hP hl.1 (Nat.le_of_ble_eq_true rfl) hS (fun _ h => h) d_D_connect_138 rfl (fun o H locs hpo _ _ hS => ?_)
      obtain ⟨rfl, hP⟩ := hpo
      refine W.eq (g2 := F0 m 141 ls []) rfl ?_
      replace hF : F_D_connect_L65_s3 n (if v1 < v2 then v2 else v1) (if v2 < v1 then v2 else v1) st138 = some out := hF
      replace hP : zV (dC, dI) zcl (zKs n) ad (zcE n cI cZ cR cA ad) st138 H := hP
      unfold F_D_connect_L65_s3 at hF
      refine lv_aload_n S.1 S.2.1 d_D_connect_141 rfl (lv_at hl 3 rfl) ?_
      refine lv_iload S.1 S.2.1 d_D_connect_142 (lv_at hl 0 rfl) ?_
      refine lv_iload S.1 S.2.1 d_D_connect_144 (lv_at hl 1 rfl) ?_
      cases hc146 : F_D_weighAgain n (if v1 < v2 then v2 else v1) (if v2 < v1 then v2 else v1) st138 with
      | none => rw [hc146] at hF; cases hF
      | some u146 =>
        obtain ⟨r146, st146⟩ := u146
        rw [hc146] at hF
        replace hF := zbind hF
        refine zr_callV (rest := []) S zT_good (C_D_weighAgain hn hD l (if v1 < v2 then v2 else v1) (if v2 < v1 then v2 else v1) st138 (r146, st146) hc146) zn_D_weighAgain zx_81 ⟨rfl, rfl⟩ ⟨Nat.le_of_ble_eq_true rfl, Nat.le_of_ble_eq_true rfl⟩ ⟨Nat.zero_le _, Nat.zero_le _⟩ hK (zr_recv hK hP zk_0 rfl rfl) hP hl.1 (Nat.le_of_ble_eq_true rfl) hS (fun _ h => h) d_D_connect_146 rfl (fun o H locs hpo _ _ hS => ?_)
        obtain ⟨rfl, hP⟩ := hpo
        refine W.eq (g2 := F0 m 149 ls []) rfl ?_
        replace hF : F_D_connect_L65_s4 n st146 = some out := hF
        replace hP : zV (dC, dI) zcl (zKs n) ad (zcE n cI cZ cR cA ad) st146 H := hP
        unfold F_D_connect_L65_s4 at hF
        refine lv_aload_n S.1 S.2.1 d_D_connect_149 rfl (lv_at hl 3 rfl) ?_
        refine zr_get (v := .int (st146 0 0 0)) S zi_D hK hP zk_0 rfl rfl 4 (by decide) zx_12 rfl d_D_connect_150 ?_
        cases hF
        exact zr_iret S hret hlk hS d_D_connect_153 ⟨rfl, hP⟩
  · rw [if_neg h101] at hF
    refine lv_aload_n S.1 S.2.1 d_D_connect_104 rfl (lv_at hl 3 rfl) ?_
    refine lv_dup S.1 S.2.1 d_D_connect_105 rfl ?_
    refine zr_get (v := .int (st85 0 0 0)) S zi_D hK hP zk_0 rfl rfl 4 (by decide) zx_12 rfl d_D_connect_106 ?_
    refine lv_iconst (v := 1) S.1 S.2.1 d_D_connect_109 (by decide) ?_
    refine lv_iadd S.1 S.2.1 d_D_connect_110 ?_
    refine zr_put (v := (st85 0 0 0) + 1) S zi_D t_D t_D_ok n_D hK hP hD hS zk_0 rfl rfl 4 (by decide) zx_12 rfl rfl rfl (Nat.le_of_ble_eq_true rfl) 0 rfl d_D_connect_111 (fun H locs hP hS => ?_)
    replace hF : F_D_connect_L65_s5 n (if v1 < v2 then v2 else v1) (if v2 < v1 then v2 else v1) (zs st85 0 0 0 ((st85 0 0 0) + 1)) = some out := hF
    generalize zs st85 0 0 0 ((st85 0 0 0) + 1) = st114 at hP hF
    unfold F_D_connect_L65_s5 at hF
    refine lv_aload_n S.1 S.2.1 d_D_connect_114 rfl (lv_at hl 3 rfl) ?_
    refine lv_iload S.1 S.2.1 d_D_connect_115 (lv_at hl 1 rfl) ?_
    refine lv_iload S.1 S.2.1 d_D_connect_117 (lv_at hl 0 rfl) ?_
    cases hc119 : F_D_greet n (if v2 < v1 then v2 else v1) (if v1 < v2 then v2 else v1) st114 with
    | none => rw [hc119] at hF; cases hF
    | some u119 =>
      obtain ⟨r119, st119⟩ := u119
      rw [hc119] at hF
      replace hF := zbind hF
      refine zr_callV (rest := []) S zT_good (C_D_greet hn hD l (if v2 < v1 then v2 else v1) (if v1 < v2 then v2 else v1) st114 (r119, st119) hc119) zn_D_greet zx_80 ⟨rfl, rfl⟩ ⟨Nat.le_of_ble_eq_true rfl, Nat.le_of_ble_eq_true rfl⟩ ⟨Nat.zero_le _, Nat.zero_le _⟩ hK (zr_recv hK hP zk_0 rfl rfl) hP hl.1 (Nat.le_of_ble_eq_true rfl) hS (fun _ h => h) d_D_connect_119 rfl (fun o H locs hpo _ _ hS => ?_)
      obtain ⟨rfl, hP⟩ := hpo
      refine W.eq (g2 := F0 m 122 ls []) rfl ?_
      replace hF : F_D_connect_L65_s6 n (if v1 < v2 then v2 else v1) (if v2 < v1 then v2 else v1) st119 = some out := hF
      replace hP : zV (dC, dI) zcl (zKs n) ad (zcE n cI cZ cR cA ad) st119 H := hP
      unfold F_D_connect_L65_s6 at hF
      refine lv_aload_n S.1 S.2.1 d_D_connect_122 rfl (lv_at hl 3 rfl) ?_
      refine lv_iload S.1 S.2.1 d_D_connect_123 (lv_at hl 0 rfl) ?_
      refine lv_iload S.1 S.2.1 d_D_connect_125 (lv_at hl 1 rfl) ?_
      cases hc127 : F_D_greet n (if v1 < v2 then v2 else v1) (if v2 < v1 then v2 else v1) st119 with
      | none => rw [hc127] at hF; cases hF
      | some u127 =>
        obtain ⟨r127, st127⟩ := u127
        rw [hc127] at hF
        replace hF := zbind hF
        refine zr_callV (rest := []) S zT_good (C_D_greet hn hD l (if v1 < v2 then v2 else v1) (if v2 < v1 then v2 else v1) st119 (r127, st127) hc127) zn_D_greet zx_80 ⟨rfl, rfl⟩ ⟨Nat.le_of_ble_eq_true rfl, Nat.le_of_ble_eq_true rfl⟩ ⟨Nat.zero_le _, Nat.zero_le _⟩ hK (zr_recv hK hP zk_0 rfl rfl) hP hl.1 (Nat.le_of_ble_eq_true rfl) hS (fun _ h => h) d_D_connect_127 rfl (fun o H locs hpo _ _ hS => ?_)
        obtain ⟨rfl, hP⟩ := hpo
        refine W.eq (g2 := F0 m 130 ls []) rfl ?_
        replace hF : F_D_connect_L65_s7 n st127 = some out := hF
        replace hP : zV (dC, dI) zcl (zKs n) ad (zcE n cI cZ cR cA ad) st127 H := hP
        unfold F_D_connect_L65_s7 at hF
        refine lv_goto (tgt := 149) S.1 S.2.1 d_D_connect_130 (by decide) ?_
        refine lv_aload_n S.1 S.2.1 d_D_connect_149 rfl (lv_at hl 3 rfl) ?_
        refine zr_get (v := .int (st127 0 0 0)) S zi_D hK hP zk_0 rfl rfl 4 (by decide) zx_12 rfl d_D_connect_150 ?_
        cases hF
        exact zr_iret S hret hlk hS d_D_connect_153 ⟨rfl, hP⟩

set_option maxHeartbeats 4000000 in
set_option maxRecDepth 1000000 in
theorem C_D_connect {dC : Nat → ClassId} {dI : Nat → Nat → Nat} {cI cZ cR cA : ClassId} {n : Nat} {ad : zK → Nat} {A : Nat → Prop} (hn : 2 ≤ n ∧ n ≤ 6) (hD : zD A (zKs n) ad) (l : Launch) (v1 : Int32) (v2 : Int32) (v3 : Int32) (st : zS) (out : Int32 × zS) (hF : F_D_connect n v1 v2 v3 st = some out) : zC zT (dC, dI) zcl (zty cI cZ cR cA) A l y_D_connect b_D_connect 7 (some .int) rm_D_connect [.ref (ad (0, 0)), .int v1, .int v2, .int v3] (fun H => zV (dC, dI) zcl (zKs n) ad (zcE n cI cZ cR cA ad) st H) (fun o H => o = some (.int out.1) ∧ zV (dC, dI) zcl (zKs n) ad (zcE n cI cZ cR cA ad) out.2 H) := by
  refine zC_of (by decide) (Nat.le_of_ble_eq_true rfl) (fun p e s m args below meth c ls S hret hlk hK hP hl => ?_)
  have hS : va_S A s.heap s.heap [] := va_S.rf
  have hl : lv_has ls 7 [(0, .ref (ad (0, 0))), (1, .int v1), (2, .int v2), (3, .int v3)] := hl
  have hP : zV (dC, dI) zcl (zKs n) ad (zcE n cI cZ cR cA ad) st s.heap := hP
  unfold F_D_connect at hF
  refine lv_aload_n S.1 S.2.1 d_D_connect_0 rfl (lv_at hl 0 rfl) ?_
  refine lv_iload_n S.1 S.2.1 d_D_connect_1 rfl (lv_at hl 1 rfl) ?_
  cases hc2 : F_D_isRouter n v1 st with
  | none => rw [hc2] at hF; cases hF
  | some u2 =>
    obtain ⟨r2, st2⟩ := u2
    rw [hc2] at hF
    replace hF := zbind hF
    refine zr_callV (rest := []) S zT_good (C_D_isRouter hn hD l v1 st (r2, st2) hc2) zn_D_isRouter zx_78 ⟨rfl, rfl⟩ ⟨Nat.le_of_ble_eq_true rfl, Nat.le_of_ble_eq_true rfl⟩ ⟨Nat.zero_le _, Nat.zero_le _⟩ hK (zr_recv hK hP zk_0 rfl rfl) hP hl.1 (Nat.le_of_ble_eq_true rfl) hS (fun _ h => h) d_D_connect_2 rfl (fun o H locs hpo _ _ hS => ?_)
    obtain ⟨rfl, hP⟩ := hpo
    refine W.eq (g2 := F0 m 5 ls [.int r2]) rfl ?_
    replace hF : F_D_connect_s1 n v1 v2 v3 r2 st2 = some out := hF
    replace hP : zV (dC, dI) zcl (zKs n) ad (zcE n cI cZ cR cA ad) st2 H := hP
    unfold F_D_connect_s1 at hF
    refine lv_if_eq (tgt := 32) S.1 S.2.1 d_D_connect_5 (by decide) (fun h5 => ?_) (fun h5 => ?_)
    · rw [if_pos h5] at hF
      refine lv_iconst (v := (-1)) S.1 S.2.1 d_D_connect_32 (by decide) ?_
      cases hF
      exact zr_iret S hret hlk hS d_D_connect_33 ⟨rfl, hP⟩
    · rw [if_neg h5] at hF
      refine lv_aload_n S.1 S.2.1 d_D_connect_8 rfl (lv_at hl 0 rfl) ?_
      refine lv_iload_n S.1 S.2.1 d_D_connect_9 rfl (lv_at hl 2 rfl) ?_
      cases hc10 : F_D_isRouter n v2 st2 with
      | none => rw [hc10] at hF; cases hF
      | some u10 =>
        obtain ⟨r10, st10⟩ := u10
        rw [hc10] at hF
        replace hF := zbind hF
        refine zr_callV (rest := []) S zT_good (C_D_isRouter hn hD l v2 st2 (r10, st10) hc10) zn_D_isRouter zx_78 ⟨rfl, rfl⟩ ⟨Nat.le_of_ble_eq_true rfl, Nat.le_of_ble_eq_true rfl⟩ ⟨Nat.zero_le _, Nat.zero_le _⟩ hK (zr_recv hK hP zk_0 rfl rfl) hP hl.1 (Nat.le_of_ble_eq_true rfl) hS (fun _ h => h) d_D_connect_10 rfl (fun o H locs hpo _ _ hS => ?_)
        obtain ⟨rfl, hP⟩ := hpo
        refine W.eq (g2 := F0 m 13 ls [.int r10]) rfl ?_
        replace hF : F_D_connect_s2 n v1 v2 v3 r10 st10 = some out := hF
        replace hP : zV (dC, dI) zcl (zKs n) ad (zcE n cI cZ cR cA ad) st10 H := hP
        unfold F_D_connect_s2 at hF
        refine lv_if_eq (tgt := 32) S.1 S.2.1 d_D_connect_13 (by decide) (fun h13 => ?_) (fun h13 => ?_)
        · rw [if_pos h13] at hF
          refine lv_iconst (v := (-1)) S.1 S.2.1 d_D_connect_32 (by decide) ?_
          cases hF
          exact zr_iret S hret hlk hS d_D_connect_33 ⟨rfl, hP⟩
        · rw [if_neg h13] at hF
          refine lv_iload_n S.1 S.2.1 d_D_connect_16 rfl (lv_at hl 1 rfl) ?_
          refine lv_iload_n S.1 S.2.1 d_D_connect_17 rfl (lv_at hl 2 rfl) ?_
          refine lv_icmp_eq (tgt := 32) S.1 S.2.1 d_D_connect_18 (by decide) (fun h18 => ?_) (fun h18 => ?_)
          · rw [if_pos h18] at hF
            refine lv_iconst (v := (-1)) S.1 S.2.1 d_D_connect_32 (by decide) ?_
            cases hF
            exact zr_iret S hret hlk hS d_D_connect_33 ⟨rfl, hP⟩
          · rw [if_neg h18] at hF
            refine lv_iload_n S.1 S.2.1 d_D_connect_21 rfl (lv_at hl 3 rfl) ?_
            refine lv_iconst (v := 1) S.1 S.2.1 d_D_connect_22 (by decide) ?_
            refine lv_icmp_lt (tgt := 32) S.1 S.2.1 d_D_connect_23 (by decide) (fun h23 => ?_) (fun h23 => ?_)
            · rw [if_pos h23] at hF
              refine lv_iconst (v := (-1)) S.1 S.2.1 d_D_connect_32 (by decide) ?_
              cases hF
              exact zr_iret S hret hlk hS d_D_connect_33 ⟨rfl, hP⟩
            · rw [if_neg h23] at hF
              refine lv_iload_n S.1 S.2.1 d_D_connect_26 rfl (lv_at hl 3 rfl) ?_
              refine lv_bipush (v := 100) S.1 S.2.1 d_D_connect_27 (by decide) ?_
              refine lv_icmp_le (tgt := 34) S.1 S.2.1 d_D_connect_29 (by decide) (fun h29 => ?_) (fun h29 => ?_)
              · rw [if_pos h29] at hF
                refine lv_aload_n S.1 S.2.1 d_D_connect_34 rfl (lv_at hl 0 rfl) ?_
                refine zr_get (v := .ref (ad (3, 0))) S zi_D hK hP zk_0 rfl rfl 3 (by decide) zx_11 rfl d_D_connect_35 ?_
                cases hc38 : F_L_size n st10 with
                | none => rw [hc38] at hF; cases hF
                | some u38 =>
                  obtain ⟨r38, st38⟩ := u38
                  rw [hc38] at hF
                  replace hF := zbind hF
                  refine zr_callV (rest := []) S zT_good (C_L_size hn hD l st10 (r38, st38) hc38) zn_L_size zx_79 ⟨rfl, rfl⟩ ⟨Nat.le_of_ble_eq_true rfl, Nat.le_of_ble_eq_true rfl⟩ ⟨Nat.zero_le _, Nat.zero_le _⟩ hK (zr_recv hK hP zk_3 rfl rfl) hP hl.1 (Nat.le_of_ble_eq_true rfl) hS (fun _ h => h) d_D_connect_38 rfl (fun o H locs hpo _ _ hS => ?_)
                  obtain ⟨rfl, hP⟩ := hpo
                  refine W.eq (g2 := F0 m 41 ls [.int r38]) rfl ?_
                  replace hF : F_D_connect_s3 n v1 v2 v3 r38 st38 = some out := hF
                  replace hP : zV (dC, dI) zcl (zKs n) ad (zcE n cI cZ cR cA ad) st38 H := hP
                  unfold F_D_connect_s3 at hF
                  refine lv_bipush (v := 100) S.1 S.2.1 d_D_connect_41 (by decide) ?_
                  refine lv_icmp_le (tgt := 49) S.1 S.2.1 d_D_connect_43 (by decide) (fun h43 => ?_) (fun h43 => ?_)
                  · rw [if_pos h43] at hF
                    refine lv_aload_n S.1 S.2.1 d_D_connect_49 rfl (lv_at hl 0 rfl) ?_
                    refine zr_get (v := .ref (ad (1, 0))) S zi_D hK hP zk_0 rfl rfl 1 (by decide) zx_9 rfl d_D_connect_50 ?_
                    refine lv_iload_n S.1 S.2.1 d_D_connect_53 rfl (lv_at hl 1 rfl) ?_
                    by_cases g54 : zOut v1 n
                    · rw [if_pos g54] at hF; cases hF
                    rw [if_neg g54] at hF
                    refine zr_aald (b := ad (6, (Int32.toNatClampNeg v1))) S hK hP zk_1 rfl 3 rfl rfl g54 rfl d_D_connect_54 ?_
                    refine lv_iload_n S.1 S.2.1 d_D_connect_55 rfl (lv_at hl 2 rfl) ?_
                    by_cases g56 : zOut v2 n
                    · rw [if_pos g56] at hF; cases hF
                    rw [if_neg g56] at hF
                    refine zr_iald S hK hP (zk_6 g54) rfl 0 rfl g56 d_D_connect_56 ?_
                    refine lv_if_ne (tgt := 64) S.1 S.2.1 d_D_connect_57 (by decide) (fun h57 => ?_) (fun h57 => ?_)
                    · rw [if_neg h57] at hF
                      refine lv_iconst (v := 0) S.1 S.2.1 d_D_connect_64 (by decide) ?_
                      exact T_D_connect_L65 hn hD S hret hlk hK out v1 v2 v3 0 st38 _ _ _ hP hS (lv_sub hl [0, 1, 2, 3] rfl) hF
                    · rw [if_pos h57] at hF
                      refine lv_iconst (v := 1) S.1 S.2.1 d_D_connect_60 (by decide) ?_
                      refine lv_goto (tgt := 65) S.1 S.2.1 d_D_connect_61 (by decide) ?_
                      exact T_D_connect_L65 hn hD S hret hlk hK out v1 v2 v3 1 st38 _ _ _ hP hS (lv_sub hl [0, 1, 2, 3] rfl) hF
                  · rw [if_neg h43] at hF
                    refine lv_bipush (v := (-2)) S.1 S.2.1 d_D_connect_46 (by decide) ?_
                    cases hF
                    exact zr_iret S hret hlk hS d_D_connect_48 ⟨rfl, hP⟩
              · rw [if_neg h29] at hF
                refine lv_iconst (v := (-1)) S.1 S.2.1 d_D_connect_32 (by decide) ?_
                cases hF
                exact zr_iret S hret hlk hS d_D_connect_33 ⟨rfl, hP⟩

theorem d_D_isLink_0 : decode b_D_isLink 0 = .ok (.aload_n 0, 1) := by decide +kernel
theorem d_D_isLink_1 : decode b_D_isLink 1 = .ok (.iload_n 1, 1) := by decide +kernel
theorem d_D_isLink_2 : decode b_D_isLink 2 = .ok (.invokevirtual 43, 3) := by decide +kernel
theorem d_D_isLink_5 : decode b_D_isLink 5 = .ok (.ifCond .eq 26, 3) := by decide +kernel
theorem d_D_isLink_8 : decode b_D_isLink 8 = .ok (.aload_n 0, 1) := by decide +kernel
theorem d_D_isLink_9 : decode b_D_isLink 9 = .ok (.iload_n 2, 1) := by decide +kernel
theorem d_D_isLink_10 : decode b_D_isLink 10 = .ok (.invokevirtual 43, 3) := by decide +kernel
theorem d_D_isLink_13 : decode b_D_isLink 13 = .ok (.ifCond .eq 18, 3) := by decide +kernel
theorem d_D_isLink_16 : decode b_D_isLink 16 = .ok (.aload_n 0, 1) := by decide +kernel
theorem d_D_isLink_17 : decode b_D_isLink 17 = .ok (.getfield 24, 3) := by decide +kernel
theorem d_D_isLink_20 : decode b_D_isLink 20 = .ok (.iload_n 1, 1) := by decide +kernel
theorem d_D_isLink_21 : decode b_D_isLink 21 = .ok (.aaload, 1) := by decide +kernel
theorem d_D_isLink_22 : decode b_D_isLink 22 = .ok (.iload_n 2, 1) := by decide +kernel
theorem d_D_isLink_23 : decode b_D_isLink 23 = .ok (.iaload, 1) := by decide +kernel
theorem d_D_isLink_24 : decode b_D_isLink 24 = .ok (.ifCond .le 7, 3) := by decide +kernel
theorem d_D_isLink_27 : decode b_D_isLink 27 = .ok (.iconst 1, 1) := by decide +kernel
theorem d_D_isLink_28 : decode b_D_isLink 28 = .ok (.goto 4, 3) := by decide +kernel
theorem d_D_isLink_31 : decode b_D_isLink 31 = .ok (.iconst 0, 1) := by decide +kernel
theorem d_D_isLink_32 : decode b_D_isLink 32 = .ok (.ireturn, 1) := by decide +kernel
def F_D_isLink_s2 (n : Nat) (v1 : Int32) (v2 : Int32) (t0 : Int32) (st : zS) : Option (Int32 × zS) :=
    if t0 = 0 then (some (0, st)) else (if zOut v1 n then none else if zOut v2 n then none else if (st 6 (Int32.toNatClampNeg v1) (Int32.toNatClampNeg v2)) ≤ 0 then (some (0, st)) else (some (1, st)))

def F_D_isLink_s1 (n : Nat) (v1 : Int32) (v2 : Int32) (t0 : Int32) (st : zS) : Option (Int32 × zS) :=
    if t0 = 0 then (some (0, st)) else ((F_D_isRouter n v2 st).bind (fun u => F_D_isLink_s2 n v1 v2 u.1 u.2))

def F_D_isLink (n : Nat) (v1 : Int32) (v2 : Int32) (st : zS) : Option (Int32 × zS) :=
    (F_D_isRouter n v1 st).bind (fun u => F_D_isLink_s1 n v1 v2 u.1 u.2)

set_option maxHeartbeats 4000000 in
set_option maxRecDepth 1000000 in
theorem C_D_isLink {dC : Nat → ClassId} {dI : Nat → Nat → Nat} {cI cZ cR cA : ClassId} {n : Nat} {ad : zK → Nat} {A : Nat → Prop} (hn : 2 ≤ n ∧ n ≤ 6) (hD : zD A (zKs n) ad) (l : Launch) (v1 : Int32) (v2 : Int32) (st : zS) (out : Int32 × zS) (hF : F_D_isLink n v1 v2 st = some out) : zC zT (dC, dI) zcl (zty cI cZ cR cA) A l y_D_isLink b_D_isLink 3 (some .boolean) rm_D_isLink [.ref (ad (0, 0)), .int v1, .int v2] (fun H => zV (dC, dI) zcl (zKs n) ad (zcE n cI cZ cR cA ad) st H) (fun o H => o = some (.int out.1) ∧ zV (dC, dI) zcl (zKs n) ad (zcE n cI cZ cR cA ad) out.2 H) := by
  refine zC_of (by decide) (Nat.le_of_ble_eq_true rfl) (fun p e s m args below meth c ls S hret hlk hK hP hl => ?_)
  have hS : va_S A s.heap s.heap [] := va_S.rf
  have hl : lv_has ls 3 [(0, .ref (ad (0, 0))), (1, .int v1), (2, .int v2)] := hl
  have hP : zV (dC, dI) zcl (zKs n) ad (zcE n cI cZ cR cA ad) st s.heap := hP
  unfold F_D_isLink at hF
  refine lv_aload_n S.1 S.2.1 d_D_isLink_0 rfl (lv_at hl 0 rfl) ?_
  refine lv_iload_n S.1 S.2.1 d_D_isLink_1 rfl (lv_at hl 1 rfl) ?_
  cases hc2 : F_D_isRouter n v1 st with
  | none => rw [hc2] at hF; cases hF
  | some u2 =>
    obtain ⟨r2, st2⟩ := u2
    rw [hc2] at hF
    replace hF := zbind hF
    refine zr_callV (rest := []) S zT_good (C_D_isRouter hn hD l v1 st (r2, st2) hc2) zn_D_isRouter zx_78 ⟨rfl, rfl⟩ ⟨Nat.le_of_ble_eq_true rfl, Nat.le_of_ble_eq_true rfl⟩ ⟨Nat.zero_le _, Nat.zero_le _⟩ hK (zr_recv hK hP zk_0 rfl rfl) hP hl.1 (Nat.le_of_ble_eq_true rfl) hS (fun _ h => h) d_D_isLink_2 rfl (fun o H locs hpo _ _ hS => ?_)
    obtain ⟨rfl, hP⟩ := hpo
    refine W.eq (g2 := F0 m 5 ls [.int r2]) rfl ?_
    replace hF : F_D_isLink_s1 n v1 v2 r2 st2 = some out := hF
    replace hP : zV (dC, dI) zcl (zKs n) ad (zcE n cI cZ cR cA ad) st2 H := hP
    unfold F_D_isLink_s1 at hF
    refine lv_if_eq (tgt := 31) S.1 S.2.1 d_D_isLink_5 (by decide) (fun h5 => ?_) (fun h5 => ?_)
    · rw [if_pos h5] at hF
      refine lv_iconst (v := 0) S.1 S.2.1 d_D_isLink_31 (by decide) ?_
      cases hF
      exact zr_zret S hret hlk (by decide) hS d_D_isLink_32 ⟨rfl, hP⟩
    · rw [if_neg h5] at hF
      refine lv_aload_n S.1 S.2.1 d_D_isLink_8 rfl (lv_at hl 0 rfl) ?_
      refine lv_iload_n S.1 S.2.1 d_D_isLink_9 rfl (lv_at hl 2 rfl) ?_
      cases hc10 : F_D_isRouter n v2 st2 with
      | none => rw [hc10] at hF; cases hF
      | some u10 =>
        obtain ⟨r10, st10⟩ := u10
        rw [hc10] at hF
        replace hF := zbind hF
        refine zr_callV (rest := []) S zT_good (C_D_isRouter hn hD l v2 st2 (r10, st10) hc10) zn_D_isRouter zx_78 ⟨rfl, rfl⟩ ⟨Nat.le_of_ble_eq_true rfl, Nat.le_of_ble_eq_true rfl⟩ ⟨Nat.zero_le _, Nat.zero_le _⟩ hK (zr_recv hK hP zk_0 rfl rfl) hP hl.1 (Nat.le_of_ble_eq_true rfl) hS (fun _ h => h) d_D_isLink_10 rfl (fun o H locs hpo _ _ hS => ?_)
        obtain ⟨rfl, hP⟩ := hpo
        refine W.eq (g2 := F0 m 13 ls [.int r10]) rfl ?_
        replace hF : F_D_isLink_s2 n v1 v2 r10 st10 = some out := hF
        replace hP : zV (dC, dI) zcl (zKs n) ad (zcE n cI cZ cR cA ad) st10 H := hP
        unfold F_D_isLink_s2 at hF
        refine lv_if_eq (tgt := 31) S.1 S.2.1 d_D_isLink_13 (by decide) (fun h13 => ?_) (fun h13 => ?_)
        · rw [if_pos h13] at hF
          refine lv_iconst (v := 0) S.1 S.2.1 d_D_isLink_31 (by decide) ?_
          cases hF
          exact zr_zret S hret hlk (by decide) hS d_D_isLink_32 ⟨rfl, hP⟩
        · rw [if_neg h13] at hF
          refine lv_aload_n S.1 S.2.1 d_D_isLink_16 rfl (lv_at hl 0 rfl) ?_
          refine zr_get (v := .ref (ad (1, 0))) S zi_D hK hP zk_0 rfl rfl 1 (by decide) zx_9 rfl d_D_isLink_17 ?_
          refine lv_iload_n S.1 S.2.1 d_D_isLink_20 rfl (lv_at hl 1 rfl) ?_
          by_cases g21 : zOut v1 n
          · rw [if_pos g21] at hF; cases hF
          rw [if_neg g21] at hF
          refine zr_aald (b := ad (6, (Int32.toNatClampNeg v1))) S hK hP zk_1 rfl 3 rfl rfl g21 rfl d_D_isLink_21 ?_
          refine lv_iload_n S.1 S.2.1 d_D_isLink_22 rfl (lv_at hl 2 rfl) ?_
          by_cases g23 : zOut v2 n
          · rw [if_pos g23] at hF; cases hF
          rw [if_neg g23] at hF
          refine zr_iald S hK hP (zk_6 g21) rfl 0 rfl g23 d_D_isLink_23 ?_
          refine lv_if_le (tgt := 31) S.1 S.2.1 d_D_isLink_24 (by decide) (fun h24 => ?_) (fun h24 => ?_)
          · rw [if_pos h24] at hF
            refine lv_iconst (v := 0) S.1 S.2.1 d_D_isLink_31 (by decide) ?_
            cases hF
            exact zr_zret S hret hlk (by decide) hS d_D_isLink_32 ⟨rfl, hP⟩
          · rw [if_neg h24] at hF
            refine lv_iconst (v := 1) S.1 S.2.1 d_D_isLink_27 (by decide) ?_
            refine lv_goto (tgt := 32) S.1 S.2.1 d_D_isLink_28 (by decide) ?_
            cases hF
            exact zr_zret S hret hlk (by decide) hS d_D_isLink_32 ⟨rfl, hP⟩

theorem d_L_senderOf_0 : decode b_L_senderOf 0 = .ok (.iload_n 0, 1) := by decide +kernel
theorem d_L_senderOf_1 : decode b_L_senderOf 1 = .ok (.bipush 22, 2) := by decide +kernel
theorem d_L_senderOf_3 : decode b_L_senderOf 3 = .ok (.ishr, 1) := by decide +kernel
theorem d_L_senderOf_4 : decode b_L_senderOf 4 = .ok (.ireturn, 1) := by decide +kernel
def F_L_senderOf (n : Nat) (v0 : Int32) (st : zS) : Option (Int32 × zS) :=
    some (v0 >>> (22 &&& 31), st)

set_option maxHeartbeats 4000000 in
set_option maxRecDepth 1000000 in
theorem C_L_senderOf {dC : Nat → ClassId} {dI : Nat → Nat → Nat} {cI cZ cR cA : ClassId} {n : Nat} {ad : zK → Nat} {A : Nat → Prop} (hn : 2 ≤ n ∧ n ≤ 6) (hD : zD A (zKs n) ad) (l : Launch) (v0 : Int32) (st : zS) (out : Int32 × zS) (hF : F_L_senderOf n v0 st = some out) : zC zT (dC, dI) zcl (zty cI cZ cR cA) A l y_L_senderOf b_L_senderOf 1 (some .int) rm_L_senderOf [.int v0] (fun H => zV (dC, dI) zcl (zKs n) ad (zcE n cI cZ cR cA ad) st H) (fun o H => o = some (.int out.1) ∧ zV (dC, dI) zcl (zKs n) ad (zcE n cI cZ cR cA ad) out.2 H) := by
  refine zC_of (by decide) (Nat.le_of_ble_eq_true rfl) (fun p e s m args below meth c ls S hret hlk hK hP hl => ?_)
  have hS : va_S A s.heap s.heap [] := va_S.rf
  have hl : lv_has ls 1 [(0, .int v0)] := hl
  have hP : zV (dC, dI) zcl (zKs n) ad (zcE n cI cZ cR cA ad) st s.heap := hP
  unfold F_L_senderOf at hF
  refine lv_iload_n S.1 S.2.1 d_L_senderOf_0 rfl (lv_at hl 0 rfl) ?_
  refine lv_bipush (v := 22) S.1 S.2.1 d_L_senderOf_1 (by decide) ?_
  refine lv_ishr S.1 S.2.1 d_L_senderOf_3 ?_
  cases hF
  exact zr_iret S hret hlk hS d_L_senderOf_4 ⟨rfl, hP⟩

theorem d_L_receiverOf_0 : decode b_L_receiverOf 0 = .ok (.iload_n 0, 1) := by decide +kernel
theorem d_L_receiverOf_1 : decode b_L_receiverOf 1 = .ok (.bipush 19, 2) := by decide +kernel
theorem d_L_receiverOf_3 : decode b_L_receiverOf 3 = .ok (.ishr, 1) := by decide +kernel
theorem d_L_receiverOf_4 : decode b_L_receiverOf 4 = .ok (.bipush 7, 2) := by decide +kernel
theorem d_L_receiverOf_6 : decode b_L_receiverOf 6 = .ok (.iand, 1) := by decide +kernel
theorem d_L_receiverOf_7 : decode b_L_receiverOf 7 = .ok (.ireturn, 1) := by decide +kernel
def F_L_receiverOf (n : Nat) (v0 : Int32) (st : zS) : Option (Int32 × zS) :=
    some ((v0 >>> (19 &&& 31)) &&& 7, st)

set_option maxHeartbeats 4000000 in
set_option maxRecDepth 1000000 in
theorem C_L_receiverOf {dC : Nat → ClassId} {dI : Nat → Nat → Nat} {cI cZ cR cA : ClassId} {n : Nat} {ad : zK → Nat} {A : Nat → Prop} (hn : 2 ≤ n ∧ n ≤ 6) (hD : zD A (zKs n) ad) (l : Launch) (v0 : Int32) (st : zS) (out : Int32 × zS) (hF : F_L_receiverOf n v0 st = some out) : zC zT (dC, dI) zcl (zty cI cZ cR cA) A l y_L_receiverOf b_L_receiverOf 1 (some .int) rm_L_receiverOf [.int v0] (fun H => zV (dC, dI) zcl (zKs n) ad (zcE n cI cZ cR cA ad) st H) (fun o H => o = some (.int out.1) ∧ zV (dC, dI) zcl (zKs n) ad (zcE n cI cZ cR cA ad) out.2 H) := by
  refine zC_of (by decide) (Nat.le_of_ble_eq_true rfl) (fun p e s m args below meth c ls S hret hlk hK hP hl => ?_)
  have hS : va_S A s.heap s.heap [] := va_S.rf
  have hl : lv_has ls 1 [(0, .int v0)] := hl
  have hP : zV (dC, dI) zcl (zKs n) ad (zcE n cI cZ cR cA ad) st s.heap := hP
  unfold F_L_receiverOf at hF
  refine lv_iload_n S.1 S.2.1 d_L_receiverOf_0 rfl (lv_at hl 0 rfl) ?_
  refine lv_bipush (v := 19) S.1 S.2.1 d_L_receiverOf_1 (by decide) ?_
  refine lv_ishr S.1 S.2.1 d_L_receiverOf_3 ?_
  refine lv_bipush (v := 7) S.1 S.2.1 d_L_receiverOf_4 (by decide) ?_
  refine lv_iand S.1 S.2.1 d_L_receiverOf_6 ?_
  cases hF
  exact zr_iret S hret hlk hS d_L_receiverOf_7 ⟨rfl, hP⟩

theorem d_L_isFromTo_0 : decode b_L_isFromTo 0 = .ok (.aload_n 0, 1) := by decide +kernel
theorem d_L_isFromTo_1 : decode b_L_isFromTo 1 = .ok (.getfield 11, 3) := by decide +kernel
theorem d_L_isFromTo_4 : decode b_L_isFromTo 4 = .ok (.iload_n 1, 1) := by decide +kernel
theorem d_L_isFromTo_5 : decode b_L_isFromTo 5 = .ok (.iaload, 1) := by decide +kernel
theorem d_L_isFromTo_6 : decode b_L_isFromTo 6 = .ok (.invokestatic 46, 3) := by decide +kernel
theorem d_L_isFromTo_9 : decode b_L_isFromTo 9 = .ok (.iload_n 2, 1) := by decide +kernel
theorem d_L_isFromTo_10 : decode b_L_isFromTo 10 = .ok (.if_icmp .ne 20, 3) := by decide +kernel
theorem d_L_isFromTo_13 : decode b_L_isFromTo 13 = .ok (.aload_n 0, 1) := by decide +kernel
theorem d_L_isFromTo_14 : decode b_L_isFromTo 14 = .ok (.getfield 11, 3) := by decide +kernel
theorem d_L_isFromTo_17 : decode b_L_isFromTo 17 = .ok (.iload_n 1, 1) := by decide +kernel
theorem d_L_isFromTo_18 : decode b_L_isFromTo 18 = .ok (.iaload, 1) := by decide +kernel
theorem d_L_isFromTo_19 : decode b_L_isFromTo 19 = .ok (.invokestatic 50, 3) := by decide +kernel
theorem d_L_isFromTo_22 : decode b_L_isFromTo 22 = .ok (.iload_n 3, 1) := by decide +kernel
theorem d_L_isFromTo_23 : decode b_L_isFromTo 23 = .ok (.if_icmp .ne 7, 3) := by decide +kernel
theorem d_L_isFromTo_26 : decode b_L_isFromTo 26 = .ok (.iconst 1, 1) := by decide +kernel
theorem d_L_isFromTo_27 : decode b_L_isFromTo 27 = .ok (.goto 4, 3) := by decide +kernel
theorem d_L_isFromTo_30 : decode b_L_isFromTo 30 = .ok (.iconst 0, 1) := by decide +kernel
theorem d_L_isFromTo_31 : decode b_L_isFromTo 31 = .ok (.ireturn, 1) := by decide +kernel
def F_L_isFromTo_s2 (n : Nat) (v3 : Int32) (t0 : Int32) (st : zS) : Option (Int32 × zS) :=
    if t0 = v3 then (some (1, st)) else (some (0, st))

def F_L_isFromTo_s1 (n : Nat) (v1 : Int32) (v2 : Int32) (v3 : Int32) (t0 : Int32) (st : zS) : Option (Int32 × zS) :=
    if t0 = v2 then (if zOut v1 1024 then none else (F_L_receiverOf n (st 4 0 (Int32.toNatClampNeg v1)) st).bind (fun u => F_L_isFromTo_s2 n v3 u.1 u.2)) else (some (0, st))

def F_L_isFromTo (n : Nat) (v1 : Int32) (v2 : Int32) (v3 : Int32) (st : zS) : Option (Int32 × zS) :=
    if zOut v1 1024 then none else (F_L_senderOf n (st 4 0 (Int32.toNatClampNeg v1)) st).bind (fun u => F_L_isFromTo_s1 n v1 v2 v3 u.1 u.2)

set_option maxHeartbeats 4000000 in
set_option maxRecDepth 1000000 in
theorem C_L_isFromTo {dC : Nat → ClassId} {dI : Nat → Nat → Nat} {cI cZ cR cA : ClassId} {n : Nat} {ad : zK → Nat} {A : Nat → Prop} (hn : 2 ≤ n ∧ n ≤ 6) (hD : zD A (zKs n) ad) (l : Launch) (v1 : Int32) (v2 : Int32) (v3 : Int32) (st : zS) (out : Int32 × zS) (hF : F_L_isFromTo n v1 v2 v3 st = some out) : zC zT (dC, dI) zcl (zty cI cZ cR cA) A l y_L_isFromTo b_L_isFromTo 4 (some .boolean) rm_L_isFromTo [.ref (ad (3, 0)), .int v1, .int v2, .int v3] (fun H => zV (dC, dI) zcl (zKs n) ad (zcE n cI cZ cR cA ad) st H) (fun o H => o = some (.int out.1) ∧ zV (dC, dI) zcl (zKs n) ad (zcE n cI cZ cR cA ad) out.2 H) := by
  refine zC_of (by decide) (Nat.le_of_ble_eq_true rfl) (fun p e s m args below meth c ls S hret hlk hK hP hl => ?_)
  have hS : va_S A s.heap s.heap [] := va_S.rf
  have hl : lv_has ls 4 [(0, .ref (ad (3, 0))), (1, .int v1), (2, .int v2), (3, .int v3)] := hl
  have hP : zV (dC, dI) zcl (zKs n) ad (zcE n cI cZ cR cA ad) st s.heap := hP
  unfold F_L_isFromTo at hF
  refine lv_aload_n S.1 S.2.1 d_L_isFromTo_0 rfl (lv_at hl 0 rfl) ?_
  refine zr_get (v := .ref (ad (4, 0))) S zi_L hK hP zk_3 rfl rfl 0 (by decide) zx_18 rfl d_L_isFromTo_1 ?_
  refine lv_iload_n S.1 S.2.1 d_L_isFromTo_4 rfl (lv_at hl 1 rfl) ?_
  by_cases g5 : zOut v1 1024
  · rw [if_pos g5] at hF; cases hF
  rw [if_neg g5] at hF
  refine zr_iald S hK hP zk_4 rfl 0 rfl g5 d_L_isFromTo_5 ?_
  cases hc6 : F_L_senderOf n (st 4 0 (Int32.toNatClampNeg v1)) st with
  | none => rw [hc6] at hF; cases hF
  | some u6 =>
    obtain ⟨r6, st6⟩ := u6
    rw [hc6] at hF
    replace hF := zbind hF
    refine zr_callS (rest := []) S zT_good (C_L_senderOf hn hD l (st 4 0 (Int32.toNatClampNeg v1)) st (r6, st6) hc6) zn_L_senderOf zx_92 ⟨rfl, rfl⟩ ⟨Nat.le_of_ble_eq_true rfl, Nat.le_of_ble_eq_true rfl⟩ ⟨Nat.zero_le _, Nat.zero_le _⟩ hK hP hl.1 (Nat.le_of_ble_eq_true rfl) hS (fun _ h => h) d_L_isFromTo_6 rfl (fun o H locs hpo _ _ hS => ?_)
    obtain ⟨rfl, hP⟩ := hpo
    refine W.eq (g2 := F0 m 9 ls [.int r6]) rfl ?_
    replace hF : F_L_isFromTo_s1 n v1 v2 v3 r6 st6 = some out := hF
    replace hP : zV (dC, dI) zcl (zKs n) ad (zcE n cI cZ cR cA ad) st6 H := hP
    unfold F_L_isFromTo_s1 at hF
    refine lv_iload_n S.1 S.2.1 d_L_isFromTo_9 rfl (lv_at hl 2 rfl) ?_
    refine lv_icmp_ne (tgt := 30) S.1 S.2.1 d_L_isFromTo_10 (by decide) (fun h10 => ?_) (fun h10 => ?_)
    · rw [if_neg h10] at hF
      refine lv_iconst (v := 0) S.1 S.2.1 d_L_isFromTo_30 (by decide) ?_
      cases hF
      exact zr_zret S hret hlk (by decide) hS d_L_isFromTo_31 ⟨rfl, hP⟩
    · rw [if_pos h10] at hF
      refine lv_aload_n S.1 S.2.1 d_L_isFromTo_13 rfl (lv_at hl 0 rfl) ?_
      refine zr_get (v := .ref (ad (4, 0))) S zi_L hK hP zk_3 rfl rfl 0 (by decide) zx_18 rfl d_L_isFromTo_14 ?_
      refine lv_iload_n S.1 S.2.1 d_L_isFromTo_17 rfl (lv_at hl 1 rfl) ?_
      by_cases g18 : zOut v1 1024
      · rw [if_pos g18] at hF; cases hF
      rw [if_neg g18] at hF
      refine zr_iald S hK hP zk_4 rfl 0 rfl g18 d_L_isFromTo_18 ?_
      cases hc19 : F_L_receiverOf n (st6 4 0 (Int32.toNatClampNeg v1)) st6 with
      | none => rw [hc19] at hF; cases hF
      | some u19 =>
        obtain ⟨r19, st19⟩ := u19
        rw [hc19] at hF
        replace hF := zbind hF
        refine zr_callS (rest := []) S zT_good (C_L_receiverOf hn hD l (st6 4 0 (Int32.toNatClampNeg v1)) st6 (r19, st19) hc19) zn_L_receiverOf zx_93 ⟨rfl, rfl⟩ ⟨Nat.le_of_ble_eq_true rfl, Nat.le_of_ble_eq_true rfl⟩ ⟨Nat.zero_le _, Nat.zero_le _⟩ hK hP hl.1 (Nat.le_of_ble_eq_true rfl) hS (fun _ h => h) d_L_isFromTo_19 rfl (fun o H locs hpo _ _ hS => ?_)
        obtain ⟨rfl, hP⟩ := hpo
        refine W.eq (g2 := F0 m 22 ls [.int r19]) rfl ?_
        replace hF : F_L_isFromTo_s2 n v3 r19 st19 = some out := hF
        replace hP : zV (dC, dI) zcl (zKs n) ad (zcE n cI cZ cR cA ad) st19 H := hP
        unfold F_L_isFromTo_s2 at hF
        refine lv_iload_n S.1 S.2.1 d_L_isFromTo_22 rfl (lv_at hl 3 rfl) ?_
        refine lv_icmp_ne (tgt := 30) S.1 S.2.1 d_L_isFromTo_23 (by decide) (fun h23 => ?_) (fun h23 => ?_)
        · rw [if_neg h23] at hF
          refine lv_iconst (v := 0) S.1 S.2.1 d_L_isFromTo_30 (by decide) ?_
          cases hF
          exact zr_zret S hret hlk (by decide) hS d_L_isFromTo_31 ⟨rfl, hP⟩
        · rw [if_pos h23] at hF
          refine lv_iconst (v := 1) S.1 S.2.1 d_L_isFromTo_26 (by decide) ?_
          refine lv_goto (tgt := 31) S.1 S.2.1 d_L_isFromTo_27 (by decide) ?_
          cases hF
          exact zr_zret S hret hlk (by decide) hS d_L_isFromTo_31 ⟨rfl, hP⟩
end
section
theorem d_L_drop_0 : decode b_L_drop 0 = .ok (.aload_n 0, 1) := by decide +kernel
theorem d_L_drop_1 : decode b_L_drop 1 = .ok (.getfield 22, 3) := by decide +kernel
theorem d_L_drop_4 : decode b_L_drop 4 = .ok (.istore_n 3, 1) := by decide +kernel
theorem d_L_drop_5 : decode b_L_drop 5 = .ok (.aload_n 0, 1) := by decide +kernel
theorem d_L_drop_6 : decode b_L_drop 6 = .ok (.getfield 22, 3) := by decide +kernel
theorem d_L_drop_9 : decode b_L_drop 9 = .ok (.istore 4, 2) := by decide +kernel
theorem d_L_drop_11 : decode b_L_drop 11 = .ok (.iload 4, 2) := by decide +kernel
theorem d_L_drop_13 : decode b_L_drop 13 = .ok (.aload_n 0, 1) := by decide +kernel
theorem d_L_drop_14 : decode b_L_drop 14 = .ok (.getfield 18, 3) := by decide +kernel
theorem d_L_drop_17 : decode b_L_drop 17 = .ok (.if_icmp .ge 36, 3) := by decide +kernel
theorem d_L_drop_20 : decode b_L_drop 20 = .ok (.aload_n 0, 1) := by decide +kernel
theorem d_L_drop_21 : decode b_L_drop 21 = .ok (.iload 4, 2) := by decide +kernel
theorem d_L_drop_23 : decode b_L_drop 23 = .ok (.iload_n 1, 1) := by decide +kernel
theorem d_L_drop_24 : decode b_L_drop 24 = .ok (.iload_n 2, 1) := by decide +kernel
theorem d_L_drop_25 : decode b_L_drop 25 = .ok (.invokevirtual 53, 3) := by decide +kernel
theorem d_L_drop_28 : decode b_L_drop 28 = .ok (.ifCond .ne 19, 3) := by decide +kernel
theorem d_L_drop_31 : decode b_L_drop 31 = .ok (.aload_n 0, 1) := by decide +kernel
theorem d_L_drop_32 : decode b_L_drop 32 = .ok (.getfield 11, 3) := by decide +kernel
theorem d_L_drop_35 : decode b_L_drop 35 = .ok (.iload_n 3, 1) := by decide +kernel
theorem d_L_drop_36 : decode b_L_drop 36 = .ok (.aload_n 0, 1) := by decide +kernel
theorem d_L_drop_37 : decode b_L_drop 37 = .ok (.getfield 11, 3) := by decide +kernel
theorem d_L_drop_40 : decode b_L_drop 40 = .ok (.iload 4, 2) := by decide +kernel
theorem d_L_drop_42 : decode b_L_drop 42 = .ok (.iaload, 1) := by decide +kernel
theorem d_L_drop_43 : decode b_L_drop 43 = .ok (.iastore, 1) := by decide +kernel
theorem d_L_drop_44 : decode b_L_drop 44 = .ok (.iinc 3 1, 3) := by decide +kernel
theorem d_L_drop_47 : decode b_L_drop 47 = .ok (.iinc 4 1, 3) := by decide +kernel
theorem d_L_drop_50 : decode b_L_drop 50 = .ok (.goto (-39), 3) := by decide +kernel
theorem d_L_drop_53 : decode b_L_drop 53 = .ok (.aload_n 0, 1) := by decide +kernel
theorem d_L_drop_54 : decode b_L_drop 54 = .ok (.getfield 18, 3) := by decide +kernel
theorem d_L_drop_57 : decode b_L_drop 57 = .ok (.iload_n 3, 1) := by decide +kernel
theorem d_L_drop_58 : decode b_L_drop 58 = .ok (.isub, 1) := by decide +kernel
theorem d_L_drop_59 : decode b_L_drop 59 = .ok (.istore 4, 2) := by decide +kernel
theorem d_L_drop_61 : decode b_L_drop 61 = .ok (.aload_n 0, 1) := by decide +kernel
theorem d_L_drop_62 : decode b_L_drop 62 = .ok (.iload_n 3, 1) := by decide +kernel
theorem d_L_drop_63 : decode b_L_drop 63 = .ok (.putfield 18, 3) := by decide +kernel
theorem d_L_drop_66 : decode b_L_drop 66 = .ok (.iload 4, 2) := by decide +kernel
theorem d_L_drop_68 : decode b_L_drop 68 = .ok (.ireturn, 1) := by decide +kernel
def F_L_drop_L47 (n : Nat) (c11 : Int32 → Int32 → Int32 → Int32 → zS → Option (Int32 × zS)) (v1 : Int32) (v2 : Int32) (v3 : Int32) (v4 : Int32) (st : zS) : Option (Int32 × zS) :=
    c11 v1 v2 v3 (v4 + 1) st

def F_L_drop_L11_s1 (n : Nat) (c11 : Int32 → Int32 → Int32 → Int32 → zS → Option (Int32 × zS)) (v4 : Int32) (st : zS) : Option (Int32 × zS) :=
    some (v4, st)

def F_L_drop_L11_s3 (n : Nat) (c11 : Int32 → Int32 → Int32 → Int32 → zS → Option (Int32 × zS)) (v1 : Int32) (v2 : Int32) (v3 : Int32) (v4 : Int32) (st : zS) : Option (Int32 × zS) :=
    F_L_drop_L47 n c11 v1 v2 (v3 + 1) v4 st

def F_L_drop_L11_s2 (n : Nat) (c11 : Int32 → Int32 → Int32 → Int32 → zS → Option (Int32 × zS)) (v1 : Int32) (v2 : Int32) (v3 : Int32) (v4 : Int32) (t0 : Int32) (st : zS) : Option (Int32 × zS) :=
    if t0 = 0 then (if zOut v4 1024 then none else if zOut v3 1024 then none else F_L_drop_L11_s3 n c11 v1 v2 v3 v4 (zs st 4 0 (Int32.toNatClampNeg v3) (st 4 0 (Int32.toNatClampNeg v4)))) else (F_L_drop_L47 n c11 v1 v2 v3 v4 st)

def F_L_drop_L11 (n : Nat) : Nat → Int32 → Int32 → Int32 → Int32 → zS → Option (Int32 × zS)
  | 0, _, _, _, _, _ => none
  | f + 1, v1, v2, v3, v4, st =>
    if (st 3 0 1) ≤ v4 then (F_L_drop_L11_s1 n (F_L_drop_L11 n f) ((st 3 0 1) - v3) (zs st 3 0 1 v3)) else ((F_L_isFromTo n v4 v1 v2 st).bind (fun u => F_L_drop_L11_s2 n (F_L_drop_L11 n f) v1 v2 v3 v4 u.1 u.2))

def F_L_drop (n : Nat) (v1 : Int32) (v2 : Int32) (st : zS) : Option (Int32 × zS) :=
    F_L_drop_L11 n zFuel v1 v2 (st 3 0 0) (st 3 0 0) st

set_option maxHeartbeats 4000000 in
set_option maxRecDepth 1000000 in
theorem T_L_drop_L47 {dC : Nat → ClassId} {dI : Nat → Nat → Nat} {cI cZ cR cA : ClassId} {n : Nat} {ad : zK → Nat} {A : Nat → Prop} (hn : 2 ≤ n ∧ n ≤ 6) (hD : zD A (zKs n) ad) {p : Program} {l : Launch} {e : Env} {s : State} {m : MethodId} {args : Array Value} {below : List Frame} {meth : Method} {c : Code} (S : CallFix p m c b_L_drop 5 s args zT N_L) (hret : meth.sig.returnType = some .int) (hlk : meth.locks = false) (hK : va_K (dC, dI) zcl (zty cI cZ cR cA) s) (out : Int32 × zS) (c11 : Int32 → Int32 → Int32 → Int32 → zS → Option (Int32 × zS)) (hc11 : ∀ (v1 : Int32) (v2 : Int32) (v3 : Int32) (v4 : Int32) (st : zS) (H : Heap) (locs : List Loc) (ls : Array Slot), zV (dC, dI) zcl (zKs n) ad (zcE n cI cZ cR cA ad) st H → va_S A s.heap H locs → lv_has ls 5 [(0, .ref (ad (3, 0))), (1, .int v1), (2, .int v2), (3, .int v3), (4, .int v4)] → c11 v1 v2 v3 v4 st = some out → W p l e rm_L_drop s m args below meth c H locs 0 0 (zQ below A (fun o H => o = some (.int out.1) ∧ zV (dC, dI) zcl (zKs n) ad (zcE n cI cZ cR cA ad) out.2 H) args s) (F0 m 11 ls [])) (v1 : Int32) (v2 : Int32) (v3 : Int32) (v4 : Int32) (st : zS) (H : Heap) (locs : List Loc) (ls : Array Slot) (hP : zV (dC, dI) zcl (zKs n) ad (zcE n cI cZ cR cA ad) st H) (hS : va_S A s.heap H locs) (hl : lv_has ls 5 [(0, .ref (ad (3, 0))), (1, .int v1), (2, .int v2), (3, .int v3), (4, .int v4)]) (hF : F_L_drop_L47 n c11 v1 v2 v3 v4 st = some out) : W p l e rm_L_drop s m args below meth c H locs 0 0 (zQ below A (fun o H => o = some (.int out.1) ∧ zV (dC, dI) zcl (zKs n) ad (zcE n cI cZ cR cA ad) out.2 H) args s) (F0 m 47 ls []) := by
  unfold F_L_drop_L47 at hF
  refine lv_iinc (k := 4) (v := v4 + 1) S.1 S.2.1 d_L_drop_47 hl rfl rfl (by decide) rfl (fun ls hl => ?_)
  have hl : lv_has ls 5 [(4, .int (v4 + 1)), (0, .ref (ad (3, 0))), (1, .int v1), (2, .int v2), (3, .int v3)] := hl
  refine lv_goto (tgt := 11) S.1 S.2.1 d_L_drop_50 (by decide) ?_
  exact hc11 v1 v2 v3 (v4 + 1) st _ _ _ hP hS (lv_sub hl [1, 2, 3, 4, 0] rfl) hF

set_option maxHeartbeats 4000000 in
set_option maxRecDepth 1000000 in
theorem T_L_drop_L11 {dC : Nat → ClassId} {dI : Nat → Nat → Nat} {cI cZ cR cA : ClassId} {n : Nat} {ad : zK → Nat} {A : Nat → Prop} (hn : 2 ≤ n ∧ n ≤ 6) (hD : zD A (zKs n) ad) {p : Program} {l : Launch} {e : Env} {s : State} {m : MethodId} {args : Array Value} {below : List Frame} {meth : Method} {c : Code} (S : CallFix p m c b_L_drop 5 s args zT N_L) (hret : meth.sig.returnType = some .int) (hlk : meth.locks = false) (hK : va_K (dC, dI) zcl (zty cI cZ cR cA) s) (out : Int32 × zS) : ∀ (fu : Nat) (v1 : Int32) (v2 : Int32) (v3 : Int32) (v4 : Int32) (st : zS) (H : Heap) (locs : List Loc) (ls : Array Slot) (hP : zV (dC, dI) zcl (zKs n) ad (zcE n cI cZ cR cA ad) st H) (hS : va_S A s.heap H locs) (hl : lv_has ls 5 [(0, .ref (ad (3, 0))), (1, .int v1), (2, .int v2), (3, .int v3), (4, .int v4)]) (hF : F_L_drop_L11 n fu v1 v2 v3 v4 st = some out), W p l e rm_L_drop s m args below meth c H locs 0 0 (zQ below A (fun o H => o = some (.int out.1) ∧ zV (dC, dI) zcl (zKs n) ad (zcE n cI cZ cR cA ad) out.2 H) args s) (F0 m 11 ls []) := by
  intro fu
  induction fu with
  | zero => intro v1 v2 v3 v4 st H locs ls hP hS hl hF; rw [F_L_drop_L11] at hF; cases hF
  | succ f ih =>
    intro v1 v2 v3 v4 st H locs ls hP hS hl hF
    rw [F_L_drop_L11] at hF
    refine lv_iload S.1 S.2.1 d_L_drop_11 (lv_at hl 4 rfl) ?_
    refine lv_aload_n S.1 S.2.1 d_L_drop_13 rfl (lv_at hl 0 rfl) ?_
    refine zr_get (v := .int (st 3 0 1)) S zi_L hK hP zk_3 rfl rfl 3 (by decide) zx_20 rfl d_L_drop_14 ?_
    refine lv_icmp_ge (tgt := 53) S.1 S.2.1 d_L_drop_17 (by decide) (fun h17 => ?_) (fun h17 => ?_)
    · rw [if_pos h17] at hF
      refine lv_aload_n S.1 S.2.1 d_L_drop_53 rfl (lv_at hl 0 rfl) ?_
      refine zr_get (v := .int (st 3 0 1)) S zi_L hK hP zk_3 rfl rfl 3 (by decide) zx_20 rfl d_L_drop_54 ?_
      refine lv_iload_n S.1 S.2.1 d_L_drop_57 rfl (lv_at hl 3 rfl) ?_
      refine lv_isub S.1 S.2.1 d_L_drop_58 ?_
      refine lv_istore S.1 S.2.1 d_L_drop_59 hl (by decide) rfl (fun ls hl => ?_)
      have hl : lv_has ls 5 [(4, .int ((st 3 0 1) - v3)), (0, .ref (ad (3, 0))), (1, .int v1), (2, .int v2), (3, .int v3)] := hl
      refine lv_aload_n S.1 S.2.1 d_L_drop_61 rfl (lv_at hl 1 rfl) ?_
      refine lv_iload_n S.1 S.2.1 d_L_drop_62 rfl (lv_at hl 4 rfl) ?_
      refine zr_put (v := v3) S zi_L t_L t_L_ok n_L hK hP hD hS zk_3 rfl rfl 3 (by decide) zx_20 rfl rfl rfl (Nat.le_of_ble_eq_true rfl) 1 rfl d_L_drop_63 (fun H locs hP hS => ?_)
      replace hF : F_L_drop_L11_s1 n (F_L_drop_L11 n f) ((st 3 0 1) - v3) (zs st 3 0 1 v3) = some out := hF
      generalize zs st 3 0 1 v3 = st66 at hP hF
      unfold F_L_drop_L11_s1 at hF
      refine lv_iload S.1 S.2.1 d_L_drop_66 (lv_at hl 0 rfl) ?_
      cases hF
      exact zr_iret S hret hlk hS d_L_drop_68 ⟨rfl, hP⟩
    · rw [if_neg h17] at hF
      refine lv_aload_n S.1 S.2.1 d_L_drop_20 rfl (lv_at hl 0 rfl) ?_
      refine lv_iload S.1 S.2.1 d_L_drop_21 (lv_at hl 4 rfl) ?_
      refine lv_iload_n S.1 S.2.1 d_L_drop_23 rfl (lv_at hl 1 rfl) ?_
      refine lv_iload_n S.1 S.2.1 d_L_drop_24 rfl (lv_at hl 2 rfl) ?_
      cases hc25 : F_L_isFromTo n v4 v1 v2 st with
      | none => rw [hc25] at hF; cases hF
      | some u25 =>
        obtain ⟨r25, st25⟩ := u25
        rw [hc25] at hF
        replace hF := zbind hF
        refine zr_callV (rest := []) S zT_good (C_L_isFromTo hn hD l v4 v1 v2 st (r25, st25) hc25) zn_L_isFromTo zx_94 ⟨rfl, rfl⟩ ⟨Nat.le_of_ble_eq_true rfl, Nat.le_of_ble_eq_true rfl⟩ ⟨Nat.zero_le _, Nat.zero_le _⟩ hK (zr_recv hK hP zk_3 rfl rfl) hP hl.1 (Nat.le_of_ble_eq_true rfl) hS (fun _ h => h) d_L_drop_25 rfl (fun o H locs hpo _ _ hS => ?_)
        obtain ⟨rfl, hP⟩ := hpo
        refine W.eq (g2 := F0 m 28 ls [.int r25]) rfl ?_
        replace hF : F_L_drop_L11_s2 n (F_L_drop_L11 n f) v1 v2 v3 v4 r25 st25 = some out := hF
        replace hP : zV (dC, dI) zcl (zKs n) ad (zcE n cI cZ cR cA ad) st25 H := hP
        unfold F_L_drop_L11_s2 at hF
        refine lv_if_ne (tgt := 47) S.1 S.2.1 d_L_drop_28 (by decide) (fun h28 => ?_) (fun h28 => ?_)
        · rw [if_neg h28] at hF
          exact T_L_drop_L47 hn hD S hret hlk hK out (F_L_drop_L11 n f) ih v1 v2 v3 v4 st25 _ _ _ hP hS (lv_sub hl [0, 1, 2, 3, 4] rfl) hF
        · rw [if_pos h28] at hF
          refine lv_aload_n S.1 S.2.1 d_L_drop_31 rfl (lv_at hl 0 rfl) ?_
          refine zr_get (v := .ref (ad (4, 0))) S zi_L hK hP zk_3 rfl rfl 0 (by decide) zx_18 rfl d_L_drop_32 ?_
          refine lv_iload_n S.1 S.2.1 d_L_drop_35 rfl (lv_at hl 3 rfl) ?_
          refine lv_aload_n S.1 S.2.1 d_L_drop_36 rfl (lv_at hl 0 rfl) ?_
          refine zr_get (v := .ref (ad (4, 0))) S zi_L hK hP zk_3 rfl rfl 0 (by decide) zx_18 rfl d_L_drop_37 ?_
          refine lv_iload S.1 S.2.1 d_L_drop_40 (lv_at hl 4 rfl) ?_
          by_cases g42 : zOut v4 1024
          · rw [if_pos g42] at hF; cases hF
          rw [if_neg g42] at hF
          refine zr_iald S hK hP zk_4 rfl 0 rfl g42 d_L_drop_42 ?_
          by_cases g43 : zOut v3 1024
          · rw [if_pos g43] at hF; cases hF
          rw [if_neg g43] at hF
          refine zr_iast S hK hP hD hS zk_4 (fun _ => rfl) 0 rfl g43 d_L_drop_43 (fun H locs hP hS => ?_)
          replace hF : F_L_drop_L11_s3 n (F_L_drop_L11 n f) v1 v2 v3 v4 (zs st25 4 0 (Int32.toNatClampNeg v3) (st25 4 0 (Int32.toNatClampNeg v4))) = some out := hF
          generalize zs st25 4 0 (Int32.toNatClampNeg v3) (st25 4 0 (Int32.toNatClampNeg v4)) = st44 at hP hF
          unfold F_L_drop_L11_s3 at hF
          refine lv_iinc (k := 3) (v := v3 + 1) S.1 S.2.1 d_L_drop_44 hl rfl rfl (by decide) rfl (fun ls hl => ?_)
          have hl : lv_has ls 5 [(3, .int (v3 + 1)), (0, .ref (ad (3, 0))), (1, .int v1), (2, .int v2), (4, .int v4)] := hl
          exact T_L_drop_L47 hn hD S hret hlk hK out (F_L_drop_L11 n f) ih v1 v2 (v3 + 1) v4 st44 _ _ _ hP hS (lv_sub hl [1, 2, 3, 0, 4] rfl) hF

set_option maxHeartbeats 4000000 in
set_option maxRecDepth 1000000 in
theorem C_L_drop {dC : Nat → ClassId} {dI : Nat → Nat → Nat} {cI cZ cR cA : ClassId} {n : Nat} {ad : zK → Nat} {A : Nat → Prop} (hn : 2 ≤ n ∧ n ≤ 6) (hD : zD A (zKs n) ad) (l : Launch) (v1 : Int32) (v2 : Int32) (st : zS) (out : Int32 × zS) (hF : F_L_drop n v1 v2 st = some out) : zC zT (dC, dI) zcl (zty cI cZ cR cA) A l y_L_drop b_L_drop 5 (some .int) rm_L_drop [.ref (ad (3, 0)), .int v1, .int v2] (fun H => zV (dC, dI) zcl (zKs n) ad (zcE n cI cZ cR cA ad) st H) (fun o H => o = some (.int out.1) ∧ zV (dC, dI) zcl (zKs n) ad (zcE n cI cZ cR cA ad) out.2 H) := by
  refine zC_of (by decide) (Nat.le_of_ble_eq_true rfl) (fun p e s m args below meth c ls S hret hlk hK hP hl => ?_)
  have hS : va_S A s.heap s.heap [] := va_S.rf
  have hl : lv_has ls 5 [(0, .ref (ad (3, 0))), (1, .int v1), (2, .int v2)] := hl
  have hP : zV (dC, dI) zcl (zKs n) ad (zcE n cI cZ cR cA ad) st s.heap := hP
  unfold F_L_drop at hF
  refine lv_aload_n S.1 S.2.1 d_L_drop_0 rfl (lv_at hl 0 rfl) ?_
  refine zr_get (v := .int (st 3 0 0)) S zi_L hK hP zk_3 rfl rfl 2 (by decide) zx_21 rfl d_L_drop_1 ?_
  refine lv_istore_n S.1 S.2.1 d_L_drop_4 rfl hl (by decide) rfl (fun ls hl => ?_)
  have hl : lv_has ls 5 [(3, .int (st 3 0 0)), (0, .ref (ad (3, 0))), (1, .int v1), (2, .int v2)] := hl
  refine lv_aload_n S.1 S.2.1 d_L_drop_5 rfl (lv_at hl 1 rfl) ?_
  refine zr_get (v := .int (st 3 0 0)) S zi_L hK hP zk_3 rfl rfl 2 (by decide) zx_21 rfl d_L_drop_6 ?_
  refine lv_istore S.1 S.2.1 d_L_drop_9 hl (by decide) rfl (fun ls hl => ?_)
  have hl : lv_has ls 5 [(4, .int (st 3 0 0)), (3, .int (st 3 0 0)), (0, .ref (ad (3, 0))), (1, .int v1), (2, .int v2)] := hl
  exact T_L_drop_L11 hn hD S hret hlk hK out zFuel v1 v2 (st 3 0 0) (st 3 0 0) st _ _ _ hP hS (lv_sub hl [2, 3, 4, 1, 0] rfl) hF

theorem d_R_forget_0 : decode b_R_forget 0 = .ok (.aload_n 0, 1) := by decide +kernel
theorem d_R_forget_1 : decode b_R_forget 1 = .ok (.getfield 22, 3) := by decide +kernel
theorem d_R_forget_4 : decode b_R_forget 4 = .ok (.iload_n 1, 1) := by decide +kernel
theorem d_R_forget_5 : decode b_R_forget 5 = .ok (.sipush 10000, 3) := by decide +kernel
theorem d_R_forget_8 : decode b_R_forget 8 = .ok (.iastore, 1) := by decide +kernel
theorem d_R_forget_9 : decode b_R_forget 9 = .ok (.aload_n 0, 1) := by decide +kernel
theorem d_R_forget_10 : decode b_R_forget 10 = .ok (.getfield 31, 3) := by decide +kernel
theorem d_R_forget_13 : decode b_R_forget 13 = .ok (.iload_n 1, 1) := by decide +kernel
theorem d_R_forget_14 : decode b_R_forget 14 = .ok (.iconst 0, 1) := by decide +kernel
theorem d_R_forget_15 : decode b_R_forget 15 = .ok (.bastore, 1) := by decide +kernel
theorem d_R_forget_16 : decode b_R_forget 16 = .ok (.iload_n 1, 1) := by decide +kernel
theorem d_R_forget_17 : decode b_R_forget 17 = .ok (.aload_n 0, 1) := by decide +kernel
theorem d_R_forget_18 : decode b_R_forget 18 = .ok (.getfield 41, 3) := by decide +kernel
theorem d_R_forget_21 : decode b_R_forget 21 = .ok (.if_icmp .eq 4, 3) := by decide +kernel
theorem d_R_forget_24 : decode b_R_forget 24 = .ok (.return_, 1) := by decide +kernel
theorem d_R_forget_25 : decode b_R_forget 25 = .ok (.aload_n 0, 1) := by decide +kernel
theorem d_R_forget_26 : decode b_R_forget 26 = .ok (.iconst (-1), 1) := by decide +kernel
theorem d_R_forget_27 : decode b_R_forget 27 = .ok (.putfield 41, 3) := by decide +kernel
theorem d_R_forget_30 : decode b_R_forget 30 = .ok (.aload_n 0, 1) := by decide +kernel
theorem d_R_forget_31 : decode b_R_forget 31 = .ok (.getfield 65, 3) := by decide +kernel
theorem d_R_forget_34 : decode b_R_forget 34 = .ok (.ifCond .eq 34, 3) := by decide +kernel
theorem d_R_forget_37 : decode b_R_forget 37 = .ok (.aload_n 0, 1) := by decide +kernel
theorem d_R_forget_38 : decode b_R_forget 38 = .ok (.iconst 0, 1) := by decide +kernel
theorem d_R_forget_39 : decode b_R_forget 39 = .ok (.putfield 68, 3) := by decide +kernel
theorem d_R_forget_42 : decode b_R_forget 42 = .ok (.aload_n 0, 1) := by decide +kernel
theorem d_R_forget_43 : decode b_R_forget 43 = .ok (.aload_n 0, 1) := by decide +kernel
theorem d_R_forget_44 : decode b_R_forget 44 = .ok (.getfield 61, 3) := by decide +kernel
theorem d_R_forget_47 : decode b_R_forget 47 = .ok (.ifCond .ne 13, 3) := by decide +kernel
theorem d_R_forget_50 : decode b_R_forget 50 = .ok (.aload_n 0, 1) := by decide +kernel
theorem d_R_forget_51 : decode b_R_forget 51 = .ok (.getfield 35, 3) := by decide +kernel
theorem d_R_forget_54 : decode b_R_forget 54 = .ok (.sipush 10000, 3) := by decide +kernel
theorem d_R_forget_57 : decode b_R_forget 57 = .ok (.if_icmp .eq 7, 3) := by decide +kernel
theorem d_R_forget_60 : decode b_R_forget 60 = .ok (.iconst 1, 1) := by decide +kernel
theorem d_R_forget_61 : decode b_R_forget 61 = .ok (.goto 4, 3) := by decide +kernel
theorem d_R_forget_64 : decode b_R_forget 64 = .ok (.iconst 0, 1) := by decide +kernel
theorem d_R_forget_65 : decode b_R_forget 65 = .ok (.putfield 61, 3) := by decide +kernel
theorem d_R_forget_68 : decode b_R_forget 68 = .ok (.return_, 1) := by decide +kernel
def F_R_forget_L65_s1 (n : Nat) (st : zS) : Option (Int32 × zS) :=
    some (0, st)

def F_R_forget_L65 (n : Nat) (u0 : Nat) (t1 : Int32) (st : zS) : Option (Int32 × zS) :=
    if ¬ (t1 = 0 ∨ t1 = 1) then none else F_R_forget_L65_s1 n (zs st 7 u0 5 t1)

def F_R_forget_L60 (n : Nat) (u0 : Nat) (st : zS) : Option (Int32 × zS) :=
    F_R_forget_L65 n u0 1 st

def F_R_forget_s4 (n : Nat) (k0 : Nat) (st : zS) : Option (Int32 × zS) :=
    if (st 7 k0 5) = 0 then (if (st 7 k0 0) = 10000 then (F_R_forget_L65 n k0 0 st) else (F_R_forget_L60 n k0 st)) else (F_R_forget_L60 n k0 st)

def F_R_forget_s3 (n : Nat) (k0 : Nat) (st : zS) : Option (Int32 × zS) :=
    if (st 7 k0 3) = 0 then (some (0, st)) else (F_R_forget_s4 n k0 (zs st 7 k0 4 0))

def F_R_forget_s2 (n : Nat) (k0 : Nat) (v1 : Int32) (st : zS) : Option (Int32 × zS) :=
    if v1 = (st 7 k0 2) then (F_R_forget_s3 n k0 (zs st 7 k0 2 (-1))) else (some (0, st))

def F_R_forget_s1 (n : Nat) (k0 : Nat) (v1 : Int32) (st : zS) : Option (Int32 × zS) :=
    if zOut v1 n then none else F_R_forget_s2 n k0 v1 (zs st 9 k0 (Int32.toNatClampNeg v1) 0)

def F_R_forget (n : Nat) (k0 : Nat) (v1 : Int32) (st : zS) : Option (Int32 × zS) :=
    if zOut v1 n then none else F_R_forget_s1 n k0 v1 (zs st 8 k0 (Int32.toNatClampNeg v1) 10000)

set_option maxHeartbeats 4000000 in
set_option maxRecDepth 1000000 in
theorem T_R_forget_L65 {dC : Nat → ClassId} {dI : Nat → Nat → Nat} {cI cZ cR cA : ClassId} {n : Nat} {ad : zK → Nat} {A : Nat → Prop} (hn : 2 ≤ n ∧ n ≤ 6) (hD : zD A (zKs n) ad) {p : Program} {l : Launch} {e : Env} {s : State} {m : MethodId} {args : Array Value} {below : List Frame} {meth : Method} {c : Code} (S : CallFix p m c b_R_forget 2 s args zT N_R) (hret : meth.sig.returnType = none) (hlk : meth.locks = false) (hK : va_K (dC, dI) zcl (zty cI cZ cR cA) s) (out : Int32 × zS) (u0 : Nat) (t1 : Int32) (hu0 : (7, u0) ∈ zKs n) (st : zS) (H : Heap) (locs : List Loc) (ls : Array Slot) (hP : zV (dC, dI) zcl (zKs n) ad (zcE n cI cZ cR cA ad) st H) (hS : va_S A s.heap H locs) (hl : lv_has ls 2 []) (hF : F_R_forget_L65 n u0 t1 st = some out) : W p l e rm_R_forget s m args below meth c H locs 0 0 (zQ below A (fun o H => o = none ∧ zV (dC, dI) zcl (zKs n) ad (zcE n cI cZ cR cA ad) out.2 H) args s) (F0 m 65 ls [.int t1, .ref (ad (7, u0))]) := by
  unfold F_R_forget_L65 at hF
  by_cases g65 : ¬ (t1 = 0 ∨ t1 = 1)
  · rw [if_pos g65] at hF; cases hF
  rw [if_neg g65] at hF
  refine zr_put (v := t1) S zi_R t_R t_R_ok n_R hK hP hD hS hu0 rfl rfl 10 (by decide) zx_49 rfl (zb_n (Decidable.not_not.mp g65)) (zb_f (Decidable.not_not.mp g65)) (Nat.le_of_ble_eq_true rfl) 5 rfl d_R_forget_65 (fun H locs hP hS => ?_)
  replace hF : F_R_forget_L65_s1 n (zs st 7 u0 5 t1) = some out := hF
  generalize zs st 7 u0 5 t1 = st68 at hP hF
  unfold F_R_forget_L65_s1 at hF
  cases hF
  exact zr_vret S hret hlk hS d_R_forget_68 ⟨rfl, hP⟩

set_option maxHeartbeats 4000000 in
set_option maxRecDepth 1000000 in
theorem T_R_forget_L60 {dC : Nat → ClassId} {dI : Nat → Nat → Nat} {cI cZ cR cA : ClassId} {n : Nat} {ad : zK → Nat} {A : Nat → Prop} (hn : 2 ≤ n ∧ n ≤ 6) (hD : zD A (zKs n) ad) {p : Program} {l : Launch} {e : Env} {s : State} {m : MethodId} {args : Array Value} {below : List Frame} {meth : Method} {c : Code} (S : CallFix p m c b_R_forget 2 s args zT N_R) (hret : meth.sig.returnType = none) (hlk : meth.locks = false) (hK : va_K (dC, dI) zcl (zty cI cZ cR cA) s) (out : Int32 × zS) (u0 : Nat) (hu0 : (7, u0) ∈ zKs n) (st : zS) (H : Heap) (locs : List Loc) (ls : Array Slot) (hP : zV (dC, dI) zcl (zKs n) ad (zcE n cI cZ cR cA ad) st H) (hS : va_S A s.heap H locs) (hl : lv_has ls 2 []) (hF : F_R_forget_L60 n u0 st = some out) : W p l e rm_R_forget s m args below meth c H locs 0 0 (zQ below A (fun o H => o = none ∧ zV (dC, dI) zcl (zKs n) ad (zcE n cI cZ cR cA ad) out.2 H) args s) (F0 m 60 ls [.ref (ad (7, u0))]) := by
  unfold F_R_forget_L60 at hF
  refine lv_iconst (v := 1) S.1 S.2.1 d_R_forget_60 (by decide) ?_
  refine lv_goto (tgt := 65) S.1 S.2.1 d_R_forget_61 (by decide) ?_
  exact T_R_forget_L65 hn hD S hret hlk hK out u0 1 hu0 st _ _ _ hP hS (lv_sub hl [] rfl) hF

set_option maxHeartbeats 4000000 in
set_option maxRecDepth 1000000 in
theorem C_R_forget {dC : Nat → ClassId} {dI : Nat → Nat → Nat} {cI cZ cR cA : ClassId} {n : Nat} {ad : zK → Nat} {A : Nat → Prop} (hn : 2 ≤ n ∧ n ≤ 6) (hD : zD A (zKs n) ad) (l : Launch) (k0 : Nat) (v1 : Int32) (hk0 : (7, k0) ∈ zKs n) (st : zS) (out : Int32 × zS) (hF : F_R_forget n k0 v1 st = some out) : zC zT (dC, dI) zcl (zty cI cZ cR cA) A l y_R_forget b_R_forget 2 (none) rm_R_forget [.ref (ad (7, k0)), .int v1] (fun H => zV (dC, dI) zcl (zKs n) ad (zcE n cI cZ cR cA ad) st H) (fun o H => o = none ∧ zV (dC, dI) zcl (zKs n) ad (zcE n cI cZ cR cA ad) out.2 H) := by
  refine zC_of (by decide) (Nat.le_of_ble_eq_true rfl) (fun p e s m args below meth c ls S hret hlk hK hP hl => ?_)
  have hS : va_S A s.heap s.heap [] := va_S.rf
  have hl : lv_has ls 2 [(0, .ref (ad (7, k0))), (1, .int v1)] := hl
  have hP : zV (dC, dI) zcl (zKs n) ad (zcE n cI cZ cR cA ad) st s.heap := hP
  unfold F_R_forget at hF
  refine lv_aload_n S.1 S.2.1 d_R_forget_0 rfl (lv_at hl 0 rfl) ?_
  refine zr_get (v := .ref (ad (8, k0))) S zi_R hK hP hk0 rfl rfl 3 (by decide) zx_44 rfl d_R_forget_1 ?_
  refine lv_iload_n S.1 S.2.1 d_R_forget_4 rfl (lv_at hl 1 rfl) ?_
  refine lv_sipush (v := 10000) S.1 S.2.1 d_R_forget_5 (by decide) ?_
  by_cases g8 : zOut v1 n
  · rw [if_pos g8] at hF; cases hF
  rw [if_neg g8] at hF
  refine zr_iast S hK hP hD hS (zk_87 hk0) (fun _ => rfl) 0 rfl g8 d_R_forget_8 (fun H locs hP hS => ?_)
  replace hF : F_R_forget_s1 n k0 v1 (zs st 8 k0 (Int32.toNatClampNeg v1) 10000) = some out := hF
  generalize zs st 8 k0 (Int32.toNatClampNeg v1) 10000 = st9 at hP hF
  unfold F_R_forget_s1 at hF
  refine lv_aload_n S.1 S.2.1 d_R_forget_9 rfl (lv_at hl 0 rfl) ?_
  refine zr_get (v := .ref (ad (9, k0))) S zi_R hK hP hk0 rfl rfl 4 (by decide) zx_45 rfl d_R_forget_10 ?_
  refine lv_iload_n S.1 S.2.1 d_R_forget_13 rfl (lv_at hl 1 rfl) ?_
  refine lv_iconst (v := 0) S.1 S.2.1 d_R_forget_14 (by decide) ?_
  by_cases g15 : zOut v1 n
  · rw [if_pos g15] at hF; cases hF
  rw [if_neg g15] at hF
  refine zr_zast S hK hP hD hS (zk_97 hk0) (fun _ => rfl) 1 rfl g15 (by decide) d_R_forget_15 (fun H locs hP hS => ?_)
  replace hF : F_R_forget_s2 n k0 v1 (zs st9 9 k0 (Int32.toNatClampNeg v1) 0) = some out := hF
  generalize zs st9 9 k0 (Int32.toNatClampNeg v1) 0 = st16 at hP hF
  unfold F_R_forget_s2 at hF
  refine lv_iload_n S.1 S.2.1 d_R_forget_16 rfl (lv_at hl 1 rfl) ?_
  refine lv_aload_n S.1 S.2.1 d_R_forget_17 rfl (lv_at hl 0 rfl) ?_
  refine zr_get (v := .int (st16 7 k0 2)) S zi_R hK hP hk0 rfl rfl 7 (by decide) zx_48 rfl d_R_forget_18 ?_
  refine lv_icmp_eq (tgt := 25) S.1 S.2.1 d_R_forget_21 (by decide) (fun h21 => ?_) (fun h21 => ?_)
  · rw [if_pos h21] at hF
    refine lv_aload_n S.1 S.2.1 d_R_forget_25 rfl (lv_at hl 0 rfl) ?_
    refine lv_iconst (v := (-1)) S.1 S.2.1 d_R_forget_26 (by decide) ?_
    refine zr_put (v := (-1)) S zi_R t_R t_R_ok n_R hK hP hD hS hk0 rfl rfl 7 (by decide) zx_48 rfl rfl rfl (Nat.le_of_ble_eq_true rfl) 2 rfl d_R_forget_27 (fun H locs hP hS => ?_)
    replace hF : F_R_forget_s3 n k0 (zs st16 7 k0 2 (-1)) = some out := hF
    generalize zs st16 7 k0 2 (-1) = st30 at hP hF
    unfold F_R_forget_s3 at hF
    refine lv_aload_n S.1 S.2.1 d_R_forget_30 rfl (lv_at hl 0 rfl) ?_
    refine zr_get (v := .int (st30 7 k0 3)) S zi_R hK hP hk0 rfl rfl 8 (by decide) zx_50 rfl d_R_forget_31 ?_
    refine lv_if_eq (tgt := 68) S.1 S.2.1 d_R_forget_34 (by decide) (fun h34 => ?_) (fun h34 => ?_)
    · rw [if_pos h34] at hF
      cases hF
      exact zr_vret S hret hlk hS d_R_forget_68 ⟨rfl, hP⟩
    · rw [if_neg h34] at hF
      refine lv_aload_n S.1 S.2.1 d_R_forget_37 rfl (lv_at hl 0 rfl) ?_
      refine lv_iconst (v := 0) S.1 S.2.1 d_R_forget_38 (by decide) ?_
      refine zr_put (v := 0) S zi_R t_R t_R_ok n_R hK hP hD hS hk0 rfl rfl 9 (by decide) zx_51 rfl rfl rfl (Nat.le_of_ble_eq_true rfl) 4 rfl d_R_forget_39 (fun H locs hP hS => ?_)
      replace hF : F_R_forget_s4 n k0 (zs st30 7 k0 4 0) = some out := hF
      generalize zs st30 7 k0 4 0 = st42 at hP hF
      unfold F_R_forget_s4 at hF
      refine lv_aload_n S.1 S.2.1 d_R_forget_42 rfl (lv_at hl 0 rfl) ?_
      refine lv_aload_n S.1 S.2.1 d_R_forget_43 rfl (lv_at hl 0 rfl) ?_
      refine zr_get (v := .int (st42 7 k0 5)) S zi_R hK hP hk0 rfl rfl 10 (by decide) zx_49 rfl d_R_forget_44 ?_
      refine lv_if_ne (tgt := 60) S.1 S.2.1 d_R_forget_47 (by decide) (fun h47 => ?_) (fun h47 => ?_)
      · rw [if_neg h47] at hF
        exact T_R_forget_L60 hn hD S hret hlk hK out k0 hk0 st42 _ _ _ hP hS (lv_sub hl [] rfl) hF
      · rw [if_pos h47] at hF
        refine lv_aload_n S.1 S.2.1 d_R_forget_50 rfl (lv_at hl 0 rfl) ?_
        refine zr_get (v := .int (st42 7 k0 0)) S zi_R hK hP hk0 rfl rfl 5 (by decide) zx_46 rfl d_R_forget_51 ?_
        refine lv_sipush (v := 10000) S.1 S.2.1 d_R_forget_54 (by decide) ?_
        refine lv_icmp_eq (tgt := 64) S.1 S.2.1 d_R_forget_57 (by decide) (fun h57 => ?_) (fun h57 => ?_)
        · rw [if_pos h57] at hF
          refine lv_iconst (v := 0) S.1 S.2.1 d_R_forget_64 (by decide) ?_
          exact T_R_forget_L65 hn hD S hret hlk hK out k0 0 hk0 st42 _ _ _ hP hS (lv_sub hl [] rfl) hF
        · rw [if_neg h57] at hF
          exact T_R_forget_L60 hn hD S hret hlk hK out k0 hk0 st42 _ _ _ hP hS (lv_sub hl [] rfl) hF
  · rw [if_neg h21] at hF
    cases hF
    exact zr_vret S hret hlk hS d_R_forget_24 ⟨rfl, hP⟩

theorem d_D_lose_0 : decode b_D_lose 0 = .ok (.iconst 0, 1) := by decide +kernel
theorem d_D_lose_1 : decode b_D_lose 1 = .ok (.istore_n 3, 1) := by decide +kernel
theorem d_D_lose_2 : decode b_D_lose 2 = .ok (.iload_n 3, 1) := by decide +kernel
theorem d_D_lose_3 : decode b_D_lose 3 = .ok (.aload_n 0, 1) := by decide +kernel
theorem d_D_lose_4 : decode b_D_lose 4 = .ok (.getfield 18, 3) := by decide +kernel
theorem d_D_lose_7 : decode b_D_lose 7 = .ok (.if_icmp .ge 55, 3) := by decide +kernel
theorem d_D_lose_10 : decode b_D_lose 10 = .ok (.aload_n 0, 1) := by decide +kernel
theorem d_D_lose_11 : decode b_D_lose 11 = .ok (.iload_n 1, 1) := by decide +kernel
theorem d_D_lose_12 : decode b_D_lose 12 = .ok (.iload_n 3, 1) := by decide +kernel
theorem d_D_lose_13 : decode b_D_lose 13 = .ok (.invokevirtual 85, 3) := by decide +kernel
theorem d_D_lose_16 : decode b_D_lose 16 = .ok (.astore 4, 2) := by decide +kernel
theorem d_D_lose_18 : decode b_D_lose 18 = .ok (.aload 4, 2) := by decide +kernel
theorem d_D_lose_20 : decode b_D_lose 20 = .ok (.invokevirtual 141, 3) := by decide +kernel
theorem d_D_lose_23 : decode b_D_lose 23 = .ok (.ifCond .eq 6, 3) := by decide +kernel
theorem d_D_lose_26 : decode b_D_lose 26 = .ok (.goto 30, 3) := by decide +kernel
theorem d_D_lose_29 : decode b_D_lose 29 = .ok (.aload 4, 2) := by decide +kernel
theorem d_D_lose_31 : decode b_D_lose 31 = .ok (.iload_n 2, 1) := by decide +kernel
theorem d_D_lose_32 : decode b_D_lose 32 = .ok (.invokevirtual 157, 3) := by decide +kernel
theorem d_D_lose_35 : decode b_D_lose 35 = .ok (.aload 4, 2) := by decide +kernel
theorem d_D_lose_37 : decode b_D_lose 37 = .ok (.getfield 98, 3) := by decide +kernel
theorem d_D_lose_40 : decode b_D_lose 40 = .ok (.ifCond .ne 10, 3) := by decide +kernel
theorem d_D_lose_43 : decode b_D_lose 43 = .ok (.aload_n 0, 1) := by decide +kernel
theorem d_D_lose_44 : decode b_D_lose 44 = .ok (.aload 4, 2) := by decide +kernel
theorem d_D_lose_46 : decode b_D_lose 46 = .ok (.iconst (-1), 1) := by decide +kernel
theorem d_D_lose_47 : decode b_D_lose 47 = .ok (.invokevirtual 149, 3) := by decide +kernel
theorem d_D_lose_50 : decode b_D_lose 50 = .ok (.aload_n 0, 1) := by decide +kernel
theorem d_D_lose_51 : decode b_D_lose 51 = .ok (.aload 4, 2) := by decide +kernel
theorem d_D_lose_53 : decode b_D_lose 53 = .ok (.invokevirtual 153, 3) := by decide +kernel
theorem d_D_lose_56 : decode b_D_lose 56 = .ok (.iinc 3 1, 3) := by decide +kernel
theorem d_D_lose_59 : decode b_D_lose 59 = .ok (.goto (-57), 3) := by decide +kernel
theorem d_D_lose_62 : decode b_D_lose 62 = .ok (.return_, 1) := by decide +kernel
def F_D_lose_L56 (n : Nat) (c2 : Int32 → Int32 → Int32 → zS → Option (Int32 × zS)) (v1 : Int32) (v2 : Int32) (v3 : Int32) (st : zS) : Option (Int32 × zS) :=
    c2 v1 v2 (v3 + 1) st

def F_D_lose_L50_s1 (n : Nat) (c2 : Int32 → Int32 → Int32 → zS → Option (Int32 × zS)) (v1 : Int32) (v2 : Int32) (v3 : Int32) (st : zS) : Option (Int32 × zS) :=
    F_D_lose_L56 n c2 v1 v2 v3 st

def F_D_lose_L50 (n : Nat) (c2 : Int32 → Int32 → Int32 → zS → Option (Int32 × zS)) (v1 : Int32) (v2 : Int32) (v3 : Int32) (k4 : Nat) (st : zS) : Option (Int32 × zS) :=
    (F_D_endIfDone n k4 st).bind (fun u => F_D_lose_L50_s1 n c2 v1 v2 v3 u.2)

def F_D_lose_L2_s4 (n : Nat) (c2 : Int32 → Int32 → Int32 → zS → Option (Int32 × zS)) (k4 : Nat) (v1 : Int32) (v2 : Int32) (v3 : Int32) (st : zS) : Option (Int32 × zS) :=
    F_D_lose_L50 n c2 v1 v2 v3 k4 st

def F_D_lose_L2_s3 (n : Nat) (c2 : Int32 → Int32 → Int32 → zS → Option (Int32 × zS)) (k4 : Nat) (v1 : Int32) (v2 : Int32) (v3 : Int32) (st : zS) : Option (Int32 × zS) :=
    if (st 7 k4 3) = 0 then ((F_D_look n k4 (-1) st).bind (fun u => F_D_lose_L2_s4 n c2 k4 v1 v2 v3 u.2)) else (F_D_lose_L50 n c2 v1 v2 v3 k4 st)

def F_D_lose_L2_s2 (n : Nat) (c2 : Int32 → Int32 → Int32 → zS → Option (Int32 × zS)) (k4 : Nat) (v1 : Int32) (v2 : Int32) (v3 : Int32) (t0 : Int32) (st : zS) : Option (Int32 × zS) :=
    if t0 = 0 then ((F_R_forget n k4 v2 st).bind (fun u => F_D_lose_L2_s3 n c2 k4 v1 v2 v3 u.2)) else (F_D_lose_L56 n c2 v1 v2 v3 st)

def F_D_lose_L2_s1 (n : Nat) (c2 : Int32 → Int32 → Int32 → zS → Option (Int32 × zS)) (v1 : Int32) (v2 : Int32) (v3 : Int32) (u0 : Nat) (st : zS) : Option (Int32 × zS) :=
    (F_R_isOwn n u0 st).bind (fun u => F_D_lose_L2_s2 n c2 u0 v1 v2 v3 u.1 u.2)

def F_D_lose_L2 (n : Nat) : Nat → Int32 → Int32 → Int32 → zS → Option (Int32 × zS)
  | 0, _, _, _, _ => none
  | f + 1, v1, v2, v3, st =>
    if (nI n) ≤ v3 then (some (0, st)) else ((F_D_route n v1 v3 st).bind (fun u => F_D_lose_L2_s1 n (F_D_lose_L2 n f) v1 v2 v3 u.1 u.2))

def F_D_lose (n : Nat) (v1 : Int32) (v2 : Int32) (st : zS) : Option (Int32 × zS) :=
    F_D_lose_L2 n zFuel v1 v2 0 st

set_option maxHeartbeats 4000000 in
set_option maxRecDepth 1000000 in
theorem T_D_lose_L56 {dC : Nat → ClassId} {dI : Nat → Nat → Nat} {cI cZ cR cA : ClassId} {n : Nat} {ad : zK → Nat} {A : Nat → Prop} (hn : 2 ≤ n ∧ n ≤ 6) (hD : zD A (zKs n) ad) {p : Program} {l : Launch} {e : Env} {s : State} {m : MethodId} {args : Array Value} {below : List Frame} {meth : Method} {c : Code} (S : CallFix p m c b_D_lose 5 s args zT N_D) (hret : meth.sig.returnType = none) (hlk : meth.locks = false) (hK : va_K (dC, dI) zcl (zty cI cZ cR cA) s) (out : Int32 × zS) (c2 : Int32 → Int32 → Int32 → zS → Option (Int32 × zS)) (hc2 : ∀ (v1 : Int32) (v2 : Int32) (v3 : Int32) (st : zS) (H : Heap) (locs : List Loc) (ls : Array Slot), zV (dC, dI) zcl (zKs n) ad (zcE n cI cZ cR cA ad) st H → va_S A s.heap H locs → lv_has ls 5 [(0, .ref (ad (0, 0))), (1, .int v1), (2, .int v2), (3, .int v3)] → c2 v1 v2 v3 st = some out → W p l e rm_D_lose s m args below meth c H locs 0 0 (zQ below A (fun o H => o = none ∧ zV (dC, dI) zcl (zKs n) ad (zcE n cI cZ cR cA ad) out.2 H) args s) (F0 m 2 ls [])) (v1 : Int32) (v2 : Int32) (v3 : Int32) (st : zS) (H : Heap) (locs : List Loc) (ls : Array Slot) (hP : zV (dC, dI) zcl (zKs n) ad (zcE n cI cZ cR cA ad) st H) (hS : va_S A s.heap H locs) (hl : lv_has ls 5 [(0, .ref (ad (0, 0))), (1, .int v1), (2, .int v2), (3, .int v3)]) (hF : F_D_lose_L56 n c2 v1 v2 v3 st = some out) : W p l e rm_D_lose s m args below meth c H locs 0 0 (zQ below A (fun o H => o = none ∧ zV (dC, dI) zcl (zKs n) ad (zcE n cI cZ cR cA ad) out.2 H) args s) (F0 m 56 ls []) := by
  unfold F_D_lose_L56 at hF
  refine lv_iinc (k := 3) (v := v3 + 1) S.1 S.2.1 d_D_lose_56 hl rfl rfl (by decide) rfl (fun ls hl => ?_)
  have hl : lv_has ls 5 [(3, .int (v3 + 1)), (0, .ref (ad (0, 0))), (1, .int v1), (2, .int v2)] := hl
  refine lv_goto (tgt := 2) S.1 S.2.1 d_D_lose_59 (by decide) ?_
  exact hc2 v1 v2 (v3 + 1) st _ _ _ hP hS (lv_sub hl [1, 2, 3, 0] rfl) hF

set_option maxHeartbeats 4000000 in
set_option maxRecDepth 1000000 in
theorem T_D_lose_L50 {dC : Nat → ClassId} {dI : Nat → Nat → Nat} {cI cZ cR cA : ClassId} {n : Nat} {ad : zK → Nat} {A : Nat → Prop} (hn : 2 ≤ n ∧ n ≤ 6) (hD : zD A (zKs n) ad) {p : Program} {l : Launch} {e : Env} {s : State} {m : MethodId} {args : Array Value} {below : List Frame} {meth : Method} {c : Code} (S : CallFix p m c b_D_lose 5 s args zT N_D) (hret : meth.sig.returnType = none) (hlk : meth.locks = false) (hK : va_K (dC, dI) zcl (zty cI cZ cR cA) s) (out : Int32 × zS) (c2 : Int32 → Int32 → Int32 → zS → Option (Int32 × zS)) (hc2 : ∀ (v1 : Int32) (v2 : Int32) (v3 : Int32) (st : zS) (H : Heap) (locs : List Loc) (ls : Array Slot), zV (dC, dI) zcl (zKs n) ad (zcE n cI cZ cR cA ad) st H → va_S A s.heap H locs → lv_has ls 5 [(0, .ref (ad (0, 0))), (1, .int v1), (2, .int v2), (3, .int v3)] → c2 v1 v2 v3 st = some out → W p l e rm_D_lose s m args below meth c H locs 0 0 (zQ below A (fun o H => o = none ∧ zV (dC, dI) zcl (zKs n) ad (zcE n cI cZ cR cA ad) out.2 H) args s) (F0 m 2 ls [])) (v1 : Int32) (v2 : Int32) (v3 : Int32) (k4 : Nat) (hk4 : (7, k4) ∈ zKs n) (st : zS) (H : Heap) (locs : List Loc) (ls : Array Slot) (hP : zV (dC, dI) zcl (zKs n) ad (zcE n cI cZ cR cA ad) st H) (hS : va_S A s.heap H locs) (hl : lv_has ls 5 [(0, .ref (ad (0, 0))), (1, .int v1), (2, .int v2), (3, .int v3), (4, .ref (ad (7, k4)))]) (hF : F_D_lose_L50 n c2 v1 v2 v3 k4 st = some out) : W p l e rm_D_lose s m args below meth c H locs 0 0 (zQ below A (fun o H => o = none ∧ zV (dC, dI) zcl (zKs n) ad (zcE n cI cZ cR cA ad) out.2 H) args s) (F0 m 50 ls []) := by
  unfold F_D_lose_L50 at hF
  refine lv_aload_n S.1 S.2.1 d_D_lose_50 rfl (lv_at hl 0 rfl) ?_
  refine lv_aload S.1 S.2.1 d_D_lose_51 (lv_at hl 4 rfl) ?_
  cases hc53 : F_D_endIfDone n k4 st with
  | none => rw [hc53] at hF; cases hF
  | some u53 =>
    obtain ⟨r53, st53⟩ := u53
    rw [hc53] at hF
    replace hF := zbind hF
    refine zr_callV (rest := []) S zT_good (C_D_endIfDone hn hD l k4 hk4 st (r53, st53) hc53) zn_D_endIfDone zx_65 ⟨rfl, rfl⟩ ⟨Nat.le_of_ble_eq_true rfl, Nat.le_of_ble_eq_true rfl⟩ ⟨Nat.zero_le _, Nat.zero_le _⟩ hK (zr_recv hK hP zk_0 rfl rfl) hP hl.1 (Nat.le_of_ble_eq_true rfl) hS (fun _ h => h) d_D_lose_53 rfl (fun o H locs hpo _ _ hS => ?_)
    obtain ⟨rfl, hP⟩ := hpo
    refine W.eq (g2 := F0 m 56 ls []) rfl ?_
    replace hF : F_D_lose_L50_s1 n c2 v1 v2 v3 st53 = some out := hF
    replace hP : zV (dC, dI) zcl (zKs n) ad (zcE n cI cZ cR cA ad) st53 H := hP
    unfold F_D_lose_L50_s1 at hF
    exact T_D_lose_L56 hn hD S hret hlk hK out c2 hc2 v1 v2 v3 st53 _ _ _ hP hS (lv_sub hl [0, 1, 2, 3] rfl) hF

set_option maxHeartbeats 4000000 in
set_option maxRecDepth 1000000 in
theorem T_D_lose_L2 {dC : Nat → ClassId} {dI : Nat → Nat → Nat} {cI cZ cR cA : ClassId} {n : Nat} {ad : zK → Nat} {A : Nat → Prop} (hn : 2 ≤ n ∧ n ≤ 6) (hD : zD A (zKs n) ad) {p : Program} {l : Launch} {e : Env} {s : State} {m : MethodId} {args : Array Value} {below : List Frame} {meth : Method} {c : Code} (S : CallFix p m c b_D_lose 5 s args zT N_D) (hret : meth.sig.returnType = none) (hlk : meth.locks = false) (hK : va_K (dC, dI) zcl (zty cI cZ cR cA) s) (out : Int32 × zS) : ∀ (fu : Nat) (v1 : Int32) (v2 : Int32) (v3 : Int32) (st : zS) (H : Heap) (locs : List Loc) (ls : Array Slot) (hP : zV (dC, dI) zcl (zKs n) ad (zcE n cI cZ cR cA ad) st H) (hS : va_S A s.heap H locs) (hl : lv_has ls 5 [(0, .ref (ad (0, 0))), (1, .int v1), (2, .int v2), (3, .int v3)]) (hF : F_D_lose_L2 n fu v1 v2 v3 st = some out), W p l e rm_D_lose s m args below meth c H locs 0 0 (zQ below A (fun o H => o = none ∧ zV (dC, dI) zcl (zKs n) ad (zcE n cI cZ cR cA ad) out.2 H) args s) (F0 m 2 ls []) := by
  intro fu
  induction fu with
  | zero => intro v1 v2 v3 st H locs ls hP hS hl hF; rw [F_D_lose_L2] at hF; cases hF
  | succ f ih =>
    intro v1 v2 v3 st H locs ls hP hS hl hF
    rw [F_D_lose_L2] at hF
    refine lv_iload_n S.1 S.2.1 d_D_lose_2 rfl (lv_at hl 3 rfl) ?_
    refine lv_aload_n S.1 S.2.1 d_D_lose_3 rfl (lv_at hl 0 rfl) ?_
    refine zr_get (v := .int (nI n)) S zi_D hK hP zk_0 rfl rfl 0 (by decide) zx_8 rfl d_D_lose_4 ?_
    refine lv_icmp_ge (tgt := 62) S.1 S.2.1 d_D_lose_7 (by decide) (fun h7 => ?_) (fun h7 => ?_)
    · rw [if_pos h7] at hF
      cases hF
      exact zr_vret S hret hlk hS d_D_lose_62 ⟨rfl, hP⟩
    · rw [if_neg h7] at hF
      refine lv_aload_n S.1 S.2.1 d_D_lose_10 rfl (lv_at hl 0 rfl) ?_
      refine lv_iload_n S.1 S.2.1 d_D_lose_11 rfl (lv_at hl 1 rfl) ?_
      refine lv_iload_n S.1 S.2.1 d_D_lose_12 rfl (lv_at hl 3 rfl) ?_
      cases hc13 : F_D_route n v1 v3 st with
      | none => rw [hc13] at hF; cases hF
      | some u13 =>
        obtain ⟨r13, st13⟩ := u13
        rw [hc13] at hF
        replace hF := zbind hF
        refine zr_callV (rest := []) S zT_good (C_D_route hn hD l v1 v3 st (r13, st13) hc13) zn_D_route zx_88 ⟨rfl, rfl⟩ ⟨Nat.le_of_ble_eq_true rfl, Nat.le_of_ble_eq_true rfl⟩ ⟨Nat.zero_le _, Nat.zero_le _⟩ hK (zr_recv hK hP zk_0 rfl rfl) hP hl.1 (Nat.le_of_ble_eq_true rfl) hS (fun _ h => h) d_D_lose_13 rfl (fun o H locs hpo _ _ hS => ?_)
        obtain ⟨rfl, hP⟩ := hpo
        refine W.eq (g2 := F0 m 16 ls [.ref (ad (7, r13))]) rfl ?_
        have hk_r13 := zk_D_route hn hc13
        replace hF : F_D_lose_L2_s1 n (F_D_lose_L2 n f) v1 v2 v3 r13 st13 = some out := hF
        replace hP : zV (dC, dI) zcl (zKs n) ad (zcE n cI cZ cR cA ad) st13 H := hP
        unfold F_D_lose_L2_s1 at hF
        refine lv_astore S.1 S.2.1 d_D_lose_16 hl (by decide) rfl (fun ls hl => ?_)
        have hl : lv_has ls 5 [(4, .ref (ad (7, r13))), (0, .ref (ad (0, 0))), (1, .int v1), (2, .int v2), (3, .int v3)] := hl
        refine lv_aload S.1 S.2.1 d_D_lose_18 (lv_at hl 0 rfl) ?_
        cases hc20 : F_R_isOwn n r13 st13 with
        | none => rw [hc20] at hF; cases hF
        | some u20 =>
          obtain ⟨r20, st20⟩ := u20
          rw [hc20] at hF
          replace hF := zbind hF
          refine zr_callV (rest := []) S zT_good (C_R_isOwn hn hD l r13 hk_r13 st13 (r20, st20) hc20) zn_R_isOwn zx_61 ⟨rfl, rfl⟩ ⟨Nat.le_of_ble_eq_true rfl, Nat.le_of_ble_eq_true rfl⟩ ⟨Nat.zero_le _, Nat.zero_le _⟩ hK (zr_recv hK hP hk_r13 rfl rfl) hP hl.1 (Nat.le_of_ble_eq_true rfl) hS (fun _ h => h) d_D_lose_20 rfl (fun o H locs hpo _ _ hS => ?_)
          obtain ⟨rfl, hP⟩ := hpo
          refine W.eq (g2 := F0 m 23 ls [.int r20]) rfl ?_
          replace hF : F_D_lose_L2_s2 n (F_D_lose_L2 n f) r13 v1 v2 v3 r20 st20 = some out := hF
          replace hP : zV (dC, dI) zcl (zKs n) ad (zcE n cI cZ cR cA ad) st20 H := hP
          unfold F_D_lose_L2_s2 at hF
          refine lv_if_eq (tgt := 29) S.1 S.2.1 d_D_lose_23 (by decide) (fun h23 => ?_) (fun h23 => ?_)
          · rw [if_pos h23] at hF
            refine lv_aload S.1 S.2.1 d_D_lose_29 (lv_at hl 0 rfl) ?_
            refine lv_iload_n S.1 S.2.1 d_D_lose_31 rfl (lv_at hl 3 rfl) ?_
            cases hc32 : F_R_forget n r13 v2 st20 with
            | none => rw [hc32] at hF; cases hF
            | some u32 =>
              obtain ⟨r32, st32⟩ := u32
              rw [hc32] at hF
              replace hF := zbind hF
              refine zr_callV (rest := []) S zT_good (C_R_forget hn hD l r13 v2 hk_r13 st20 (r32, st32) hc32) zn_R_forget zx_66 ⟨rfl, rfl⟩ ⟨Nat.le_of_ble_eq_true rfl, Nat.le_of_ble_eq_true rfl⟩ ⟨Nat.zero_le _, Nat.zero_le _⟩ hK (zr_recv hK hP hk_r13 rfl rfl) hP hl.1 (Nat.le_of_ble_eq_true rfl) hS (fun _ h => h) d_D_lose_32 rfl (fun o H locs hpo _ _ hS => ?_)
              obtain ⟨rfl, hP⟩ := hpo
              refine W.eq (g2 := F0 m 35 ls []) rfl ?_
              replace hF : F_D_lose_L2_s3 n (F_D_lose_L2 n f) r13 v1 v2 v3 st32 = some out := hF
              replace hP : zV (dC, dI) zcl (zKs n) ad (zcE n cI cZ cR cA ad) st32 H := hP
              unfold F_D_lose_L2_s3 at hF
              refine lv_aload S.1 S.2.1 d_D_lose_35 (lv_at hl 0 rfl) ?_
              refine zr_get (v := .int (st32 7 r13 3)) S zi_R hK hP hk_r13 rfl rfl 8 (by decide) zx_17 rfl d_D_lose_37 ?_
              refine lv_if_ne (tgt := 50) S.1 S.2.1 d_D_lose_40 (by decide) (fun h40 => ?_) (fun h40 => ?_)
              · rw [if_neg h40] at hF
                exact T_D_lose_L50 hn hD S hret hlk hK out (F_D_lose_L2 n f) ih v1 v2 v3 r13 hk_r13 st32 _ _ _ hP hS (lv_sub hl [1, 2, 3, 4, 0] rfl) hF
              · rw [if_pos h40] at hF
                refine lv_aload_n S.1 S.2.1 d_D_lose_43 rfl (lv_at hl 1 rfl) ?_
                refine lv_aload S.1 S.2.1 d_D_lose_44 (lv_at hl 0 rfl) ?_
                refine lv_iconst (v := (-1)) S.1 S.2.1 d_D_lose_46 (by decide) ?_
                cases hc47 : F_D_look n r13 (-1) st32 with
                | none => rw [hc47] at hF; cases hF
                | some u47 =>
                  obtain ⟨r47, st47⟩ := u47
                  rw [hc47] at hF
                  replace hF := zbind hF
                  refine zr_callV (rest := []) S zT_good (C_D_look hn hD l r13 (-1) hk_r13 st32 (r47, st47) hc47) zn_D_look zx_63 ⟨rfl, rfl⟩ ⟨Nat.le_of_ble_eq_true rfl, Nat.le_of_ble_eq_true rfl⟩ ⟨Nat.zero_le _, Nat.zero_le _⟩ hK (zr_recv hK hP zk_0 rfl rfl) hP hl.1 (Nat.le_of_ble_eq_true rfl) hS (fun _ h => h) d_D_lose_47 rfl (fun o H locs hpo _ _ hS => ?_)
                  obtain ⟨rfl, hP⟩ := hpo
                  refine W.eq (g2 := F0 m 50 ls []) rfl ?_
                  replace hF : F_D_lose_L2_s4 n (F_D_lose_L2 n f) r13 v1 v2 v3 st47 = some out := hF
                  replace hP : zV (dC, dI) zcl (zKs n) ad (zcE n cI cZ cR cA ad) st47 H := hP
                  unfold F_D_lose_L2_s4 at hF
                  exact T_D_lose_L50 hn hD S hret hlk hK out (F_D_lose_L2 n f) ih v1 v2 v3 r13 hk_r13 st47 _ _ _ hP hS (lv_sub hl [1, 2, 3, 4, 0] rfl) hF
          · rw [if_neg h23] at hF
            refine lv_goto (tgt := 56) S.1 S.2.1 d_D_lose_26 (by decide) ?_
            exact T_D_lose_L56 hn hD S hret hlk hK out (F_D_lose_L2 n f) ih v1 v2 v3 st20 _ _ _ hP hS (lv_sub hl [1, 2, 3, 4] rfl) hF

set_option maxHeartbeats 4000000 in
set_option maxRecDepth 1000000 in
theorem C_D_lose {dC : Nat → ClassId} {dI : Nat → Nat → Nat} {cI cZ cR cA : ClassId} {n : Nat} {ad : zK → Nat} {A : Nat → Prop} (hn : 2 ≤ n ∧ n ≤ 6) (hD : zD A (zKs n) ad) (l : Launch) (v1 : Int32) (v2 : Int32) (st : zS) (out : Int32 × zS) (hF : F_D_lose n v1 v2 st = some out) : zC zT (dC, dI) zcl (zty cI cZ cR cA) A l y_D_lose b_D_lose 5 (none) rm_D_lose [.ref (ad (0, 0)), .int v1, .int v2] (fun H => zV (dC, dI) zcl (zKs n) ad (zcE n cI cZ cR cA ad) st H) (fun o H => o = none ∧ zV (dC, dI) zcl (zKs n) ad (zcE n cI cZ cR cA ad) out.2 H) := by
  refine zC_of (by decide) (Nat.le_of_ble_eq_true rfl) (fun p e s m args below meth c ls S hret hlk hK hP hl => ?_)
  have hS : va_S A s.heap s.heap [] := va_S.rf
  have hl : lv_has ls 5 [(0, .ref (ad (0, 0))), (1, .int v1), (2, .int v2)] := hl
  have hP : zV (dC, dI) zcl (zKs n) ad (zcE n cI cZ cR cA ad) st s.heap := hP
  unfold F_D_lose at hF
  refine lv_iconst (v := 0) S.1 S.2.1 d_D_lose_0 (by decide) ?_
  refine lv_istore_n S.1 S.2.1 d_D_lose_1 rfl hl (by decide) rfl (fun ls hl => ?_)
  have hl : lv_has ls 5 [(3, .int 0), (0, .ref (ad (0, 0))), (1, .int v1), (2, .int v2)] := hl
  exact T_D_lose_L2 hn hD S hret hlk hK out zFuel v1 v2 0 st _ _ _ hP hS (lv_sub hl [1, 2, 3, 0] rfl) hF

theorem d_D_cut_0 : decode b_D_cut 0 = .ok (.aload_n 0, 1) := by decide +kernel
theorem d_D_cut_1 : decode b_D_cut 1 = .ok (.iload_n 1, 1) := by decide +kernel
theorem d_D_cut_2 : decode b_D_cut 2 = .ok (.iload_n 2, 1) := by decide +kernel
theorem d_D_cut_3 : decode b_D_cut 3 = .ok (.invokevirtual 61, 3) := by decide +kernel
theorem d_D_cut_6 : decode b_D_cut 6 = .ok (.ifCond .ne 5, 3) := by decide +kernel
theorem d_D_cut_9 : decode b_D_cut 9 = .ok (.iconst (-1), 1) := by decide +kernel
theorem d_D_cut_10 : decode b_D_cut 10 = .ok (.ireturn, 1) := by decide +kernel
theorem d_D_cut_11 : decode b_D_cut 11 = .ok (.aload_n 0, 1) := by decide +kernel
theorem d_D_cut_12 : decode b_D_cut 12 = .ok (.getfield 39, 3) := by decide +kernel
theorem d_D_cut_15 : decode b_D_cut 15 = .ok (.invokevirtual 47, 3) := by decide +kernel
theorem d_D_cut_18 : decode b_D_cut 18 = .ok (.bipush 100, 2) := by decide +kernel
theorem d_D_cut_20 : decode b_D_cut 20 = .ok (.if_icmp .le 6, 3) := by decide +kernel
theorem d_D_cut_23 : decode b_D_cut 23 = .ok (.bipush (-2), 2) := by decide +kernel
theorem d_D_cut_25 : decode b_D_cut 25 = .ok (.ireturn, 1) := by decide +kernel
theorem d_D_cut_26 : decode b_D_cut 26 = .ok (.aload_n 0, 1) := by decide +kernel
theorem d_D_cut_27 : decode b_D_cut 27 = .ok (.getfield 39, 3) := by decide +kernel
theorem d_D_cut_30 : decode b_D_cut 30 = .ok (.iload_n 1, 1) := by decide +kernel
theorem d_D_cut_31 : decode b_D_cut 31 = .ok (.iload_n 2, 1) := by decide +kernel
theorem d_D_cut_32 : decode b_D_cut 32 = .ok (.invokevirtual 65, 3) := by decide +kernel
theorem d_D_cut_35 : decode b_D_cut 35 = .ok (.aload_n 0, 1) := by decide +kernel
theorem d_D_cut_36 : decode b_D_cut 36 = .ok (.getfield 39, 3) := by decide +kernel
theorem d_D_cut_39 : decode b_D_cut 39 = .ok (.iload_n 2, 1) := by decide +kernel
theorem d_D_cut_40 : decode b_D_cut 40 = .ok (.iload_n 1, 1) := by decide +kernel
theorem d_D_cut_41 : decode b_D_cut 41 = .ok (.invokevirtual 65, 3) := by decide +kernel
theorem d_D_cut_44 : decode b_D_cut 44 = .ok (.iadd, 1) := by decide +kernel
theorem d_D_cut_45 : decode b_D_cut 45 = .ok (.istore_n 3, 1) := by decide +kernel
theorem d_D_cut_46 : decode b_D_cut 46 = .ok (.aload_n 0, 1) := by decide +kernel
theorem d_D_cut_47 : decode b_D_cut 47 = .ok (.getfield 24, 3) := by decide +kernel
theorem d_D_cut_50 : decode b_D_cut 50 = .ok (.iload_n 1, 1) := by decide +kernel
theorem d_D_cut_51 : decode b_D_cut 51 = .ok (.aaload, 1) := by decide +kernel
theorem d_D_cut_52 : decode b_D_cut 52 = .ok (.iload_n 2, 1) := by decide +kernel
theorem d_D_cut_53 : decode b_D_cut 53 = .ok (.iconst 0, 1) := by decide +kernel
theorem d_D_cut_54 : decode b_D_cut 54 = .ok (.iastore, 1) := by decide +kernel
theorem d_D_cut_55 : decode b_D_cut 55 = .ok (.aload_n 0, 1) := by decide +kernel
theorem d_D_cut_56 : decode b_D_cut 56 = .ok (.getfield 24, 3) := by decide +kernel
theorem d_D_cut_59 : decode b_D_cut 59 = .ok (.iload_n 2, 1) := by decide +kernel
theorem d_D_cut_60 : decode b_D_cut 60 = .ok (.aaload, 1) := by decide +kernel
theorem d_D_cut_61 : decode b_D_cut 61 = .ok (.iload_n 1, 1) := by decide +kernel
theorem d_D_cut_62 : decode b_D_cut 62 = .ok (.iconst 0, 1) := by decide +kernel
theorem d_D_cut_63 : decode b_D_cut 63 = .ok (.iastore, 1) := by decide +kernel
theorem d_D_cut_64 : decode b_D_cut 64 = .ok (.aload_n 0, 1) := by decide +kernel
theorem d_D_cut_65 : decode b_D_cut 65 = .ok (.dup, 1) := by decide +kernel
theorem d_D_cut_66 : decode b_D_cut 66 = .ok (.getfield 51, 3) := by decide +kernel
theorem d_D_cut_69 : decode b_D_cut 69 = .ok (.iconst 1, 1) := by decide +kernel
theorem d_D_cut_70 : decode b_D_cut 70 = .ok (.isub, 1) := by decide +kernel
theorem d_D_cut_71 : decode b_D_cut 71 = .ok (.putfield 51, 3) := by decide +kernel
theorem d_D_cut_74 : decode b_D_cut 74 = .ok (.iload_n 1, 1) := by decide +kernel
theorem d_D_cut_75 : decode b_D_cut 75 = .ok (.iload_n 2, 1) := by decide +kernel
theorem d_D_cut_76 : decode b_D_cut 76 = .ok (.invokestatic 9, 3) := by decide +kernel
theorem d_D_cut_79 : decode b_D_cut 79 = .ok (.istore 4, 2) := by decide +kernel
theorem d_D_cut_81 : decode b_D_cut 81 = .ok (.iload_n 1, 1) := by decide +kernel
theorem d_D_cut_82 : decode b_D_cut 82 = .ok (.iload_n 2, 1) := by decide +kernel
theorem d_D_cut_83 : decode b_D_cut 83 = .ok (.invokestatic 15, 3) := by decide +kernel
theorem d_D_cut_86 : decode b_D_cut 86 = .ok (.istore 5, 2) := by decide +kernel
theorem d_D_cut_88 : decode b_D_cut 88 = .ok (.aload_n 0, 1) := by decide +kernel
theorem d_D_cut_89 : decode b_D_cut 89 = .ok (.iload 4, 2) := by decide +kernel
theorem d_D_cut_91 : decode b_D_cut 91 = .ok (.iload 5, 2) := by decide +kernel
theorem d_D_cut_93 : decode b_D_cut 93 = .ok (.invokevirtual 68, 3) := by decide +kernel
theorem d_D_cut_96 : decode b_D_cut 96 = .ok (.aload_n 0, 1) := by decide +kernel
theorem d_D_cut_97 : decode b_D_cut 97 = .ok (.iload 5, 2) := by decide +kernel
theorem d_D_cut_99 : decode b_D_cut 99 = .ok (.iload 4, 2) := by decide +kernel
theorem d_D_cut_101 : decode b_D_cut 101 = .ok (.invokevirtual 68, 3) := by decide +kernel
theorem d_D_cut_104 : decode b_D_cut 104 = .ok (.iload_n 3, 1) := by decide +kernel
theorem d_D_cut_105 : decode b_D_cut 105 = .ok (.ireturn, 1) := by decide +kernel
def F_D_cut_s9 (n : Nat) (v3 : Int32) (st : zS) : Option (Int32 × zS) :=
    some (v3, st)

def F_D_cut_s8 (n : Nat) (v5 : Int32) (v4 : Int32) (v3 : Int32) (st : zS) : Option (Int32 × zS) :=
    (F_D_lose n v5 v4 st).bind (fun u => F_D_cut_s9 n v3 u.2)

def F_D_cut_s7 (n : Nat) (v3 : Int32) (v1 : Int32) (v2 : Int32) (st : zS) : Option (Int32 × zS) :=
    (F_D_lose n (if v2 < v1 then v2 else v1) (if v1 < v2 then v2 else v1) st).bind (fun u => F_D_cut_s8 n (if v1 < v2 then v2 else v1) (if v2 < v1 then v2 else v1) v3 u.2)

def F_D_cut_s6 (n : Nat) (v3 : Int32) (v1 : Int32) (v2 : Int32) (st : zS) : Option (Int32 × zS) :=
    F_D_cut_s7 n v3 v1 v2 (zs st 0 0 0 ((st 0 0 0) - 1))

def F_D_cut_s5 (n : Nat) (v3 : Int32) (v1 : Int32) (v2 : Int32) (st : zS) : Option (Int32 × zS) :=
    if zOut v2 n then none else if zOut v1 n then none else F_D_cut_s6 n v3 v1 v2 (zs st 6 (Int32.toNatClampNeg v2) (Int32.toNatClampNeg v1) 0)

def F_D_cut_s4 (n : Nat) (v1 : Int32) (v2 : Int32) (t0 : Int32) (t1 : Int32) (st : zS) : Option (Int32 × zS) :=
    if zOut v1 n then none else if zOut v2 n then none else F_D_cut_s5 n (t0 + t1) v1 v2 (zs st 6 (Int32.toNatClampNeg v1) (Int32.toNatClampNeg v2) 0)

def F_D_cut_s3 (n : Nat) (v1 : Int32) (v2 : Int32) (t0 : Int32) (st : zS) : Option (Int32 × zS) :=
    (F_L_drop n v2 v1 st).bind (fun u => F_D_cut_s4 n v1 v2 t0 u.1 u.2)

def F_D_cut_s2 (n : Nat) (v1 : Int32) (v2 : Int32) (t0 : Int32) (st : zS) : Option (Int32 × zS) :=
    if t0 ≤ 100 then ((F_L_drop n v1 v2 st).bind (fun u => F_D_cut_s3 n v1 v2 u.1 u.2)) else (some ((-2), st))

def F_D_cut_s1 (n : Nat) (v1 : Int32) (v2 : Int32) (t0 : Int32) (st : zS) : Option (Int32 × zS) :=
    if t0 = 0 then (some ((-1), st)) else ((F_L_size n st).bind (fun u => F_D_cut_s2 n v1 v2 u.1 u.2))

def F_D_cut (n : Nat) (v1 : Int32) (v2 : Int32) (st : zS) : Option (Int32 × zS) :=
    (F_D_isLink n v1 v2 st).bind (fun u => F_D_cut_s1 n v1 v2 u.1 u.2)

set_option maxHeartbeats 4000000 in
set_option maxRecDepth 1000000 in
theorem C_D_cut {dC : Nat → ClassId} {dI : Nat → Nat → Nat} {cI cZ cR cA : ClassId} {n : Nat} {ad : zK → Nat} {A : Nat → Prop} (hn : 2 ≤ n ∧ n ≤ 6) (hD : zD A (zKs n) ad) (l : Launch) (v1 : Int32) (v2 : Int32) (st : zS) (out : Int32 × zS) (hF : F_D_cut n v1 v2 st = some out) : zC zT (dC, dI) zcl (zty cI cZ cR cA) A l y_D_cut b_D_cut 6 (some .int) rm_D_cut [.ref (ad (0, 0)), .int v1, .int v2] (fun H => zV (dC, dI) zcl (zKs n) ad (zcE n cI cZ cR cA ad) st H) (fun o H => o = some (.int out.1) ∧ zV (dC, dI) zcl (zKs n) ad (zcE n cI cZ cR cA ad) out.2 H) := by
  refine zC_of (by decide) (Nat.le_of_ble_eq_true rfl) (fun p e s m args below meth c ls S hret hlk hK hP hl => ?_)
  have hS : va_S A s.heap s.heap [] := va_S.rf
  have hl : lv_has ls 6 [(0, .ref (ad (0, 0))), (1, .int v1), (2, .int v2)] := hl
  have hP : zV (dC, dI) zcl (zKs n) ad (zcE n cI cZ cR cA ad) st s.heap := hP
  unfold F_D_cut at hF
  refine lv_aload_n S.1 S.2.1 d_D_cut_0 rfl (lv_at hl 0 rfl) ?_
  refine lv_iload_n S.1 S.2.1 d_D_cut_1 rfl (lv_at hl 1 rfl) ?_
  refine lv_iload_n S.1 S.2.1 d_D_cut_2 rfl (lv_at hl 2 rfl) ?_
  cases hc3 : F_D_isLink n v1 v2 st with
  | none => rw [hc3] at hF; cases hF
  | some u3 =>
    obtain ⟨r3, st3⟩ := u3
    rw [hc3] at hF
    replace hF := zbind hF
    refine zr_callV (rest := []) S zT_good (C_D_isLink hn hD l v1 v2 st (r3, st3) hc3) zn_D_isLink zx_82 ⟨rfl, rfl⟩ ⟨Nat.le_of_ble_eq_true rfl, Nat.le_of_ble_eq_true rfl⟩ ⟨Nat.zero_le _, Nat.zero_le _⟩ hK (zr_recv hK hP zk_0 rfl rfl) hP hl.1 (Nat.le_of_ble_eq_true rfl) hS (fun _ h => h) d_D_cut_3 rfl (fun o H locs hpo _ _ hS => ?_)
    obtain ⟨rfl, hP⟩ := hpo
    refine W.eq (g2 := F0 m 6 ls [.int r3]) rfl ?_
    replace hF : F_D_cut_s1 n v1 v2 r3 st3 = some out := hF
    replace hP : zV (dC, dI) zcl (zKs n) ad (zcE n cI cZ cR cA ad) st3 H := hP
    unfold F_D_cut_s1 at hF
    refine lv_if_ne (tgt := 11) S.1 S.2.1 d_D_cut_6 (by decide) (fun h6 => ?_) (fun h6 => ?_)
    · rw [if_neg h6] at hF
      refine lv_aload_n S.1 S.2.1 d_D_cut_11 rfl (lv_at hl 0 rfl) ?_
      refine zr_get (v := .ref (ad (3, 0))) S zi_D hK hP zk_0 rfl rfl 3 (by decide) zx_11 rfl d_D_cut_12 ?_
      cases hc15 : F_L_size n st3 with
      | none => rw [hc15] at hF; cases hF
      | some u15 =>
        obtain ⟨r15, st15⟩ := u15
        rw [hc15] at hF
        replace hF := zbind hF
        refine zr_callV (rest := []) S zT_good (C_L_size hn hD l st3 (r15, st15) hc15) zn_L_size zx_79 ⟨rfl, rfl⟩ ⟨Nat.le_of_ble_eq_true rfl, Nat.le_of_ble_eq_true rfl⟩ ⟨Nat.zero_le _, Nat.zero_le _⟩ hK (zr_recv hK hP zk_3 rfl rfl) hP hl.1 (Nat.le_of_ble_eq_true rfl) hS (fun _ h => h) d_D_cut_15 rfl (fun o H locs hpo _ _ hS => ?_)
        obtain ⟨rfl, hP⟩ := hpo
        refine W.eq (g2 := F0 m 18 ls [.int r15]) rfl ?_
        replace hF : F_D_cut_s2 n v1 v2 r15 st15 = some out := hF
        replace hP : zV (dC, dI) zcl (zKs n) ad (zcE n cI cZ cR cA ad) st15 H := hP
        unfold F_D_cut_s2 at hF
        refine lv_bipush (v := 100) S.1 S.2.1 d_D_cut_18 (by decide) ?_
        refine lv_icmp_le (tgt := 26) S.1 S.2.1 d_D_cut_20 (by decide) (fun h20 => ?_) (fun h20 => ?_)
        · rw [if_pos h20] at hF
          refine lv_aload_n S.1 S.2.1 d_D_cut_26 rfl (lv_at hl 0 rfl) ?_
          refine zr_get (v := .ref (ad (3, 0))) S zi_D hK hP zk_0 rfl rfl 3 (by decide) zx_11 rfl d_D_cut_27 ?_
          refine lv_iload_n S.1 S.2.1 d_D_cut_30 rfl (lv_at hl 1 rfl) ?_
          refine lv_iload_n S.1 S.2.1 d_D_cut_31 rfl (lv_at hl 2 rfl) ?_
          cases hc32 : F_L_drop n v1 v2 st15 with
          | none => rw [hc32] at hF; cases hF
          | some u32 =>
            obtain ⟨r32, st32⟩ := u32
            rw [hc32] at hF
            replace hF := zbind hF
            refine zr_callV (rest := []) S zT_good (C_L_drop hn hD l v1 v2 st15 (r32, st32) hc32) zn_L_drop zx_83 ⟨rfl, rfl⟩ ⟨Nat.le_of_ble_eq_true rfl, Nat.le_of_ble_eq_true rfl⟩ ⟨Nat.zero_le _, Nat.zero_le _⟩ hK (zr_recv hK hP zk_3 rfl rfl) hP hl.1 (Nat.le_of_ble_eq_true rfl) hS (fun _ h => h) d_D_cut_32 rfl (fun o H locs hpo _ _ hS => ?_)
            obtain ⟨rfl, hP⟩ := hpo
            refine W.eq (g2 := F0 m 35 ls [.int r32]) rfl ?_
            replace hF : F_D_cut_s3 n v1 v2 r32 st32 = some out := hF
            replace hP : zV (dC, dI) zcl (zKs n) ad (zcE n cI cZ cR cA ad) st32 H := hP
            unfold F_D_cut_s3 at hF
            refine lv_aload_n S.1 S.2.1 d_D_cut_35 rfl (lv_at hl 0 rfl) ?_
            refine zr_get (v := .ref (ad (3, 0))) S zi_D hK hP zk_0 rfl rfl 3 (by decide) zx_11 rfl d_D_cut_36 ?_
            refine lv_iload_n S.1 S.2.1 d_D_cut_39 rfl (lv_at hl 2 rfl) ?_
            refine lv_iload_n S.1 S.2.1 d_D_cut_40 rfl (lv_at hl 1 rfl) ?_
            cases hc41 : F_L_drop n v2 v1 st32 with
            | none => rw [hc41] at hF; cases hF
            | some u41 =>
              obtain ⟨r41, st41⟩ := u41
              rw [hc41] at hF
              replace hF := zbind hF
              refine zr_callV (rest := [.int r32]) S zT_good (C_L_drop hn hD l v2 v1 st32 (r41, st41) hc41) zn_L_drop zx_83 ⟨rfl, rfl⟩ ⟨Nat.le_of_ble_eq_true rfl, Nat.le_of_ble_eq_true rfl⟩ ⟨Nat.zero_le _, Nat.zero_le _⟩ hK (zr_recv hK hP zk_3 rfl rfl) hP hl.1 (Nat.le_of_ble_eq_true rfl) hS (fun _ h => h) d_D_cut_41 rfl (fun o H locs hpo _ _ hS => ?_)
              obtain ⟨rfl, hP⟩ := hpo
              refine W.eq (g2 := F0 m 44 ls [.int r41, .int r32]) rfl ?_
              replace hF : F_D_cut_s4 n v1 v2 r32 r41 st41 = some out := hF
              replace hP : zV (dC, dI) zcl (zKs n) ad (zcE n cI cZ cR cA ad) st41 H := hP
              unfold F_D_cut_s4 at hF
              refine lv_iadd S.1 S.2.1 d_D_cut_44 ?_
              refine lv_istore_n S.1 S.2.1 d_D_cut_45 rfl hl (by decide) rfl (fun ls hl => ?_)
              have hl : lv_has ls 6 [(3, .int (r32 + r41)), (0, .ref (ad (0, 0))), (1, .int v1), (2, .int v2)] := hl
              refine lv_aload_n S.1 S.2.1 d_D_cut_46 rfl (lv_at hl 1 rfl) ?_
              refine zr_get (v := .ref (ad (1, 0))) S zi_D hK hP zk_0 rfl rfl 1 (by decide) zx_9 rfl d_D_cut_47 ?_
              refine lv_iload_n S.1 S.2.1 d_D_cut_50 rfl (lv_at hl 2 rfl) ?_
              by_cases g51 : zOut v1 n
              · rw [if_pos g51] at hF; cases hF
              rw [if_neg g51] at hF
              refine zr_aald (b := ad (6, (Int32.toNatClampNeg v1))) S hK hP zk_1 rfl 3 rfl rfl g51 rfl d_D_cut_51 ?_
              refine lv_iload_n S.1 S.2.1 d_D_cut_52 rfl (lv_at hl 3 rfl) ?_
              refine lv_iconst (v := 0) S.1 S.2.1 d_D_cut_53 (by decide) ?_
              by_cases g54 : zOut v2 n
              · rw [if_pos g54] at hF; cases hF
              rw [if_neg g54] at hF
              refine zr_iast S hK hP hD hS (zk_6 g51) (fun _ => rfl) 0 rfl g54 d_D_cut_54 (fun H locs hP hS => ?_)
              replace hF : F_D_cut_s5 n (r32 + r41) v1 v2 (zs st41 6 (Int32.toNatClampNeg v1) (Int32.toNatClampNeg v2) 0) = some out := hF
              generalize zs st41 6 (Int32.toNatClampNeg v1) (Int32.toNatClampNeg v2) 0 = st55 at hP hF
              unfold F_D_cut_s5 at hF
              refine lv_aload_n S.1 S.2.1 d_D_cut_55 rfl (lv_at hl 1 rfl) ?_
              refine zr_get (v := .ref (ad (1, 0))) S zi_D hK hP zk_0 rfl rfl 1 (by decide) zx_9 rfl d_D_cut_56 ?_
              refine lv_iload_n S.1 S.2.1 d_D_cut_59 rfl (lv_at hl 3 rfl) ?_
              by_cases g60 : zOut v2 n
              · rw [if_pos g60] at hF; cases hF
              rw [if_neg g60] at hF
              refine zr_aald (b := ad (6, (Int32.toNatClampNeg v2))) S hK hP zk_1 rfl 3 rfl rfl g60 rfl d_D_cut_60 ?_
              refine lv_iload_n S.1 S.2.1 d_D_cut_61 rfl (lv_at hl 2 rfl) ?_
              refine lv_iconst (v := 0) S.1 S.2.1 d_D_cut_62 (by decide) ?_
              by_cases g63 : zOut v1 n
              · rw [if_pos g63] at hF; cases hF
              rw [if_neg g63] at hF
              refine zr_iast S hK hP hD hS (zk_6 g60) (fun _ => rfl) 0 rfl g63 d_D_cut_63 (fun H locs hP hS => ?_)
              replace hF : F_D_cut_s6 n (r32 + r41) v1 v2 (zs st55 6 (Int32.toNatClampNeg v2) (Int32.toNatClampNeg v1) 0) = some out := hF
              generalize zs st55 6 (Int32.toNatClampNeg v2) (Int32.toNatClampNeg v1) 0 = st64 at hP hF
              unfold F_D_cut_s6 at hF
              refine lv_aload_n S.1 S.2.1 d_D_cut_64 rfl (lv_at hl 1 rfl) ?_
              refine lv_dup S.1 S.2.1 d_D_cut_65 rfl ?_
              refine zr_get (v := .int (st64 0 0 0)) S zi_D hK hP zk_0 rfl rfl 4 (by decide) zx_12 rfl d_D_cut_66 ?_
              refine lv_iconst (v := 1) S.1 S.2.1 d_D_cut_69 (by decide) ?_
              refine lv_isub S.1 S.2.1 d_D_cut_70 ?_
              refine zr_put (v := (st64 0 0 0) - 1) S zi_D t_D t_D_ok n_D hK hP hD hS zk_0 rfl rfl 4 (by decide) zx_12 rfl rfl rfl (Nat.le_of_ble_eq_true rfl) 0 rfl d_D_cut_71 (fun H locs hP hS => ?_)
              replace hF : F_D_cut_s7 n (r32 + r41) v1 v2 (zs st64 0 0 0 ((st64 0 0 0) - 1)) = some out := hF
              generalize zs st64 0 0 0 ((st64 0 0 0) - 1) = st74 at hP hF
              unfold F_D_cut_s7 at hF
              refine lv_iload_n S.1 S.2.1 d_D_cut_74 rfl (lv_at hl 2 rfl) ?_
              refine lv_iload_n S.1 S.2.1 d_D_cut_75 rfl (lv_at hl 3 rfl) ?_
              refine va_mmin S.1 S.2.1 (S.2.2.1.trans hl.1.symm) S.2.2.2.1 (S.2.2.2.2 _ zx_89) (S.2.2.2.2 _ zx_122) (S.2.2.2.2 _ zx_53) (S.2.2.2.2 _ zx_1) (Nat.le_of_ble_eq_true rfl) (Nat.le_of_ble_eq_true rfl) (Nat.zero_le _) (Nat.zero_le _) d_D_cut_76 ?_
              refine lv_istore S.1 S.2.1 d_D_cut_79 hl (by decide) rfl (fun ls hl => ?_)
              have hl : lv_has ls 6 [(4, .int (if v2 < v1 then v2 else v1)), (3, .int (r32 + r41)), (0, .ref (ad (0, 0))), (1, .int v1), (2, .int v2)] := hl
              refine lv_iload_n S.1 S.2.1 d_D_cut_81 rfl (lv_at hl 3 rfl) ?_
              refine lv_iload_n S.1 S.2.1 d_D_cut_82 rfl (lv_at hl 4 rfl) ?_
              refine va_mmax S.1 S.2.1 (S.2.2.1.trans hl.1.symm) S.2.2.2.1 (S.2.2.2.2 _ zx_64) (S.2.2.2.2 _ zx_121) (S.2.2.2.2 _ zx_53) (S.2.2.2.2 _ zx_0) (Nat.le_of_ble_eq_true rfl) (Nat.le_of_ble_eq_true rfl) (Nat.zero_le _) (Nat.zero_le _) d_D_cut_83 ?_
              refine lv_istore S.1 S.2.1 d_D_cut_86 hl (by decide) rfl (fun ls hl => ?_)
              have hl : lv_has ls 6 [(5, .int (if v1 < v2 then v2 else v1)), (4, .int (if v2 < v1 then v2 else v1)), (3, .int (r32 + r41)), (0, .ref (ad (0, 0))), (1, .int v1), (2, .int v2)] := hl
              refine lv_aload_n S.1 S.2.1 d_D_cut_88 rfl (lv_at hl 3 rfl) ?_
              refine lv_iload S.1 S.2.1 d_D_cut_89 (lv_at hl 1 rfl) ?_
              refine lv_iload S.1 S.2.1 d_D_cut_91 (lv_at hl 0 rfl) ?_
              cases hc93 : F_D_lose n (if v2 < v1 then v2 else v1) (if v1 < v2 then v2 else v1) st74 with
              | none => rw [hc93] at hF; cases hF
              | some u93 =>
                obtain ⟨r93, st93⟩ := u93
                rw [hc93] at hF
                replace hF := zbind hF
                refine zr_callV (rest := []) S zT_good (C_D_lose hn hD l (if v2 < v1 then v2 else v1) (if v1 < v2 then v2 else v1) st74 (r93, st93) hc93) zn_D_lose zx_84 ⟨rfl, rfl⟩ ⟨Nat.le_of_ble_eq_true rfl, Nat.le_of_ble_eq_true rfl⟩ ⟨Nat.zero_le _, Nat.zero_le _⟩ hK (zr_recv hK hP zk_0 rfl rfl) hP hl.1 (Nat.le_of_ble_eq_true rfl) hS (fun _ h => h) d_D_cut_93 rfl (fun o H locs hpo _ _ hS => ?_)
                obtain ⟨rfl, hP⟩ := hpo
                refine W.eq (g2 := F0 m 96 ls []) rfl ?_
                replace hF : F_D_cut_s8 n (if v1 < v2 then v2 else v1) (if v2 < v1 then v2 else v1) (r32 + r41) st93 = some out := hF
                replace hP : zV (dC, dI) zcl (zKs n) ad (zcE n cI cZ cR cA ad) st93 H := hP
                unfold F_D_cut_s8 at hF
                refine lv_aload_n S.1 S.2.1 d_D_cut_96 rfl (lv_at hl 3 rfl) ?_
                refine lv_iload S.1 S.2.1 d_D_cut_97 (lv_at hl 0 rfl) ?_
                refine lv_iload S.1 S.2.1 d_D_cut_99 (lv_at hl 1 rfl) ?_
                cases hc101 : F_D_lose n (if v1 < v2 then v2 else v1) (if v2 < v1 then v2 else v1) st93 with
                | none => rw [hc101] at hF; cases hF
                | some u101 =>
                  obtain ⟨r101, st101⟩ := u101
                  rw [hc101] at hF
                  replace hF := zbind hF
                  refine zr_callV (rest := []) S zT_good (C_D_lose hn hD l (if v1 < v2 then v2 else v1) (if v2 < v1 then v2 else v1) st93 (r101, st101) hc101) zn_D_lose zx_84 ⟨rfl, rfl⟩ ⟨Nat.le_of_ble_eq_true rfl, Nat.le_of_ble_eq_true rfl⟩ ⟨Nat.zero_le _, Nat.zero_le _⟩ hK (zr_recv hK hP zk_0 rfl rfl) hP hl.1 (Nat.le_of_ble_eq_true rfl) hS (fun _ h => h) d_D_cut_101 rfl (fun o H locs hpo _ _ hS => ?_)
                  obtain ⟨rfl, hP⟩ := hpo
                  refine W.eq (g2 := F0 m 104 ls []) rfl ?_
                  replace hF : F_D_cut_s9 n (r32 + r41) st101 = some out := hF
                  replace hP : zV (dC, dI) zcl (zKs n) ad (zcE n cI cZ cR cA ad) st101 H := hP
                  unfold F_D_cut_s9 at hF
                  refine lv_iload_n S.1 S.2.1 d_D_cut_104 rfl (lv_at hl 2 rfl) ?_
                  cases hF
                  exact zr_iret S hret hlk hS d_D_cut_105 ⟨rfl, hP⟩
        · rw [if_neg h20] at hF
          refine lv_bipush (v := (-2)) S.1 S.2.1 d_D_cut_23 (by decide) ?_
          cases hF
          exact zr_iret S hret hlk hS d_D_cut_25 ⟨rfl, hP⟩
    · rw [if_pos h6] at hF
      refine lv_iconst (v := (-1)) S.1 S.2.1 d_D_cut_9 (by decide) ?_
      cases hF
      exact zr_iret S hret hlk hS d_D_cut_10 ⟨rfl, hP⟩
end
section
theorem d_L_find_0 : decode b_L_find 0 = .ok (.iconst 0, 1) := by decide +kernel
theorem d_L_find_1 : decode b_L_find 1 = .ok (.istore 4, 2) := by decide +kernel
theorem d_L_find_3 : decode b_L_find 3 = .ok (.aload_n 0, 1) := by decide +kernel
theorem d_L_find_4 : decode b_L_find 4 = .ok (.getfield 22, 3) := by decide +kernel
theorem d_L_find_7 : decode b_L_find 7 = .ok (.istore 5, 2) := by decide +kernel
theorem d_L_find_9 : decode b_L_find 9 = .ok (.iload 5, 2) := by decide +kernel
theorem d_L_find_11 : decode b_L_find 11 = .ok (.aload_n 0, 1) := by decide +kernel
theorem d_L_find_12 : decode b_L_find 12 = .ok (.getfield 18, 3) := by decide +kernel
theorem d_L_find_15 : decode b_L_find 15 = .ok (.if_icmp .ge 32, 3) := by decide +kernel
theorem d_L_find_18 : decode b_L_find 18 = .ok (.aload_n 0, 1) := by decide +kernel
theorem d_L_find_19 : decode b_L_find 19 = .ok (.iload 5, 2) := by decide +kernel
theorem d_L_find_21 : decode b_L_find 21 = .ok (.iload_n 1, 1) := by decide +kernel
theorem d_L_find_22 : decode b_L_find 22 = .ok (.iload_n 2, 1) := by decide +kernel
theorem d_L_find_23 : decode b_L_find 23 = .ok (.invokevirtual 53, 3) := by decide +kernel
theorem d_L_find_26 : decode b_L_find 26 = .ok (.ifCond .eq 15, 3) := by decide +kernel
theorem d_L_find_29 : decode b_L_find 29 = .ok (.iload 4, 2) := by decide +kernel
theorem d_L_find_31 : decode b_L_find 31 = .ok (.iload_n 3, 1) := by decide +kernel
theorem d_L_find_32 : decode b_L_find 32 = .ok (.if_icmp .ne 6, 3) := by decide +kernel
theorem d_L_find_35 : decode b_L_find 35 = .ok (.iload 5, 2) := by decide +kernel
theorem d_L_find_37 : decode b_L_find 37 = .ok (.ireturn, 1) := by decide +kernel
theorem d_L_find_38 : decode b_L_find 38 = .ok (.iinc 4 1, 3) := by decide +kernel
theorem d_L_find_41 : decode b_L_find 41 = .ok (.iinc 5 1, 3) := by decide +kernel
theorem d_L_find_44 : decode b_L_find 44 = .ok (.goto (-35), 3) := by decide +kernel
theorem d_L_find_47 : decode b_L_find 47 = .ok (.iconst (-1), 1) := by decide +kernel
theorem d_L_find_48 : decode b_L_find 48 = .ok (.ireturn, 1) := by decide +kernel
def F_L_find_L41 (n : Nat) (c9 : Int32 → Int32 → Int32 → Int32 → Int32 → zS → Option (Int32 × zS)) (v1 : Int32) (v2 : Int32) (v3 : Int32) (v4 : Int32) (v5 : Int32) (st : zS) : Option (Int32 × zS) :=
    c9 v1 v2 v3 v4 (v5 + 1) st

def F_L_find_L9_s1 (n : Nat) (c9 : Int32 → Int32 → Int32 → Int32 → Int32 → zS → Option (Int32 × zS)) (v1 : Int32) (v2 : Int32) (v3 : Int32) (v4 : Int32) (v5 : Int32) (t0 : Int32) (st : zS) : Option (Int32 × zS) :=
    if t0 = 0 then (F_L_find_L41 n c9 v1 v2 v3 v4 v5 st) else (if v4 = v3 then (some (v5, st)) else (F_L_find_L41 n c9 v1 v2 v3 (v4 + 1) v5 st))

def F_L_find_L9 (n : Nat) : Nat → Int32 → Int32 → Int32 → Int32 → Int32 → zS → Option (Int32 × zS)
  | 0, _, _, _, _, _, _ => none
  | f + 1, v1, v2, v3, v4, v5, st =>
    if (st 3 0 1) ≤ v5 then (some ((-1), st)) else ((F_L_isFromTo n v5 v1 v2 st).bind (fun u => F_L_find_L9_s1 n (F_L_find_L9 n f) v1 v2 v3 v4 v5 u.1 u.2))

def F_L_find (n : Nat) (v1 : Int32) (v2 : Int32) (v3 : Int32) (st : zS) : Option (Int32 × zS) :=
    F_L_find_L9 n zFuel v1 v2 v3 0 (st 3 0 0) st

set_option maxHeartbeats 4000000 in
set_option maxRecDepth 1000000 in
theorem T_L_find_L41 {dC : Nat → ClassId} {dI : Nat → Nat → Nat} {cI cZ cR cA : ClassId} {n : Nat} {ad : zK → Nat} {A : Nat → Prop} (hn : 2 ≤ n ∧ n ≤ 6) (hD : zD A (zKs n) ad) {p : Program} {l : Launch} {e : Env} {s : State} {m : MethodId} {args : Array Value} {below : List Frame} {meth : Method} {c : Code} (S : CallFix p m c b_L_find 6 s args zT N_L) (hret : meth.sig.returnType = some .int) (hlk : meth.locks = false) (hK : va_K (dC, dI) zcl (zty cI cZ cR cA) s) (out : Int32 × zS) (c9 : Int32 → Int32 → Int32 → Int32 → Int32 → zS → Option (Int32 × zS)) (hc9 : ∀ (v1 : Int32) (v2 : Int32) (v3 : Int32) (v4 : Int32) (v5 : Int32) (st : zS) (H : Heap) (locs : List Loc) (ls : Array Slot), zV (dC, dI) zcl (zKs n) ad (zcE n cI cZ cR cA ad) st H → va_S A s.heap H locs → lv_has ls 6 [(0, .ref (ad (3, 0))), (1, .int v1), (2, .int v2), (3, .int v3), (4, .int v4), (5, .int v5)] → c9 v1 v2 v3 v4 v5 st = some out → W p l e rm_L_find s m args below meth c H locs 0 0 (zQ below A (fun o H => o = some (.int out.1) ∧ zV (dC, dI) zcl (zKs n) ad (zcE n cI cZ cR cA ad) out.2 H) args s) (F0 m 9 ls [])) (v1 : Int32) (v2 : Int32) (v3 : Int32) (v4 : Int32) (v5 : Int32) (st : zS) (H : Heap) (locs : List Loc) (ls : Array Slot) (hP : zV (dC, dI) zcl (zKs n) ad (zcE n cI cZ cR cA ad) st H) (hS : va_S A s.heap H locs) (hl : lv_has ls 6 [(0, .ref (ad (3, 0))), (1, .int v1), (2, .int v2), (3, .int v3), (4, .int v4), (5, .int v5)]) (hF : F_L_find_L41 n c9 v1 v2 v3 v4 v5 st = some out) : W p l e rm_L_find s m args below meth c H locs 0 0 (zQ below A (fun o H => o = some (.int out.1) ∧ zV (dC, dI) zcl (zKs n) ad (zcE n cI cZ cR cA ad) out.2 H) args s) (F0 m 41 ls []) := by
  unfold F_L_find_L41 at hF
  refine lv_iinc (k := 5) (v := v5 + 1) S.1 S.2.1 d_L_find_41 hl rfl rfl (by decide) rfl (fun ls hl => ?_)
  have hl : lv_has ls 6 [(5, .int (v5 + 1)), (0, .ref (ad (3, 0))), (1, .int v1), (2, .int v2), (3, .int v3), (4, .int v4)] := hl
  refine lv_goto (tgt := 9) S.1 S.2.1 d_L_find_44 (by decide) ?_
  exact hc9 v1 v2 v3 v4 (v5 + 1) st _ _ _ hP hS (lv_sub hl [1, 2, 3, 4, 5, 0] rfl) hF

set_option maxHeartbeats 4000000 in
set_option maxRecDepth 1000000 in
theorem T_L_find_L9 {dC : Nat → ClassId} {dI : Nat → Nat → Nat} {cI cZ cR cA : ClassId} {n : Nat} {ad : zK → Nat} {A : Nat → Prop} (hn : 2 ≤ n ∧ n ≤ 6) (hD : zD A (zKs n) ad) {p : Program} {l : Launch} {e : Env} {s : State} {m : MethodId} {args : Array Value} {below : List Frame} {meth : Method} {c : Code} (S : CallFix p m c b_L_find 6 s args zT N_L) (hret : meth.sig.returnType = some .int) (hlk : meth.locks = false) (hK : va_K (dC, dI) zcl (zty cI cZ cR cA) s) (out : Int32 × zS) : ∀ (fu : Nat) (v1 : Int32) (v2 : Int32) (v3 : Int32) (v4 : Int32) (v5 : Int32) (st : zS) (H : Heap) (locs : List Loc) (ls : Array Slot) (hP : zV (dC, dI) zcl (zKs n) ad (zcE n cI cZ cR cA ad) st H) (hS : va_S A s.heap H locs) (hl : lv_has ls 6 [(0, .ref (ad (3, 0))), (1, .int v1), (2, .int v2), (3, .int v3), (4, .int v4), (5, .int v5)]) (hF : F_L_find_L9 n fu v1 v2 v3 v4 v5 st = some out), W p l e rm_L_find s m args below meth c H locs 0 0 (zQ below A (fun o H => o = some (.int out.1) ∧ zV (dC, dI) zcl (zKs n) ad (zcE n cI cZ cR cA ad) out.2 H) args s) (F0 m 9 ls []) := by
  intro fu
  induction fu with
  | zero => intro v1 v2 v3 v4 v5 st H locs ls hP hS hl hF; rw [F_L_find_L9] at hF; cases hF
  | succ f ih =>
    intro v1 v2 v3 v4 v5 st H locs ls hP hS hl hF
    rw [F_L_find_L9] at hF
    refine lv_iload S.1 S.2.1 d_L_find_9 (lv_at hl 5 rfl) ?_
    refine lv_aload_n S.1 S.2.1 d_L_find_11 rfl (lv_at hl 0 rfl) ?_
    refine zr_get (v := .int (st 3 0 1)) S zi_L hK hP zk_3 rfl rfl 3 (by decide) zx_20 rfl d_L_find_12 ?_
    refine lv_icmp_ge (tgt := 47) S.1 S.2.1 d_L_find_15 (by decide) (fun h15 => ?_) (fun h15 => ?_)
    · rw [if_pos h15] at hF
      refine lv_iconst (v := (-1)) S.1 S.2.1 d_L_find_47 (by decide) ?_
      cases hF
      exact zr_iret S hret hlk hS d_L_find_48 ⟨rfl, hP⟩
    · rw [if_neg h15] at hF
      refine lv_aload_n S.1 S.2.1 d_L_find_18 rfl (lv_at hl 0 rfl) ?_
      refine lv_iload S.1 S.2.1 d_L_find_19 (lv_at hl 5 rfl) ?_
      refine lv_iload_n S.1 S.2.1 d_L_find_21 rfl (lv_at hl 1 rfl) ?_
      refine lv_iload_n S.1 S.2.1 d_L_find_22 rfl (lv_at hl 2 rfl) ?_
      cases hc23 : F_L_isFromTo n v5 v1 v2 st with
      | none => rw [hc23] at hF; cases hF
      | some u23 =>
        obtain ⟨r23, st23⟩ := u23
        rw [hc23] at hF
        replace hF := zbind hF
        refine zr_callV (rest := []) S zT_good (C_L_isFromTo hn hD l v5 v1 v2 st (r23, st23) hc23) zn_L_isFromTo zx_94 ⟨rfl, rfl⟩ ⟨Nat.le_of_ble_eq_true rfl, Nat.le_of_ble_eq_true rfl⟩ ⟨Nat.zero_le _, Nat.zero_le _⟩ hK (zr_recv hK hP zk_3 rfl rfl) hP hl.1 (Nat.le_of_ble_eq_true rfl) hS (fun _ h => h) d_L_find_23 rfl (fun o H locs hpo _ _ hS => ?_)
        obtain ⟨rfl, hP⟩ := hpo
        refine W.eq (g2 := F0 m 26 ls [.int r23]) rfl ?_
        replace hF : F_L_find_L9_s1 n (F_L_find_L9 n f) v1 v2 v3 v4 v5 r23 st23 = some out := hF
        replace hP : zV (dC, dI) zcl (zKs n) ad (zcE n cI cZ cR cA ad) st23 H := hP
        unfold F_L_find_L9_s1 at hF
        refine lv_if_eq (tgt := 41) S.1 S.2.1 d_L_find_26 (by decide) (fun h26 => ?_) (fun h26 => ?_)
        · rw [if_pos h26] at hF
          exact T_L_find_L41 hn hD S hret hlk hK out (F_L_find_L9 n f) ih v1 v2 v3 v4 v5 st23 _ _ _ hP hS (lv_sub hl [0, 1, 2, 3, 4, 5] rfl) hF
        · rw [if_neg h26] at hF
          refine lv_iload S.1 S.2.1 d_L_find_29 (lv_at hl 4 rfl) ?_
          refine lv_iload_n S.1 S.2.1 d_L_find_31 rfl (lv_at hl 3 rfl) ?_
          refine lv_icmp_ne (tgt := 38) S.1 S.2.1 d_L_find_32 (by decide) (fun h32 => ?_) (fun h32 => ?_)
          · rw [if_neg h32] at hF
            refine lv_iinc (k := 4) (v := v4 + 1) S.1 S.2.1 d_L_find_38 hl rfl rfl (by decide) rfl (fun ls hl => ?_)
            have hl : lv_has ls 6 [(4, .int (v4 + 1)), (0, .ref (ad (3, 0))), (1, .int v1), (2, .int v2), (3, .int v3), (5, .int v5)] := hl
            exact T_L_find_L41 hn hD S hret hlk hK out (F_L_find_L9 n f) ih v1 v2 v3 (v4 + 1) v5 st23 _ _ _ hP hS (lv_sub hl [1, 2, 3, 4, 0, 5] rfl) hF
          · rw [if_pos h32] at hF
            refine lv_iload S.1 S.2.1 d_L_find_35 (lv_at hl 5 rfl) ?_
            cases hF
            exact zr_iret S hret hlk hS d_L_find_37 ⟨rfl, hP⟩

set_option maxHeartbeats 4000000 in
set_option maxRecDepth 1000000 in
theorem C_L_find {dC : Nat → ClassId} {dI : Nat → Nat → Nat} {cI cZ cR cA : ClassId} {n : Nat} {ad : zK → Nat} {A : Nat → Prop} (hn : 2 ≤ n ∧ n ≤ 6) (hD : zD A (zKs n) ad) (l : Launch) (v1 : Int32) (v2 : Int32) (v3 : Int32) (st : zS) (out : Int32 × zS) (hF : F_L_find n v1 v2 v3 st = some out) : zC zT (dC, dI) zcl (zty cI cZ cR cA) A l y_L_find b_L_find 6 (some .int) rm_L_find [.ref (ad (3, 0)), .int v1, .int v2, .int v3] (fun H => zV (dC, dI) zcl (zKs n) ad (zcE n cI cZ cR cA ad) st H) (fun o H => o = some (.int out.1) ∧ zV (dC, dI) zcl (zKs n) ad (zcE n cI cZ cR cA ad) out.2 H) := by
  refine zC_of (by decide) (Nat.le_of_ble_eq_true rfl) (fun p e s m args below meth c ls S hret hlk hK hP hl => ?_)
  have hS : va_S A s.heap s.heap [] := va_S.rf
  have hl : lv_has ls 6 [(0, .ref (ad (3, 0))), (1, .int v1), (2, .int v2), (3, .int v3)] := hl
  have hP : zV (dC, dI) zcl (zKs n) ad (zcE n cI cZ cR cA ad) st s.heap := hP
  unfold F_L_find at hF
  refine lv_iconst (v := 0) S.1 S.2.1 d_L_find_0 (by decide) ?_
  refine lv_istore S.1 S.2.1 d_L_find_1 hl (by decide) rfl (fun ls hl => ?_)
  have hl : lv_has ls 6 [(4, .int 0), (0, .ref (ad (3, 0))), (1, .int v1), (2, .int v2), (3, .int v3)] := hl
  refine lv_aload_n S.1 S.2.1 d_L_find_3 rfl (lv_at hl 1 rfl) ?_
  refine zr_get (v := .int (st 3 0 0)) S zi_L hK hP zk_3 rfl rfl 2 (by decide) zx_21 rfl d_L_find_4 ?_
  refine lv_istore S.1 S.2.1 d_L_find_7 hl (by decide) rfl (fun ls hl => ?_)
  have hl : lv_has ls 6 [(5, .int (st 3 0 0)), (4, .int 0), (0, .ref (ad (3, 0))), (1, .int v1), (2, .int v2), (3, .int v3)] := hl
  exact T_L_find_L9 hn hD S hret hlk hK out zFuel v1 v2 v3 0 (st 3 0 0) st _ _ _ hP hS (lv_sub hl [2, 3, 4, 5, 1, 0] rfl) hF

theorem d_L_take_0 : decode b_L_take 0 = .ok (.aload_n 0, 1) := by decide +kernel
theorem d_L_take_1 : decode b_L_take 1 = .ok (.getfield 11, 3) := by decide +kernel
theorem d_L_take_4 : decode b_L_take 4 = .ok (.iload_n 1, 1) := by decide +kernel
theorem d_L_take_5 : decode b_L_take 5 = .ok (.iaload, 1) := by decide +kernel
theorem d_L_take_6 : decode b_L_take 6 = .ok (.istore_n 2, 1) := by decide +kernel
theorem d_L_take_7 : decode b_L_take 7 = .ok (.aload_n 0, 1) := by decide +kernel
theorem d_L_take_8 : decode b_L_take 8 = .ok (.getfield 11, 3) := by decide +kernel
theorem d_L_take_11 : decode b_L_take 11 = .ok (.aload_n 0, 1) := by decide +kernel
theorem d_L_take_12 : decode b_L_take 12 = .ok (.getfield 22, 3) := by decide +kernel
theorem d_L_take_15 : decode b_L_take 15 = .ok (.aload_n 0, 1) := by decide +kernel
theorem d_L_take_16 : decode b_L_take 16 = .ok (.getfield 11, 3) := by decide +kernel
theorem d_L_take_19 : decode b_L_take 19 = .ok (.aload_n 0, 1) := by decide +kernel
theorem d_L_take_20 : decode b_L_take 20 = .ok (.getfield 22, 3) := by decide +kernel
theorem d_L_take_23 : decode b_L_take 23 = .ok (.iconst 1, 1) := by decide +kernel
theorem d_L_take_24 : decode b_L_take 24 = .ok (.iadd, 1) := by decide +kernel
theorem d_L_take_25 : decode b_L_take 25 = .ok (.iload_n 1, 1) := by decide +kernel
theorem d_L_take_26 : decode b_L_take 26 = .ok (.aload_n 0, 1) := by decide +kernel
theorem d_L_take_27 : decode b_L_take 27 = .ok (.getfield 22, 3) := by decide +kernel
theorem d_L_take_30 : decode b_L_take 30 = .ok (.isub, 1) := by decide +kernel
theorem d_L_take_31 : decode b_L_take 31 = .ok (.invokestatic 29, 3) := by decide +kernel
theorem d_L_take_34 : decode b_L_take 34 = .ok (.aload_n 0, 1) := by decide +kernel
theorem d_L_take_35 : decode b_L_take 35 = .ok (.dup, 1) := by decide +kernel
theorem d_L_take_36 : decode b_L_take 36 = .ok (.getfield 22, 3) := by decide +kernel
theorem d_L_take_39 : decode b_L_take 39 = .ok (.iconst 1, 1) := by decide +kernel
theorem d_L_take_40 : decode b_L_take 40 = .ok (.iadd, 1) := by decide +kernel
theorem d_L_take_41 : decode b_L_take 41 = .ok (.putfield 22, 3) := by decide +kernel
theorem d_L_take_44 : decode b_L_take 44 = .ok (.iload_n 2, 1) := by decide +kernel
theorem d_L_take_45 : decode b_L_take 45 = .ok (.ireturn, 1) := by decide +kernel
def F_L_take_s2 (n : Nat) (v2 : Int32) (st : zS) : Option (Int32 × zS) :=
    some (v2, st)

def F_L_take_s1 (n : Nat) (v2 : Int32) (st : zS) : Option (Int32 × zS) :=
    F_L_take_s2 n v2 (zs st 3 0 0 ((st 3 0 0) + 1))

def F_L_take (n : Nat) (v1 : Int32) (st : zS) : Option (Int32 × zS) :=
    if zOut v1 1024 then none else if zCpyOut (st 3 0 0) ((st 3 0 0) + 1) (v1 - (st 3 0 0)) 1024 then none else F_L_take_s1 n (st 4 0 (Int32.toNatClampNeg v1)) (zrow st 4 0 (va_cpy (st 4 0) (st 4 0) (Int32.toNatClampNeg (st 3 0 0)) (Int32.toNatClampNeg ((st 3 0 0) + 1)) (Int32.toNatClampNeg (v1 - (st 3 0 0)))))

set_option maxHeartbeats 4000000 in
set_option maxRecDepth 1000000 in
theorem C_L_take {dC : Nat → ClassId} {dI : Nat → Nat → Nat} {cI cZ cR cA : ClassId} {n : Nat} {ad : zK → Nat} {A : Nat → Prop} (hn : 2 ≤ n ∧ n ≤ 6) (hD : zD A (zKs n) ad) (l : Launch) (v1 : Int32) (st : zS) (out : Int32 × zS) (hF : F_L_take n v1 st = some out) : zC zT (dC, dI) zcl (zty cI cZ cR cA) A l y_L_take b_L_take 3 (some .int) rm_L_take [.ref (ad (3, 0)), .int v1] (fun H => zV (dC, dI) zcl (zKs n) ad (zcE n cI cZ cR cA ad) st H) (fun o H => o = some (.int out.1) ∧ zV (dC, dI) zcl (zKs n) ad (zcE n cI cZ cR cA ad) out.2 H) := by
  refine zC_of (by decide) (Nat.le_of_ble_eq_true rfl) (fun p e s m args below meth c ls S hret hlk hK hP hl => ?_)
  have hS : va_S A s.heap s.heap [] := va_S.rf
  have hl : lv_has ls 3 [(0, .ref (ad (3, 0))), (1, .int v1)] := hl
  have hP : zV (dC, dI) zcl (zKs n) ad (zcE n cI cZ cR cA ad) st s.heap := hP
  unfold F_L_take at hF
  refine lv_aload_n S.1 S.2.1 d_L_take_0 rfl (lv_at hl 0 rfl) ?_
  refine zr_get (v := .ref (ad (4, 0))) S zi_L hK hP zk_3 rfl rfl 0 (by decide) zx_18 rfl d_L_take_1 ?_
  refine lv_iload_n S.1 S.2.1 d_L_take_4 rfl (lv_at hl 1 rfl) ?_
  by_cases g5 : zOut v1 1024
  · rw [if_pos g5] at hF; cases hF
  rw [if_neg g5] at hF
  refine zr_iald S hK hP zk_4 rfl 0 rfl g5 d_L_take_5 ?_
  refine lv_istore_n S.1 S.2.1 d_L_take_6 rfl hl (by decide) rfl (fun ls hl => ?_)
  have hl : lv_has ls 3 [(2, .int (st 4 0 (Int32.toNatClampNeg v1))), (0, .ref (ad (3, 0))), (1, .int v1)] := hl
  refine lv_aload_n S.1 S.2.1 d_L_take_7 rfl (lv_at hl 1 rfl) ?_
  refine zr_get (v := .ref (ad (4, 0))) S zi_L hK hP zk_3 rfl rfl 0 (by decide) zx_18 rfl d_L_take_8 ?_
  refine lv_aload_n S.1 S.2.1 d_L_take_11 rfl (lv_at hl 1 rfl) ?_
  refine zr_get (v := .int (st 3 0 0)) S zi_L hK hP zk_3 rfl rfl 2 (by decide) zx_21 rfl d_L_take_12 ?_
  refine lv_aload_n S.1 S.2.1 d_L_take_15 rfl (lv_at hl 1 rfl) ?_
  refine zr_get (v := .ref (ad (4, 0))) S zi_L hK hP zk_3 rfl rfl 0 (by decide) zx_18 rfl d_L_take_16 ?_
  refine lv_aload_n S.1 S.2.1 d_L_take_19 rfl (lv_at hl 1 rfl) ?_
  refine zr_get (v := .int (st 3 0 0)) S zi_L hK hP zk_3 rfl rfl 2 (by decide) zx_21 rfl d_L_take_20 ?_
  refine lv_iconst (v := 1) S.1 S.2.1 d_L_take_23 (by decide) ?_
  refine lv_iadd S.1 S.2.1 d_L_take_24 ?_
  refine lv_iload_n S.1 S.2.1 d_L_take_25 rfl (lv_at hl 2 rfl) ?_
  refine lv_aload_n S.1 S.2.1 d_L_take_26 rfl (lv_at hl 1 rfl) ?_
  refine zr_get (v := .int (st 3 0 0)) S zi_L hK hP zk_3 rfl rfl 2 (by decide) zx_21 rfl d_L_take_27 ?_
  refine lv_isub S.1 S.2.1 d_L_take_30 ?_
  by_cases g31 : zCpyOut (st 3 0 0) ((st 3 0 0) + 1) (v1 - (st 3 0 0)) 1024
  · rw [if_pos g31] at hF; cases hF
  rw [if_neg g31] at hF
  refine zr_copy (rest := []) S hl.1 zx_91 zx_120 zx_123 zx_54 hK hP hD hS zk_4 (fun _ => rfl) 0 rfl g31 (Nat.le_of_ble_eq_true rfl) (Nat.le_of_ble_eq_true rfl) d_L_take_31 (fun H locs hP hS => ?_)
  replace hF : F_L_take_s1 n (st 4 0 (Int32.toNatClampNeg v1)) (zrow st 4 0 (va_cpy (st 4 0) (st 4 0) (Int32.toNatClampNeg (st 3 0 0)) (Int32.toNatClampNeg ((st 3 0 0) + 1)) (Int32.toNatClampNeg (v1 - (st 3 0 0))))) = some out := hF
  generalize zrow st 4 0 (va_cpy (st 4 0) (st 4 0) (Int32.toNatClampNeg (st 3 0 0)) (Int32.toNatClampNeg ((st 3 0 0) + 1)) (Int32.toNatClampNeg (v1 - (st 3 0 0)))) = st34 at hP hF
  unfold F_L_take_s1 at hF
  refine lv_aload_n S.1 S.2.1 d_L_take_34 rfl (lv_at hl 1 rfl) ?_
  refine lv_dup S.1 S.2.1 d_L_take_35 rfl ?_
  refine zr_get (v := .int (st34 3 0 0)) S zi_L hK hP zk_3 rfl rfl 2 (by decide) zx_21 rfl d_L_take_36 ?_
  refine lv_iconst (v := 1) S.1 S.2.1 d_L_take_39 (by decide) ?_
  refine lv_iadd S.1 S.2.1 d_L_take_40 ?_
  refine zr_put (v := (st34 3 0 0) + 1) S zi_L t_L t_L_ok n_L hK hP hD hS zk_3 rfl rfl 2 (by decide) zx_21 rfl rfl rfl (Nat.le_of_ble_eq_true rfl) 0 rfl d_L_take_41 (fun H locs hP hS => ?_)
  replace hF : F_L_take_s2 n (st 4 0 (Int32.toNatClampNeg v1)) (zs st34 3 0 0 ((st34 3 0 0) + 1)) = some out := hF
  generalize zs st34 3 0 0 ((st34 3 0 0) + 1) = st44 at hP hF
  unfold F_L_take_s2 at hF
  refine lv_iload_n S.1 S.2.1 d_L_take_44 rfl (lv_at hl 0 rfl) ?_
  cases hF
  exact zr_iret S hret hlk hS d_L_take_45 ⟨rfl, hP⟩

theorem d_L_kindOf_0 : decode b_L_kindOf 0 = .ok (.iload_n 0, 1) := by decide +kernel
theorem d_L_kindOf_1 : decode b_L_kindOf 1 = .ok (.bipush 17, 2) := by decide +kernel
theorem d_L_kindOf_3 : decode b_L_kindOf 3 = .ok (.ishr, 1) := by decide +kernel
theorem d_L_kindOf_4 : decode b_L_kindOf 4 = .ok (.iconst 3, 1) := by decide +kernel
theorem d_L_kindOf_5 : decode b_L_kindOf 5 = .ok (.iand, 1) := by decide +kernel
theorem d_L_kindOf_6 : decode b_L_kindOf 6 = .ok (.ireturn, 1) := by decide +kernel
def F_L_kindOf (n : Nat) (v0 : Int32) (st : zS) : Option (Int32 × zS) :=
    some ((v0 >>> (17 &&& 31)) &&& 3, st)

set_option maxHeartbeats 4000000 in
set_option maxRecDepth 1000000 in
theorem C_L_kindOf {dC : Nat → ClassId} {dI : Nat → Nat → Nat} {cI cZ cR cA : ClassId} {n : Nat} {ad : zK → Nat} {A : Nat → Prop} (hn : 2 ≤ n ∧ n ≤ 6) (hD : zD A (zKs n) ad) (l : Launch) (v0 : Int32) (st : zS) (out : Int32 × zS) (hF : F_L_kindOf n v0 st = some out) : zC zT (dC, dI) zcl (zty cI cZ cR cA) A l y_L_kindOf b_L_kindOf 1 (some .int) rm_L_kindOf [.int v0] (fun H => zV (dC, dI) zcl (zKs n) ad (zcE n cI cZ cR cA ad) st H) (fun o H => o = some (.int out.1) ∧ zV (dC, dI) zcl (zKs n) ad (zcE n cI cZ cR cA ad) out.2 H) := by
  refine zC_of (by decide) (Nat.le_of_ble_eq_true rfl) (fun p e s m args below meth c ls S hret hlk hK hP hl => ?_)
  have hS : va_S A s.heap s.heap [] := va_S.rf
  have hl : lv_has ls 1 [(0, .int v0)] := hl
  have hP : zV (dC, dI) zcl (zKs n) ad (zcE n cI cZ cR cA ad) st s.heap := hP
  unfold F_L_kindOf at hF
  refine lv_iload_n S.1 S.2.1 d_L_kindOf_0 rfl (lv_at hl 0 rfl) ?_
  refine lv_bipush (v := 17) S.1 S.2.1 d_L_kindOf_1 (by decide) ?_
  refine lv_ishr S.1 S.2.1 d_L_kindOf_3 ?_
  refine lv_iconst (v := 3) S.1 S.2.1 d_L_kindOf_4 (by decide) ?_
  refine lv_iand S.1 S.2.1 d_L_kindOf_5 ?_
  cases hF
  exact zr_iret S hret hlk hS d_L_kindOf_6 ⟨rfl, hP⟩

theorem d_L_targetOf_0 : decode b_L_targetOf 0 = .ok (.iload_n 0, 1) := by decide +kernel
theorem d_L_targetOf_1 : decode b_L_targetOf 1 = .ok (.bipush 14, 2) := by decide +kernel
theorem d_L_targetOf_3 : decode b_L_targetOf 3 = .ok (.ishr, 1) := by decide +kernel
theorem d_L_targetOf_4 : decode b_L_targetOf 4 = .ok (.bipush 7, 2) := by decide +kernel
theorem d_L_targetOf_6 : decode b_L_targetOf 6 = .ok (.iand, 1) := by decide +kernel
theorem d_L_targetOf_7 : decode b_L_targetOf 7 = .ok (.ireturn, 1) := by decide +kernel
def F_L_targetOf (n : Nat) (v0 : Int32) (st : zS) : Option (Int32 × zS) :=
    some ((v0 >>> (14 &&& 31)) &&& 7, st)

set_option maxHeartbeats 4000000 in
set_option maxRecDepth 1000000 in
theorem C_L_targetOf {dC : Nat → ClassId} {dI : Nat → Nat → Nat} {cI cZ cR cA : ClassId} {n : Nat} {ad : zK → Nat} {A : Nat → Prop} (hn : 2 ≤ n ∧ n ≤ 6) (hD : zD A (zKs n) ad) (l : Launch) (v0 : Int32) (st : zS) (out : Int32 × zS) (hF : F_L_targetOf n v0 st = some out) : zC zT (dC, dI) zcl (zty cI cZ cR cA) A l y_L_targetOf b_L_targetOf 1 (some .int) rm_L_targetOf [.int v0] (fun H => zV (dC, dI) zcl (zKs n) ad (zcE n cI cZ cR cA ad) st H) (fun o H => o = some (.int out.1) ∧ zV (dC, dI) zcl (zKs n) ad (zcE n cI cZ cR cA ad) out.2 H) := by
  refine zC_of (by decide) (Nat.le_of_ble_eq_true rfl) (fun p e s m args below meth c ls S hret hlk hK hP hl => ?_)
  have hS : va_S A s.heap s.heap [] := va_S.rf
  have hl : lv_has ls 1 [(0, .int v0)] := hl
  have hP : zV (dC, dI) zcl (zKs n) ad (zcE n cI cZ cR cA ad) st s.heap := hP
  unfold F_L_targetOf at hF
  refine lv_iload_n S.1 S.2.1 d_L_targetOf_0 rfl (lv_at hl 0 rfl) ?_
  refine lv_bipush (v := 14) S.1 S.2.1 d_L_targetOf_1 (by decide) ?_
  refine lv_ishr S.1 S.2.1 d_L_targetOf_3 ?_
  refine lv_bipush (v := 7) S.1 S.2.1 d_L_targetOf_4 (by decide) ?_
  refine lv_iand S.1 S.2.1 d_L_targetOf_6 ?_
  cases hF
  exact zr_iret S hret hlk hS d_L_targetOf_7 ⟨rfl, hP⟩

theorem d_L_distanceOf_0 : decode b_L_distanceOf 0 = .ok (.iload_n 0, 1) := by decide +kernel
theorem d_L_distanceOf_1 : decode b_L_distanceOf 1 = .ok (.sipush 16383, 3) := by decide +kernel
theorem d_L_distanceOf_4 : decode b_L_distanceOf 4 = .ok (.iand, 1) := by decide +kernel
theorem d_L_distanceOf_5 : decode b_L_distanceOf 5 = .ok (.ireturn, 1) := by decide +kernel
def F_L_distanceOf (n : Nat) (v0 : Int32) (st : zS) : Option (Int32 × zS) :=
    some (v0 &&& 16383, st)

set_option maxHeartbeats 4000000 in
set_option maxRecDepth 1000000 in
theorem C_L_distanceOf {dC : Nat → ClassId} {dI : Nat → Nat → Nat} {cI cZ cR cA : ClassId} {n : Nat} {ad : zK → Nat} {A : Nat → Prop} (hn : 2 ≤ n ∧ n ≤ 6) (hD : zD A (zKs n) ad) (l : Launch) (v0 : Int32) (st : zS) (out : Int32 × zS) (hF : F_L_distanceOf n v0 st = some out) : zC zT (dC, dI) zcl (zty cI cZ cR cA) A l y_L_distanceOf b_L_distanceOf 1 (some .int) rm_L_distanceOf [.int v0] (fun H => zV (dC, dI) zcl (zKs n) ad (zcE n cI cZ cR cA ad) st H) (fun o H => o = some (.int out.1) ∧ zV (dC, dI) zcl (zKs n) ad (zcE n cI cZ cR cA ad) out.2 H) := by
  refine zC_of (by decide) (Nat.le_of_ble_eq_true rfl) (fun p e s m args below meth c ls S hret hlk hK hP hl => ?_)
  have hS : va_S A s.heap s.heap [] := va_S.rf
  have hl : lv_has ls 1 [(0, .int v0)] := hl
  have hP : zV (dC, dI) zcl (zKs n) ad (zcE n cI cZ cR cA ad) st s.heap := hP
  unfold F_L_distanceOf at hF
  refine lv_iload_n S.1 S.2.1 d_L_distanceOf_0 rfl (lv_at hl 0 rfl) ?_
  refine lv_sipush (v := 16383) S.1 S.2.1 d_L_distanceOf_1 (by decide) ?_
  refine lv_iand S.1 S.2.1 d_L_distanceOf_4 ?_
  cases hF
  exact zr_iret S hret hlk hS d_L_distanceOf_5 ⟨rfl, hP⟩

theorem d_D_hear_0 : decode b_D_hear 0 = .ok (.aload_n 1, 1) := by decide +kernel
theorem d_D_hear_1 : decode b_D_hear 1 = .ok (.getfield 98, 3) := by decide +kernel
theorem d_D_hear_4 : decode b_D_hear 4 = .ok (.ifCond .ne 21, 3) := by decide +kernel
theorem d_D_hear_7 : decode b_D_hear 7 = .ok (.aload_n 0, 1) := by decide +kernel
theorem d_D_hear_8 : decode b_D_hear 8 = .ok (.aload_n 1, 1) := by decide +kernel
theorem d_D_hear_9 : decode b_D_hear 9 = .ok (.iload_n 3, 1) := by decide +kernel
theorem d_D_hear_10 : decode b_D_hear 10 = .ok (.iconst 1, 1) := by decide +kernel
theorem d_D_hear_11 : decode b_D_hear 11 = .ok (.if_icmp .ne 7, 3) := by decide +kernel
theorem d_D_hear_14 : decode b_D_hear 14 = .ok (.iload_n 2, 1) := by decide +kernel
theorem d_D_hear_15 : decode b_D_hear 15 = .ok (.goto 4, 3) := by decide +kernel
theorem d_D_hear_18 : decode b_D_hear 18 = .ok (.iconst (-1), 1) := by decide +kernel
theorem d_D_hear_19 : decode b_D_hear 19 = .ok (.invokevirtual 149, 3) := by decide +kernel
theorem d_D_hear_22 : decode b_D_hear 22 = .ok (.goto 59, 3) := by decide +kernel
theorem d_D_hear_25 : decode b_D_hear 25 = .ok (.iload_n 3, 1) := by decide +kernel
theorem d_D_hear_26 : decode b_D_hear 26 = .ok (.iconst 1, 1) := by decide +kernel
theorem d_D_hear_27 : decode b_D_hear 27 = .ok (.if_icmp .eq 23, 3) := by decide +kernel
theorem d_D_hear_30 : decode b_D_hear 30 = .ok (.iload_n 3, 1) := by decide +kernel
theorem d_D_hear_31 : decode b_D_hear 31 = .ok (.iconst 2, 1) := by decide +kernel
theorem d_D_hear_32 : decode b_D_hear 32 = .ok (.if_icmp .ne 10, 3) := by decide +kernel
theorem d_D_hear_35 : decode b_D_hear 35 = .ok (.aload_n 1, 1) := by decide +kernel
theorem d_D_hear_36 : decode b_D_hear 36 = .ok (.getfield 112, 3) := by decide +kernel
theorem d_D_hear_39 : decode b_D_hear 39 = .ok (.iload_n 2, 1) := by decide +kernel
theorem d_D_hear_40 : decode b_D_hear 40 = .ok (.iconst 0, 1) := by decide +kernel
theorem d_D_hear_41 : decode b_D_hear 41 = .ok (.bastore, 1) := by decide +kernel
theorem d_D_hear_42 : decode b_D_hear 42 = .ok (.aload_n 1, 1) := by decide +kernel
theorem d_D_hear_43 : decode b_D_hear 43 = .ok (.iload_n 2, 1) := by decide +kernel
theorem d_D_hear_44 : decode b_D_hear 44 = .ok (.invokevirtual 145, 3) := by decide +kernel
theorem d_D_hear_47 : decode b_D_hear 47 = .ok (.goto 34, 3) := by decide +kernel
theorem d_D_hear_50 : decode b_D_hear 50 = .ok (.iload_n 2, 1) := by decide +kernel
theorem d_D_hear_51 : decode b_D_hear 51 = .ok (.aload_n 1, 1) := by decide +kernel
theorem d_D_hear_52 : decode b_D_hear 52 = .ok (.getfield 95, 3) := by decide +kernel
theorem d_D_hear_55 : decode b_D_hear 55 = .ok (.if_icmp .ne 16, 3) := by decide +kernel
theorem d_D_hear_58 : decode b_D_hear 58 = .ok (.aload_n 1, 1) := by decide +kernel
theorem d_D_hear_59 : decode b_D_hear 59 = .ok (.iconst 1, 1) := by decide +kernel
theorem d_D_hear_60 : decode b_D_hear 60 = .ok (.putfield 105, 3) := by decide +kernel
theorem d_D_hear_63 : decode b_D_hear 63 = .ok (.aload_n 1, 1) := by decide +kernel
theorem d_D_hear_64 : decode b_D_hear 64 = .ok (.iconst 1, 1) := by decide +kernel
theorem d_D_hear_65 : decode b_D_hear 65 = .ok (.putfield 102, 3) := by decide +kernel
theorem d_D_hear_68 : decode b_D_hear 68 = .ok (.goto 13, 3) := by decide +kernel
theorem d_D_hear_71 : decode b_D_hear 71 = .ok (.aload_n 0, 1) := by decide +kernel
theorem d_D_hear_72 : decode b_D_hear 72 = .ok (.getfield 39, 3) := by decide +kernel
theorem d_D_hear_75 : decode b_D_hear 75 = .ok (.aload_n 1, 1) := by decide +kernel
theorem d_D_hear_76 : decode b_D_hear 76 = .ok (.iload_n 2, 1) := by decide +kernel
theorem d_D_hear_77 : decode b_D_hear 77 = .ok (.iconst 2, 1) := by decide +kernel
theorem d_D_hear_78 : decode b_D_hear 78 = .ok (.invokevirtual 137, 3) := by decide +kernel
theorem d_D_hear_81 : decode b_D_hear 81 = .ok (.aload_n 0, 1) := by decide +kernel
theorem d_D_hear_82 : decode b_D_hear 82 = .ok (.aload_n 1, 1) := by decide +kernel
theorem d_D_hear_83 : decode b_D_hear 83 = .ok (.invokevirtual 153, 3) := by decide +kernel
theorem d_D_hear_86 : decode b_D_hear 86 = .ok (.return_, 1) := by decide +kernel
def F_D_hear_L81_s1 (n : Nat) (st : zS) : Option (Int32 × zS) :=
    some (0, st)

def F_D_hear_L81 (n : Nat) (k1 : Nat) (st : zS) : Option (Int32 × zS) :=
    (F_D_endIfDone n k1 st).bind (fun u => F_D_hear_L81_s1 n u.2)

def F_D_hear_L19_s1 (n : Nat) (k1 : Nat) (st : zS) : Option (Int32 × zS) :=
    F_D_hear_L81 n k1 st

def F_D_hear_L19 (n : Nat) (k1 : Nat) (u1 : Nat) (t2 : Int32) (st : zS) : Option (Int32 × zS) :=
    (F_D_look n u1 t2 st).bind (fun u => F_D_hear_L19_s1 n k1 u.2)

def F_D_hear_L42_s1 (n : Nat) (k1 : Nat) (st : zS) : Option (Int32 × zS) :=
    F_D_hear_L81 n k1 st

def F_D_hear_L42 (n : Nat) (k1 : Nat) (v2 : Int32) (st : zS) : Option (Int32 × zS) :=
    (F_R_growIfFarther n k1 v2 st).bind (fun u => F_D_hear_L42_s1 n k1 u.2)

def F_D_hear_s1 (n : Nat) (k1 : Nat) (st : zS) : Option (Int32 × zS) :=
    F_D_hear_L81 n k1 st

def F_D_hear_s3 (n : Nat) (k1 : Nat) (st : zS) : Option (Int32 × zS) :=
    F_D_hear_L81 n k1 st

def F_D_hear_s2 (n : Nat) (k1 : Nat) (st : zS) : Option (Int32 × zS) :=
    F_D_hear_s3 n k1 (zs st 7 k1 5 1)

def F_D_hear_s4 (n : Nat) (k1 : Nat) (v2 : Int32) (st : zS) : Option (Int32 × zS) :=
    F_D_hear_L42 n k1 v2 st

def F_D_hear (n : Nat) (k1 : Nat) (v2 : Int32) (v3 : Int32) (st : zS) : Option (Int32 × zS) :=
    if (st 7 k1 3) = 0 then (if v3 = 1 then (F_D_hear_L19 n k1 k1 v2 st) else (F_D_hear_L19 n k1 k1 (-1) st)) else (if v3 = 1 then (if v2 = (st 7 k1 2) then (F_D_hear_s2 n k1 (zs st 7 k1 4 1)) else ((F_L_send n k1 v2 2 st).bind (fun u => F_D_hear_s1 n k1 u.2))) else (if v3 = 2 then (if zOut v2 n then none else F_D_hear_s4 n k1 v2 (zs st 9 k1 (Int32.toNatClampNeg v2) 0)) else (F_D_hear_L42 n k1 v2 st)))

set_option maxHeartbeats 4000000 in
set_option maxRecDepth 1000000 in
theorem T_D_hear_L81 {dC : Nat → ClassId} {dI : Nat → Nat → Nat} {cI cZ cR cA : ClassId} {n : Nat} {ad : zK → Nat} {A : Nat → Prop} (hn : 2 ≤ n ∧ n ≤ 6) (hD : zD A (zKs n) ad) {p : Program} {l : Launch} {e : Env} {s : State} {m : MethodId} {args : Array Value} {below : List Frame} {meth : Method} {c : Code} (S : CallFix p m c b_D_hear 4 s args zT N_D) (hret : meth.sig.returnType = none) (hlk : meth.locks = false) (hK : va_K (dC, dI) zcl (zty cI cZ cR cA) s) (out : Int32 × zS) (k1 : Nat) (hk1 : (7, k1) ∈ zKs n) (st : zS) (H : Heap) (locs : List Loc) (ls : Array Slot) (hP : zV (dC, dI) zcl (zKs n) ad (zcE n cI cZ cR cA ad) st H) (hS : va_S A s.heap H locs) (hl : lv_has ls 4 [(0, .ref (ad (0, 0))), (1, .ref (ad (7, k1)))]) (hF : F_D_hear_L81 n k1 st = some out) : W p l e rm_D_hear s m args below meth c H locs 0 0 (zQ below A (fun o H => o = none ∧ zV (dC, dI) zcl (zKs n) ad (zcE n cI cZ cR cA ad) out.2 H) args s) (F0 m 81 ls []) := by
  unfold F_D_hear_L81 at hF
  refine lv_aload_n S.1 S.2.1 d_D_hear_81 rfl (lv_at hl 0 rfl) ?_
  refine lv_aload_n S.1 S.2.1 d_D_hear_82 rfl (lv_at hl 1 rfl) ?_
  cases hc83 : F_D_endIfDone n k1 st with
  | none => rw [hc83] at hF; cases hF
  | some u83 =>
    obtain ⟨r83, st83⟩ := u83
    rw [hc83] at hF
    replace hF := zbind hF
    refine zr_callV (rest := []) S zT_good (C_D_endIfDone hn hD l k1 hk1 st (r83, st83) hc83) zn_D_endIfDone zx_65 ⟨rfl, rfl⟩ ⟨Nat.le_of_ble_eq_true rfl, Nat.le_of_ble_eq_true rfl⟩ ⟨Nat.zero_le _, Nat.zero_le _⟩ hK (zr_recv hK hP zk_0 rfl rfl) hP hl.1 (Nat.le_of_ble_eq_true rfl) hS (fun _ h => h) d_D_hear_83 rfl (fun o H locs hpo _ _ hS => ?_)
    obtain ⟨rfl, hP⟩ := hpo
    refine W.eq (g2 := F0 m 86 ls []) rfl ?_
    replace hF : F_D_hear_L81_s1 n st83 = some out := hF
    replace hP : zV (dC, dI) zcl (zKs n) ad (zcE n cI cZ cR cA ad) st83 H := hP
    unfold F_D_hear_L81_s1 at hF
    cases hF
    exact zr_vret S hret hlk hS d_D_hear_86 ⟨rfl, hP⟩

set_option maxHeartbeats 4000000 in
set_option maxRecDepth 1000000 in
theorem T_D_hear_L19 {dC : Nat → ClassId} {dI : Nat → Nat → Nat} {cI cZ cR cA : ClassId} {n : Nat} {ad : zK → Nat} {A : Nat → Prop} (hn : 2 ≤ n ∧ n ≤ 6) (hD : zD A (zKs n) ad) {p : Program} {l : Launch} {e : Env} {s : State} {m : MethodId} {args : Array Value} {below : List Frame} {meth : Method} {c : Code} (S : CallFix p m c b_D_hear 4 s args zT N_D) (hret : meth.sig.returnType = none) (hlk : meth.locks = false) (hK : va_K (dC, dI) zcl (zty cI cZ cR cA) s) (out : Int32 × zS) (k1 : Nat) (u1 : Nat) (t2 : Int32) (hk1 : (7, k1) ∈ zKs n) (hu1 : (7, u1) ∈ zKs n) (st : zS) (H : Heap) (locs : List Loc) (ls : Array Slot) (hP : zV (dC, dI) zcl (zKs n) ad (zcE n cI cZ cR cA ad) st H) (hS : va_S A s.heap H locs) (hl : lv_has ls 4 [(0, .ref (ad (0, 0))), (1, .ref (ad (7, k1)))]) (hF : F_D_hear_L19 n k1 u1 t2 st = some out) : W p l e rm_D_hear s m args below meth c H locs 0 0 (zQ below A (fun o H => o = none ∧ zV (dC, dI) zcl (zKs n) ad (zcE n cI cZ cR cA ad) out.2 H) args s) (F0 m 19 ls [.int t2, .ref (ad (7, u1)), .ref (ad (0, 0))]) := by
  unfold F_D_hear_L19 at hF
  cases hc19 : F_D_look n u1 t2 st with
  | none => rw [hc19] at hF; cases hF
  | some u19 =>
    obtain ⟨r19, st19⟩ := u19
    rw [hc19] at hF
    replace hF := zbind hF
    refine zr_callV (rest := []) S zT_good (C_D_look hn hD l u1 t2 hu1 st (r19, st19) hc19) zn_D_look zx_63 ⟨rfl, rfl⟩ ⟨Nat.le_of_ble_eq_true rfl, Nat.le_of_ble_eq_true rfl⟩ ⟨Nat.zero_le _, Nat.zero_le _⟩ hK (zr_recv hK hP zk_0 rfl rfl) hP hl.1 (Nat.le_of_ble_eq_true rfl) hS (fun _ h => h) d_D_hear_19 rfl (fun o H locs hpo _ _ hS => ?_)
    obtain ⟨rfl, hP⟩ := hpo
    refine W.eq (g2 := F0 m 22 ls []) rfl ?_
    replace hF : F_D_hear_L19_s1 n k1 st19 = some out := hF
    replace hP : zV (dC, dI) zcl (zKs n) ad (zcE n cI cZ cR cA ad) st19 H := hP
    unfold F_D_hear_L19_s1 at hF
    refine lv_goto (tgt := 81) S.1 S.2.1 d_D_hear_22 (by decide) ?_
    exact T_D_hear_L81 hn hD S hret hlk hK out k1 hk1 st19 _ _ _ hP hS (lv_sub hl [0, 1] rfl) hF

set_option maxHeartbeats 4000000 in
set_option maxRecDepth 1000000 in
theorem T_D_hear_L42 {dC : Nat → ClassId} {dI : Nat → Nat → Nat} {cI cZ cR cA : ClassId} {n : Nat} {ad : zK → Nat} {A : Nat → Prop} (hn : 2 ≤ n ∧ n ≤ 6) (hD : zD A (zKs n) ad) {p : Program} {l : Launch} {e : Env} {s : State} {m : MethodId} {args : Array Value} {below : List Frame} {meth : Method} {c : Code} (S : CallFix p m c b_D_hear 4 s args zT N_D) (hret : meth.sig.returnType = none) (hlk : meth.locks = false) (hK : va_K (dC, dI) zcl (zty cI cZ cR cA) s) (out : Int32 × zS) (k1 : Nat) (v2 : Int32) (hk1 : (7, k1) ∈ zKs n) (st : zS) (H : Heap) (locs : List Loc) (ls : Array Slot) (hP : zV (dC, dI) zcl (zKs n) ad (zcE n cI cZ cR cA ad) st H) (hS : va_S A s.heap H locs) (hl : lv_has ls 4 [(0, .ref (ad (0, 0))), (1, .ref (ad (7, k1))), (2, .int v2)]) (hF : F_D_hear_L42 n k1 v2 st = some out) : W p l e rm_D_hear s m args below meth c H locs 0 0 (zQ below A (fun o H => o = none ∧ zV (dC, dI) zcl (zKs n) ad (zcE n cI cZ cR cA ad) out.2 H) args s) (F0 m 42 ls []) := by
  unfold F_D_hear_L42 at hF
  refine lv_aload_n S.1 S.2.1 d_D_hear_42 rfl (lv_at hl 1 rfl) ?_
  refine lv_iload_n S.1 S.2.1 d_D_hear_43 rfl (lv_at hl 2 rfl) ?_
  cases hc44 : F_R_growIfFarther n k1 v2 st with
  | none => rw [hc44] at hF; cases hF
  | some u44 =>
    obtain ⟨r44, st44⟩ := u44
    rw [hc44] at hF
    replace hF := zbind hF
    refine zr_callV (rest := []) S zT_good (C_R_growIfFarther hn hD l k1 v2 hk1 st (r44, st44) hc44) zn_R_growIfFarther zx_62 ⟨rfl, rfl⟩ ⟨Nat.le_of_ble_eq_true rfl, Nat.le_of_ble_eq_true rfl⟩ ⟨Nat.zero_le _, Nat.zero_le _⟩ hK (zr_recv hK hP hk1 rfl rfl) hP hl.1 (Nat.le_of_ble_eq_true rfl) hS (fun _ h => h) d_D_hear_44 rfl (fun o H locs hpo _ _ hS => ?_)
    obtain ⟨rfl, hP⟩ := hpo
    refine W.eq (g2 := F0 m 47 ls []) rfl ?_
    replace hF : F_D_hear_L42_s1 n k1 st44 = some out := hF
    replace hP : zV (dC, dI) zcl (zKs n) ad (zcE n cI cZ cR cA ad) st44 H := hP
    unfold F_D_hear_L42_s1 at hF
    refine lv_goto (tgt := 81) S.1 S.2.1 d_D_hear_47 (by decide) ?_
    exact T_D_hear_L81 hn hD S hret hlk hK out k1 hk1 st44 _ _ _ hP hS (lv_sub hl [0, 1] rfl) hF

set_option maxHeartbeats 4000000 in
set_option maxRecDepth 1000000 in
theorem C_D_hear {dC : Nat → ClassId} {dI : Nat → Nat → Nat} {cI cZ cR cA : ClassId} {n : Nat} {ad : zK → Nat} {A : Nat → Prop} (hn : 2 ≤ n ∧ n ≤ 6) (hD : zD A (zKs n) ad) (l : Launch) (k1 : Nat) (v2 : Int32) (v3 : Int32) (hk1 : (7, k1) ∈ zKs n) (st : zS) (out : Int32 × zS) (hF : F_D_hear n k1 v2 v3 st = some out) : zC zT (dC, dI) zcl (zty cI cZ cR cA) A l y_D_hear b_D_hear 4 (none) rm_D_hear [.ref (ad (0, 0)), .ref (ad (7, k1)), .int v2, .int v3] (fun H => zV (dC, dI) zcl (zKs n) ad (zcE n cI cZ cR cA ad) st H) (fun o H => o = none ∧ zV (dC, dI) zcl (zKs n) ad (zcE n cI cZ cR cA ad) out.2 H) := by
  refine zC_of (by decide) (Nat.le_of_ble_eq_true rfl) (fun p e s m args below meth c ls S hret hlk hK hP hl => ?_)
  have hS : va_S A s.heap s.heap [] := va_S.rf
  have hl : lv_has ls 4 [(0, .ref (ad (0, 0))), (1, .ref (ad (7, k1))), (2, .int v2), (3, .int v3)] := hl
  have hP : zV (dC, dI) zcl (zKs n) ad (zcE n cI cZ cR cA ad) st s.heap := hP
  unfold F_D_hear at hF
  refine lv_aload_n S.1 S.2.1 d_D_hear_0 rfl (lv_at hl 1 rfl) ?_
  refine zr_get (v := .int (st 7 k1 3)) S zi_R hK hP hk1 rfl rfl 8 (by decide) zx_17 rfl d_D_hear_1 ?_
  refine lv_if_ne (tgt := 25) S.1 S.2.1 d_D_hear_4 (by decide) (fun h4 => ?_) (fun h4 => ?_)
  · rw [if_neg h4] at hF
    refine lv_iload_n S.1 S.2.1 d_D_hear_25 rfl (lv_at hl 3 rfl) ?_
    refine lv_iconst (v := 1) S.1 S.2.1 d_D_hear_26 (by decide) ?_
    refine lv_icmp_eq (tgt := 50) S.1 S.2.1 d_D_hear_27 (by decide) (fun h27 => ?_) (fun h27 => ?_)
    · rw [if_pos h27] at hF
      refine lv_iload_n S.1 S.2.1 d_D_hear_50 rfl (lv_at hl 2 rfl) ?_
      refine lv_aload_n S.1 S.2.1 d_D_hear_51 rfl (lv_at hl 1 rfl) ?_
      refine zr_get (v := .int (st 7 k1 2)) S zi_R hK hP hk1 rfl rfl 7 (by decide) zx_16 rfl d_D_hear_52 ?_
      refine lv_icmp_ne (tgt := 71) S.1 S.2.1 d_D_hear_55 (by decide) (fun h55 => ?_) (fun h55 => ?_)
      · rw [if_neg h55] at hF
        refine lv_aload_n S.1 S.2.1 d_D_hear_71 rfl (lv_at hl 0 rfl) ?_
        refine zr_get (v := .ref (ad (3, 0))) S zi_D hK hP zk_0 rfl rfl 3 (by decide) zx_11 rfl d_D_hear_72 ?_
        refine lv_aload_n S.1 S.2.1 d_D_hear_75 rfl (lv_at hl 1 rfl) ?_
        refine lv_iload_n S.1 S.2.1 d_D_hear_76 rfl (lv_at hl 2 rfl) ?_
        refine lv_iconst (v := 2) S.1 S.2.1 d_D_hear_77 (by decide) ?_
        cases hc78 : F_L_send n k1 v2 2 st with
        | none => rw [hc78] at hF; cases hF
        | some u78 =>
          obtain ⟨r78, st78⟩ := u78
          rw [hc78] at hF
          replace hF := zbind hF
          refine zr_callV (rest := []) S zT_good (C_L_send hn hD l k1 v2 2 hk1 st (r78, st78) hc78) zn_L_send zx_60 ⟨rfl, rfl⟩ ⟨Nat.le_of_ble_eq_true rfl, Nat.le_of_ble_eq_true rfl⟩ ⟨Nat.zero_le _, Nat.zero_le _⟩ hK (zr_recv hK hP zk_3 rfl rfl) hP hl.1 (Nat.le_of_ble_eq_true rfl) hS (fun _ h => h) d_D_hear_78 rfl (fun o H locs hpo _ _ hS => ?_)
          obtain ⟨rfl, hP⟩ := hpo
          refine W.eq (g2 := F0 m 81 ls []) rfl ?_
          replace hF : F_D_hear_s1 n k1 st78 = some out := hF
          replace hP : zV (dC, dI) zcl (zKs n) ad (zcE n cI cZ cR cA ad) st78 H := hP
          unfold F_D_hear_s1 at hF
          exact T_D_hear_L81 hn hD S hret hlk hK out k1 hk1 st78 _ _ _ hP hS (lv_sub hl [0, 1] rfl) hF
      · rw [if_pos h55] at hF
        refine lv_aload_n S.1 S.2.1 d_D_hear_58 rfl (lv_at hl 1 rfl) ?_
        refine lv_iconst (v := 1) S.1 S.2.1 d_D_hear_59 (by decide) ?_
        refine zr_put (v := 1) S zi_R t_R t_R_ok n_R hK hP hD hS hk1 rfl rfl 9 (by decide) zx_3 rfl rfl rfl (Nat.le_of_ble_eq_true rfl) 4 rfl d_D_hear_60 (fun H locs hP hS => ?_)
        replace hF : F_D_hear_s2 n k1 (zs st 7 k1 4 1) = some out := hF
        generalize zs st 7 k1 4 1 = st63 at hP hF
        unfold F_D_hear_s2 at hF
        refine lv_aload_n S.1 S.2.1 d_D_hear_63 rfl (lv_at hl 1 rfl) ?_
        refine lv_iconst (v := 1) S.1 S.2.1 d_D_hear_64 (by decide) ?_
        refine zr_put (v := 1) S zi_R t_R t_R_ok n_R hK hP hD hS hk1 rfl rfl 10 (by decide) zx_2 rfl rfl rfl (Nat.le_of_ble_eq_true rfl) 5 rfl d_D_hear_65 (fun H locs hP hS => ?_)
        replace hF : F_D_hear_s3 n k1 (zs st63 7 k1 5 1) = some out := hF
        generalize zs st63 7 k1 5 1 = st68 at hP hF
        unfold F_D_hear_s3 at hF
        refine lv_goto (tgt := 81) S.1 S.2.1 d_D_hear_68 (by decide) ?_
        exact T_D_hear_L81 hn hD S hret hlk hK out k1 hk1 st68 _ _ _ hP hS (lv_sub hl [0, 1] rfl) hF
    · rw [if_neg h27] at hF
      refine lv_iload_n S.1 S.2.1 d_D_hear_30 rfl (lv_at hl 3 rfl) ?_
      refine lv_iconst (v := 2) S.1 S.2.1 d_D_hear_31 (by decide) ?_
      refine lv_icmp_ne (tgt := 42) S.1 S.2.1 d_D_hear_32 (by decide) (fun h32 => ?_) (fun h32 => ?_)
      · rw [if_neg h32] at hF
        exact T_D_hear_L42 hn hD S hret hlk hK out k1 v2 hk1 st _ _ _ hP hS (lv_sub hl [0, 1, 2] rfl) hF
      · rw [if_pos h32] at hF
        refine lv_aload_n S.1 S.2.1 d_D_hear_35 rfl (lv_at hl 1 rfl) ?_
        refine zr_get (v := .ref (ad (9, k1))) S zi_R hK hP hk1 rfl rfl 4 (by decide) zx_5 rfl d_D_hear_36 ?_
        refine lv_iload_n S.1 S.2.1 d_D_hear_39 rfl (lv_at hl 2 rfl) ?_
        refine lv_iconst (v := 0) S.1 S.2.1 d_D_hear_40 (by decide) ?_
        by_cases g41 : zOut v2 n
        · rw [if_pos g41] at hF; cases hF
        rw [if_neg g41] at hF
        refine zr_zast S hK hP hD hS (zk_97 hk1) (fun _ => rfl) 1 rfl g41 (by decide) d_D_hear_41 (fun H locs hP hS => ?_)
        replace hF : F_D_hear_s4 n k1 v2 (zs st 9 k1 (Int32.toNatClampNeg v2) 0) = some out := hF
        generalize zs st 9 k1 (Int32.toNatClampNeg v2) 0 = st42 at hP hF
        unfold F_D_hear_s4 at hF
        exact T_D_hear_L42 hn hD S hret hlk hK out k1 v2 hk1 st42 _ _ _ hP hS (lv_sub hl [0, 1, 2] rfl) hF
  · rw [if_pos h4] at hF
    refine lv_aload_n S.1 S.2.1 d_D_hear_7 rfl (lv_at hl 0 rfl) ?_
    refine lv_aload_n S.1 S.2.1 d_D_hear_8 rfl (lv_at hl 1 rfl) ?_
    refine lv_iload_n S.1 S.2.1 d_D_hear_9 rfl (lv_at hl 3 rfl) ?_
    refine lv_iconst (v := 1) S.1 S.2.1 d_D_hear_10 (by decide) ?_
    refine lv_icmp_ne (tgt := 18) S.1 S.2.1 d_D_hear_11 (by decide) (fun h11 => ?_) (fun h11 => ?_)
    · rw [if_neg h11] at hF
      refine lv_iconst (v := (-1)) S.1 S.2.1 d_D_hear_18 (by decide) ?_
      exact T_D_hear_L19 hn hD S hret hlk hK out k1 k1 (-1) hk1 hk1 st _ _ _ hP hS (lv_sub hl [0, 1] rfl) hF
    · rw [if_pos h11] at hF
      refine lv_iload_n S.1 S.2.1 d_D_hear_14 rfl (lv_at hl 2 rfl) ?_
      refine lv_goto (tgt := 19) S.1 S.2.1 d_D_hear_15 (by decide) ?_
      exact T_D_hear_L19 hn hD S hret hlk hK out k1 k1 v2 hk1 hk1 st _ _ _ hP hS (lv_sub hl [0, 1] rfl) hF

theorem d_D_cost_0 : decode b_D_cost 0 = .ok (.aload_n 0, 1) := by decide +kernel
theorem d_D_cost_1 : decode b_D_cost 1 = .ok (.iload_n 1, 1) := by decide +kernel
theorem d_D_cost_2 : decode b_D_cost 2 = .ok (.iload_n 2, 1) := by decide +kernel
theorem d_D_cost_3 : decode b_D_cost 3 = .ok (.invokevirtual 61, 3) := by decide +kernel
theorem d_D_cost_6 : decode b_D_cost 6 = .ok (.ifCond .eq 14, 3) := by decide +kernel
theorem d_D_cost_9 : decode b_D_cost 9 = .ok (.aload_n 0, 1) := by decide +kernel
theorem d_D_cost_10 : decode b_D_cost 10 = .ok (.getfield 24, 3) := by decide +kernel
theorem d_D_cost_13 : decode b_D_cost 13 = .ok (.iload_n 1, 1) := by decide +kernel
theorem d_D_cost_14 : decode b_D_cost 14 = .ok (.aaload, 1) := by decide +kernel
theorem d_D_cost_15 : decode b_D_cost 15 = .ok (.iload_n 2, 1) := by decide +kernel
theorem d_D_cost_16 : decode b_D_cost 16 = .ok (.iaload, 1) := by decide +kernel
theorem d_D_cost_17 : decode b_D_cost 17 = .ok (.goto 4, 3) := by decide +kernel
theorem d_D_cost_20 : decode b_D_cost 20 = .ok (.iconst (-1), 1) := by decide +kernel
theorem d_D_cost_21 : decode b_D_cost 21 = .ok (.ireturn, 1) := by decide +kernel
def F_D_cost_s1 (n : Nat) (v1 : Int32) (v2 : Int32) (t0 : Int32) (st : zS) : Option (Int32 × zS) :=
    if t0 = 0 then (some ((-1), st)) else (if zOut v1 n then none else if zOut v2 n then none else some (st 6 (Int32.toNatClampNeg v1) (Int32.toNatClampNeg v2), st))

def F_D_cost (n : Nat) (v1 : Int32) (v2 : Int32) (st : zS) : Option (Int32 × zS) :=
    (F_D_isLink n v1 v2 st).bind (fun u => F_D_cost_s1 n v1 v2 u.1 u.2)

set_option maxHeartbeats 4000000 in
set_option maxRecDepth 1000000 in
theorem C_D_cost {dC : Nat → ClassId} {dI : Nat → Nat → Nat} {cI cZ cR cA : ClassId} {n : Nat} {ad : zK → Nat} {A : Nat → Prop} (hn : 2 ≤ n ∧ n ≤ 6) (hD : zD A (zKs n) ad) (l : Launch) (v1 : Int32) (v2 : Int32) (st : zS) (out : Int32 × zS) (hF : F_D_cost n v1 v2 st = some out) : zC zT (dC, dI) zcl (zty cI cZ cR cA) A l y_D_cost b_D_cost 3 (some .int) rm_D_cost [.ref (ad (0, 0)), .int v1, .int v2] (fun H => zV (dC, dI) zcl (zKs n) ad (zcE n cI cZ cR cA ad) st H) (fun o H => o = some (.int out.1) ∧ zV (dC, dI) zcl (zKs n) ad (zcE n cI cZ cR cA ad) out.2 H) := by
  refine zC_of (by decide) (Nat.le_of_ble_eq_true rfl) (fun p e s m args below meth c ls S hret hlk hK hP hl => ?_)
  have hS : va_S A s.heap s.heap [] := va_S.rf
  have hl : lv_has ls 3 [(0, .ref (ad (0, 0))), (1, .int v1), (2, .int v2)] := hl
  have hP : zV (dC, dI) zcl (zKs n) ad (zcE n cI cZ cR cA ad) st s.heap := hP
  unfold F_D_cost at hF
  refine lv_aload_n S.1 S.2.1 d_D_cost_0 rfl (lv_at hl 0 rfl) ?_
  refine lv_iload_n S.1 S.2.1 d_D_cost_1 rfl (lv_at hl 1 rfl) ?_
  refine lv_iload_n S.1 S.2.1 d_D_cost_2 rfl (lv_at hl 2 rfl) ?_
  cases hc3 : F_D_isLink n v1 v2 st with
  | none => rw [hc3] at hF; cases hF
  | some u3 =>
    obtain ⟨r3, st3⟩ := u3
    rw [hc3] at hF
    replace hF := zbind hF
    refine zr_callV (rest := []) S zT_good (C_D_isLink hn hD l v1 v2 st (r3, st3) hc3) zn_D_isLink zx_82 ⟨rfl, rfl⟩ ⟨Nat.le_of_ble_eq_true rfl, Nat.le_of_ble_eq_true rfl⟩ ⟨Nat.zero_le _, Nat.zero_le _⟩ hK (zr_recv hK hP zk_0 rfl rfl) hP hl.1 (Nat.le_of_ble_eq_true rfl) hS (fun _ h => h) d_D_cost_3 rfl (fun o H locs hpo _ _ hS => ?_)
    obtain ⟨rfl, hP⟩ := hpo
    refine W.eq (g2 := F0 m 6 ls [.int r3]) rfl ?_
    replace hF : F_D_cost_s1 n v1 v2 r3 st3 = some out := hF
    replace hP : zV (dC, dI) zcl (zKs n) ad (zcE n cI cZ cR cA ad) st3 H := hP
    unfold F_D_cost_s1 at hF
    refine lv_if_eq (tgt := 20) S.1 S.2.1 d_D_cost_6 (by decide) (fun h6 => ?_) (fun h6 => ?_)
    · rw [if_pos h6] at hF
      refine lv_iconst (v := (-1)) S.1 S.2.1 d_D_cost_20 (by decide) ?_
      cases hF
      exact zr_iret S hret hlk hS d_D_cost_21 ⟨rfl, hP⟩
    · rw [if_neg h6] at hF
      refine lv_aload_n S.1 S.2.1 d_D_cost_9 rfl (lv_at hl 0 rfl) ?_
      refine zr_get (v := .ref (ad (1, 0))) S zi_D hK hP zk_0 rfl rfl 1 (by decide) zx_9 rfl d_D_cost_10 ?_
      refine lv_iload_n S.1 S.2.1 d_D_cost_13 rfl (lv_at hl 1 rfl) ?_
      by_cases g14 : zOut v1 n
      · rw [if_pos g14] at hF; cases hF
      rw [if_neg g14] at hF
      refine zr_aald (b := ad (6, (Int32.toNatClampNeg v1))) S hK hP zk_1 rfl 3 rfl rfl g14 rfl d_D_cost_14 ?_
      refine lv_iload_n S.1 S.2.1 d_D_cost_15 rfl (lv_at hl 2 rfl) ?_
      by_cases g16 : zOut v2 n
      · rw [if_pos g16] at hF; cases hF
      rw [if_neg g16] at hF
      refine zr_iald S hK hP (zk_6 g14) rfl 0 rfl g16 d_D_cost_16 ?_
      refine lv_goto (tgt := 21) S.1 S.2.1 d_D_cost_17 (by decide) ?_
      cases hF
      exact zr_iret S hret hlk hS d_D_cost_21 ⟨rfl, hP⟩

theorem d_D_isRoute_0 : decode b_D_isRoute 0 = .ok (.aload_n 0, 1) := by decide +kernel
theorem d_D_isRoute_1 : decode b_D_isRoute 1 = .ok (.iload_n 1, 1) := by decide +kernel
theorem d_D_isRoute_2 : decode b_D_isRoute 2 = .ok (.invokevirtual 43, 3) := by decide +kernel
theorem d_D_isRoute_5 : decode b_D_isRoute 5 = .ok (.ifCond .eq 15, 3) := by decide +kernel
theorem d_D_isRoute_8 : decode b_D_isRoute 8 = .ok (.aload_n 0, 1) := by decide +kernel
theorem d_D_isRoute_9 : decode b_D_isRoute 9 = .ok (.iload_n 2, 1) := by decide +kernel
theorem d_D_isRoute_10 : decode b_D_isRoute 10 = .ok (.invokevirtual 43, 3) := by decide +kernel
theorem d_D_isRoute_13 : decode b_D_isRoute 13 = .ok (.ifCond .eq 7, 3) := by decide +kernel
theorem d_D_isRoute_16 : decode b_D_isRoute 16 = .ok (.iconst 1, 1) := by decide +kernel
theorem d_D_isRoute_17 : decode b_D_isRoute 17 = .ok (.goto 4, 3) := by decide +kernel
theorem d_D_isRoute_20 : decode b_D_isRoute 20 = .ok (.iconst 0, 1) := by decide +kernel
theorem d_D_isRoute_21 : decode b_D_isRoute 21 = .ok (.ireturn, 1) := by decide +kernel
def F_D_isRoute_s2 (n : Nat) (t0 : Int32) (st : zS) : Option (Int32 × zS) :=
    if t0 = 0 then (some (0, st)) else (some (1, st))

def F_D_isRoute_s1 (n : Nat) (v2 : Int32) (t0 : Int32) (st : zS) : Option (Int32 × zS) :=
    if t0 = 0 then (some (0, st)) else ((F_D_isRouter n v2 st).bind (fun u => F_D_isRoute_s2 n u.1 u.2))

def F_D_isRoute (n : Nat) (v1 : Int32) (v2 : Int32) (st : zS) : Option (Int32 × zS) :=
    (F_D_isRouter n v1 st).bind (fun u => F_D_isRoute_s1 n v2 u.1 u.2)

set_option maxHeartbeats 4000000 in
set_option maxRecDepth 1000000 in
theorem C_D_isRoute {dC : Nat → ClassId} {dI : Nat → Nat → Nat} {cI cZ cR cA : ClassId} {n : Nat} {ad : zK → Nat} {A : Nat → Prop} (hn : 2 ≤ n ∧ n ≤ 6) (hD : zD A (zKs n) ad) (l : Launch) (v1 : Int32) (v2 : Int32) (st : zS) (out : Int32 × zS) (hF : F_D_isRoute n v1 v2 st = some out) : zC zT (dC, dI) zcl (zty cI cZ cR cA) A l y_D_isRoute b_D_isRoute 3 (some .boolean) rm_D_isRoute [.ref (ad (0, 0)), .int v1, .int v2] (fun H => zV (dC, dI) zcl (zKs n) ad (zcE n cI cZ cR cA ad) st H) (fun o H => o = some (.int out.1) ∧ zV (dC, dI) zcl (zKs n) ad (zcE n cI cZ cR cA ad) out.2 H) := by
  refine zC_of (by decide) (Nat.le_of_ble_eq_true rfl) (fun p e s m args below meth c ls S hret hlk hK hP hl => ?_)
  have hS : va_S A s.heap s.heap [] := va_S.rf
  have hl : lv_has ls 3 [(0, .ref (ad (0, 0))), (1, .int v1), (2, .int v2)] := hl
  have hP : zV (dC, dI) zcl (zKs n) ad (zcE n cI cZ cR cA ad) st s.heap := hP
  unfold F_D_isRoute at hF
  refine lv_aload_n S.1 S.2.1 d_D_isRoute_0 rfl (lv_at hl 0 rfl) ?_
  refine lv_iload_n S.1 S.2.1 d_D_isRoute_1 rfl (lv_at hl 1 rfl) ?_
  cases hc2 : F_D_isRouter n v1 st with
  | none => rw [hc2] at hF; cases hF
  | some u2 =>
    obtain ⟨r2, st2⟩ := u2
    rw [hc2] at hF
    replace hF := zbind hF
    refine zr_callV (rest := []) S zT_good (C_D_isRouter hn hD l v1 st (r2, st2) hc2) zn_D_isRouter zx_78 ⟨rfl, rfl⟩ ⟨Nat.le_of_ble_eq_true rfl, Nat.le_of_ble_eq_true rfl⟩ ⟨Nat.zero_le _, Nat.zero_le _⟩ hK (zr_recv hK hP zk_0 rfl rfl) hP hl.1 (Nat.le_of_ble_eq_true rfl) hS (fun _ h => h) d_D_isRoute_2 rfl (fun o H locs hpo _ _ hS => ?_)
    obtain ⟨rfl, hP⟩ := hpo
    refine W.eq (g2 := F0 m 5 ls [.int r2]) rfl ?_
    replace hF : F_D_isRoute_s1 n v2 r2 st2 = some out := hF
    replace hP : zV (dC, dI) zcl (zKs n) ad (zcE n cI cZ cR cA ad) st2 H := hP
    unfold F_D_isRoute_s1 at hF
    refine lv_if_eq (tgt := 20) S.1 S.2.1 d_D_isRoute_5 (by decide) (fun h5 => ?_) (fun h5 => ?_)
    · rw [if_pos h5] at hF
      refine lv_iconst (v := 0) S.1 S.2.1 d_D_isRoute_20 (by decide) ?_
      cases hF
      exact zr_zret S hret hlk (by decide) hS d_D_isRoute_21 ⟨rfl, hP⟩
    · rw [if_neg h5] at hF
      refine lv_aload_n S.1 S.2.1 d_D_isRoute_8 rfl (lv_at hl 0 rfl) ?_
      refine lv_iload_n S.1 S.2.1 d_D_isRoute_9 rfl (lv_at hl 2 rfl) ?_
      cases hc10 : F_D_isRouter n v2 st2 with
      | none => rw [hc10] at hF; cases hF
      | some u10 =>
        obtain ⟨r10, st10⟩ := u10
        rw [hc10] at hF
        replace hF := zbind hF
        refine zr_callV (rest := []) S zT_good (C_D_isRouter hn hD l v2 st2 (r10, st10) hc10) zn_D_isRouter zx_78 ⟨rfl, rfl⟩ ⟨Nat.le_of_ble_eq_true rfl, Nat.le_of_ble_eq_true rfl⟩ ⟨Nat.zero_le _, Nat.zero_le _⟩ hK (zr_recv hK hP zk_0 rfl rfl) hP hl.1 (Nat.le_of_ble_eq_true rfl) hS (fun _ h => h) d_D_isRoute_10 rfl (fun o H locs hpo _ _ hS => ?_)
        obtain ⟨rfl, hP⟩ := hpo
        refine W.eq (g2 := F0 m 13 ls [.int r10]) rfl ?_
        replace hF : F_D_isRoute_s2 n r10 st10 = some out := hF
        replace hP : zV (dC, dI) zcl (zKs n) ad (zcE n cI cZ cR cA ad) st10 H := hP
        unfold F_D_isRoute_s2 at hF
        refine lv_if_eq (tgt := 20) S.1 S.2.1 d_D_isRoute_13 (by decide) (fun h13 => ?_) (fun h13 => ?_)
        · rw [if_pos h13] at hF
          refine lv_iconst (v := 0) S.1 S.2.1 d_D_isRoute_20 (by decide) ?_
          cases hF
          exact zr_zret S hret hlk (by decide) hS d_D_isRoute_21 ⟨rfl, hP⟩
        · rw [if_neg h13] at hF
          refine lv_iconst (v := 1) S.1 S.2.1 d_D_isRoute_16 (by decide) ?_
          refine lv_goto (tgt := 21) S.1 S.2.1 d_D_isRoute_17 (by decide) ?_
          cases hF
          exact zr_zret S hret hlk (by decide) hS d_D_isRoute_21 ⟨rfl, hP⟩

theorem d_D_distance_0 : decode b_D_distance 0 = .ok (.aload_n 0, 1) := by decide +kernel
theorem d_D_distance_1 : decode b_D_distance 1 = .ok (.iload_n 1, 1) := by decide +kernel
theorem d_D_distance_2 : decode b_D_distance 2 = .ok (.iload_n 2, 1) := by decide +kernel
theorem d_D_distance_3 : decode b_D_distance 3 = .ok (.invokevirtual 82, 3) := by decide +kernel
theorem d_D_distance_6 : decode b_D_distance 6 = .ok (.ifCond .eq 15, 3) := by decide +kernel
theorem d_D_distance_9 : decode b_D_distance 9 = .ok (.aload_n 0, 1) := by decide +kernel
theorem d_D_distance_10 : decode b_D_distance 10 = .ok (.iload_n 1, 1) := by decide +kernel
theorem d_D_distance_11 : decode b_D_distance 11 = .ok (.iload_n 2, 1) := by decide +kernel
theorem d_D_distance_12 : decode b_D_distance 12 = .ok (.invokevirtual 85, 3) := by decide +kernel
theorem d_D_distance_15 : decode b_D_distance 15 = .ok (.getfield 89, 3) := by decide +kernel
theorem d_D_distance_18 : decode b_D_distance 18 = .ok (.goto 4, 3) := by decide +kernel
theorem d_D_distance_21 : decode b_D_distance 21 = .ok (.iconst (-1), 1) := by decide +kernel
theorem d_D_distance_22 : decode b_D_distance 22 = .ok (.ireturn, 1) := by decide +kernel
def F_D_distance_s2 (n : Nat) (u0 : Nat) (st : zS) : Option (Int32 × zS) :=
    some (st 7 u0 0, st)

def F_D_distance_s1 (n : Nat) (v1 : Int32) (v2 : Int32) (t0 : Int32) (st : zS) : Option (Int32 × zS) :=
    if t0 = 0 then (some ((-1), st)) else ((F_D_route n v1 v2 st).bind (fun u => F_D_distance_s2 n u.1 u.2))

def F_D_distance (n : Nat) (v1 : Int32) (v2 : Int32) (st : zS) : Option (Int32 × zS) :=
    (F_D_isRoute n v1 v2 st).bind (fun u => F_D_distance_s1 n v1 v2 u.1 u.2)

set_option maxHeartbeats 4000000 in
set_option maxRecDepth 1000000 in
theorem C_D_distance {dC : Nat → ClassId} {dI : Nat → Nat → Nat} {cI cZ cR cA : ClassId} {n : Nat} {ad : zK → Nat} {A : Nat → Prop} (hn : 2 ≤ n ∧ n ≤ 6) (hD : zD A (zKs n) ad) (l : Launch) (v1 : Int32) (v2 : Int32) (st : zS) (out : Int32 × zS) (hF : F_D_distance n v1 v2 st = some out) : zC zT (dC, dI) zcl (zty cI cZ cR cA) A l y_D_distance b_D_distance 3 (some .int) rm_D_distance [.ref (ad (0, 0)), .int v1, .int v2] (fun H => zV (dC, dI) zcl (zKs n) ad (zcE n cI cZ cR cA ad) st H) (fun o H => o = some (.int out.1) ∧ zV (dC, dI) zcl (zKs n) ad (zcE n cI cZ cR cA ad) out.2 H) := by
  refine zC_of (by decide) (Nat.le_of_ble_eq_true rfl) (fun p e s m args below meth c ls S hret hlk hK hP hl => ?_)
  have hS : va_S A s.heap s.heap [] := va_S.rf
  have hl : lv_has ls 3 [(0, .ref (ad (0, 0))), (1, .int v1), (2, .int v2)] := hl
  have hP : zV (dC, dI) zcl (zKs n) ad (zcE n cI cZ cR cA ad) st s.heap := hP
  unfold F_D_distance at hF
  refine lv_aload_n S.1 S.2.1 d_D_distance_0 rfl (lv_at hl 0 rfl) ?_
  refine lv_iload_n S.1 S.2.1 d_D_distance_1 rfl (lv_at hl 1 rfl) ?_
  refine lv_iload_n S.1 S.2.1 d_D_distance_2 rfl (lv_at hl 2 rfl) ?_
  cases hc3 : F_D_isRoute n v1 v2 st with
  | none => rw [hc3] at hF; cases hF
  | some u3 =>
    obtain ⟨r3, st3⟩ := u3
    rw [hc3] at hF
    replace hF := zbind hF
    refine zr_callV (rest := []) S zT_good (C_D_isRoute hn hD l v1 v2 st (r3, st3) hc3) zn_D_isRoute zx_87 ⟨rfl, rfl⟩ ⟨Nat.le_of_ble_eq_true rfl, Nat.le_of_ble_eq_true rfl⟩ ⟨Nat.zero_le _, Nat.zero_le _⟩ hK (zr_recv hK hP zk_0 rfl rfl) hP hl.1 (Nat.le_of_ble_eq_true rfl) hS (fun _ h => h) d_D_distance_3 rfl (fun o H locs hpo _ _ hS => ?_)
    obtain ⟨rfl, hP⟩ := hpo
    refine W.eq (g2 := F0 m 6 ls [.int r3]) rfl ?_
    replace hF : F_D_distance_s1 n v1 v2 r3 st3 = some out := hF
    replace hP : zV (dC, dI) zcl (zKs n) ad (zcE n cI cZ cR cA ad) st3 H := hP
    unfold F_D_distance_s1 at hF
    refine lv_if_eq (tgt := 21) S.1 S.2.1 d_D_distance_6 (by decide) (fun h6 => ?_) (fun h6 => ?_)
    · rw [if_pos h6] at hF
      refine lv_iconst (v := (-1)) S.1 S.2.1 d_D_distance_21 (by decide) ?_
      cases hF
      exact zr_iret S hret hlk hS d_D_distance_22 ⟨rfl, hP⟩
    · rw [if_neg h6] at hF
      refine lv_aload_n S.1 S.2.1 d_D_distance_9 rfl (lv_at hl 0 rfl) ?_
      refine lv_iload_n S.1 S.2.1 d_D_distance_10 rfl (lv_at hl 1 rfl) ?_
      refine lv_iload_n S.1 S.2.1 d_D_distance_11 rfl (lv_at hl 2 rfl) ?_
      cases hc12 : F_D_route n v1 v2 st3 with
      | none => rw [hc12] at hF; cases hF
      | some u12 =>
        obtain ⟨r12, st12⟩ := u12
        rw [hc12] at hF
        replace hF := zbind hF
        refine zr_callV (rest := []) S zT_good (C_D_route hn hD l v1 v2 st3 (r12, st12) hc12) zn_D_route zx_88 ⟨rfl, rfl⟩ ⟨Nat.le_of_ble_eq_true rfl, Nat.le_of_ble_eq_true rfl⟩ ⟨Nat.zero_le _, Nat.zero_le _⟩ hK (zr_recv hK hP zk_0 rfl rfl) hP hl.1 (Nat.le_of_ble_eq_true rfl) hS (fun _ h => h) d_D_distance_12 rfl (fun o H locs hpo _ _ hS => ?_)
        obtain ⟨rfl, hP⟩ := hpo
        refine W.eq (g2 := F0 m 15 ls [.ref (ad (7, r12))]) rfl ?_
        have hk_r12 := zk_D_route hn hc12
        replace hF : F_D_distance_s2 n r12 st12 = some out := hF
        replace hP : zV (dC, dI) zcl (zKs n) ad (zcE n cI cZ cR cA ad) st12 H := hP
        unfold F_D_distance_s2 at hF
        refine zr_get (v := .int (st12 7 r12 0)) S zi_R hK hP hk_r12 rfl rfl 5 (by decide) zx_14 rfl d_D_distance_15 ?_
        refine lv_goto (tgt := 22) S.1 S.2.1 d_D_distance_18 (by decide) ?_
        cases hF
        exact zr_iret S hret hlk hS d_D_distance_22 ⟨rfl, hP⟩

theorem d_D_limit_0 : decode b_D_limit 0 = .ok (.aload_n 0, 1) := by decide +kernel
theorem d_D_limit_1 : decode b_D_limit 1 = .ok (.iload_n 1, 1) := by decide +kernel
theorem d_D_limit_2 : decode b_D_limit 2 = .ok (.iload_n 2, 1) := by decide +kernel
theorem d_D_limit_3 : decode b_D_limit 3 = .ok (.invokevirtual 82, 3) := by decide +kernel
theorem d_D_limit_6 : decode b_D_limit 6 = .ok (.ifCond .eq 15, 3) := by decide +kernel
theorem d_D_limit_9 : decode b_D_limit 9 = .ok (.aload_n 0, 1) := by decide +kernel
theorem d_D_limit_10 : decode b_D_limit 10 = .ok (.iload_n 1, 1) := by decide +kernel
theorem d_D_limit_11 : decode b_D_limit 11 = .ok (.iload_n 2, 1) := by decide +kernel
theorem d_D_limit_12 : decode b_D_limit 12 = .ok (.invokevirtual 85, 3) := by decide +kernel
theorem d_D_limit_15 : decode b_D_limit 15 = .ok (.getfield 92, 3) := by decide +kernel
theorem d_D_limit_18 : decode b_D_limit 18 = .ok (.goto 4, 3) := by decide +kernel
theorem d_D_limit_21 : decode b_D_limit 21 = .ok (.iconst (-1), 1) := by decide +kernel
theorem d_D_limit_22 : decode b_D_limit 22 = .ok (.ireturn, 1) := by decide +kernel
def F_D_limit_s2 (n : Nat) (u0 : Nat) (st : zS) : Option (Int32 × zS) :=
    some (st 7 u0 1, st)

def F_D_limit_s1 (n : Nat) (v1 : Int32) (v2 : Int32) (t0 : Int32) (st : zS) : Option (Int32 × zS) :=
    if t0 = 0 then (some ((-1), st)) else ((F_D_route n v1 v2 st).bind (fun u => F_D_limit_s2 n u.1 u.2))

def F_D_limit (n : Nat) (v1 : Int32) (v2 : Int32) (st : zS) : Option (Int32 × zS) :=
    (F_D_isRoute n v1 v2 st).bind (fun u => F_D_limit_s1 n v1 v2 u.1 u.2)

set_option maxHeartbeats 4000000 in
set_option maxRecDepth 1000000 in
theorem C_D_limit {dC : Nat → ClassId} {dI : Nat → Nat → Nat} {cI cZ cR cA : ClassId} {n : Nat} {ad : zK → Nat} {A : Nat → Prop} (hn : 2 ≤ n ∧ n ≤ 6) (hD : zD A (zKs n) ad) (l : Launch) (v1 : Int32) (v2 : Int32) (st : zS) (out : Int32 × zS) (hF : F_D_limit n v1 v2 st = some out) : zC zT (dC, dI) zcl (zty cI cZ cR cA) A l y_D_limit b_D_limit 3 (some .int) rm_D_limit [.ref (ad (0, 0)), .int v1, .int v2] (fun H => zV (dC, dI) zcl (zKs n) ad (zcE n cI cZ cR cA ad) st H) (fun o H => o = some (.int out.1) ∧ zV (dC, dI) zcl (zKs n) ad (zcE n cI cZ cR cA ad) out.2 H) := by
  refine zC_of (by decide) (Nat.le_of_ble_eq_true rfl) (fun p e s m args below meth c ls S hret hlk hK hP hl => ?_)
  have hS : va_S A s.heap s.heap [] := va_S.rf
  have hl : lv_has ls 3 [(0, .ref (ad (0, 0))), (1, .int v1), (2, .int v2)] := hl
  have hP : zV (dC, dI) zcl (zKs n) ad (zcE n cI cZ cR cA ad) st s.heap := hP
  unfold F_D_limit at hF
  refine lv_aload_n S.1 S.2.1 d_D_limit_0 rfl (lv_at hl 0 rfl) ?_
  refine lv_iload_n S.1 S.2.1 d_D_limit_1 rfl (lv_at hl 1 rfl) ?_
  refine lv_iload_n S.1 S.2.1 d_D_limit_2 rfl (lv_at hl 2 rfl) ?_
  cases hc3 : F_D_isRoute n v1 v2 st with
  | none => rw [hc3] at hF; cases hF
  | some u3 =>
    obtain ⟨r3, st3⟩ := u3
    rw [hc3] at hF
    replace hF := zbind hF
    refine zr_callV (rest := []) S zT_good (C_D_isRoute hn hD l v1 v2 st (r3, st3) hc3) zn_D_isRoute zx_87 ⟨rfl, rfl⟩ ⟨Nat.le_of_ble_eq_true rfl, Nat.le_of_ble_eq_true rfl⟩ ⟨Nat.zero_le _, Nat.zero_le _⟩ hK (zr_recv hK hP zk_0 rfl rfl) hP hl.1 (Nat.le_of_ble_eq_true rfl) hS (fun _ h => h) d_D_limit_3 rfl (fun o H locs hpo _ _ hS => ?_)
    obtain ⟨rfl, hP⟩ := hpo
    refine W.eq (g2 := F0 m 6 ls [.int r3]) rfl ?_
    replace hF : F_D_limit_s1 n v1 v2 r3 st3 = some out := hF
    replace hP : zV (dC, dI) zcl (zKs n) ad (zcE n cI cZ cR cA ad) st3 H := hP
    unfold F_D_limit_s1 at hF
    refine lv_if_eq (tgt := 21) S.1 S.2.1 d_D_limit_6 (by decide) (fun h6 => ?_) (fun h6 => ?_)
    · rw [if_pos h6] at hF
      refine lv_iconst (v := (-1)) S.1 S.2.1 d_D_limit_21 (by decide) ?_
      cases hF
      exact zr_iret S hret hlk hS d_D_limit_22 ⟨rfl, hP⟩
    · rw [if_neg h6] at hF
      refine lv_aload_n S.1 S.2.1 d_D_limit_9 rfl (lv_at hl 0 rfl) ?_
      refine lv_iload_n S.1 S.2.1 d_D_limit_10 rfl (lv_at hl 1 rfl) ?_
      refine lv_iload_n S.1 S.2.1 d_D_limit_11 rfl (lv_at hl 2 rfl) ?_
      cases hc12 : F_D_route n v1 v2 st3 with
      | none => rw [hc12] at hF; cases hF
      | some u12 =>
        obtain ⟨r12, st12⟩ := u12
        rw [hc12] at hF
        replace hF := zbind hF
        refine zr_callV (rest := []) S zT_good (C_D_route hn hD l v1 v2 st3 (r12, st12) hc12) zn_D_route zx_88 ⟨rfl, rfl⟩ ⟨Nat.le_of_ble_eq_true rfl, Nat.le_of_ble_eq_true rfl⟩ ⟨Nat.zero_le _, Nat.zero_le _⟩ hK (zr_recv hK hP zk_0 rfl rfl) hP hl.1 (Nat.le_of_ble_eq_true rfl) hS (fun _ h => h) d_D_limit_12 rfl (fun o H locs hpo _ _ hS => ?_)
        obtain ⟨rfl, hP⟩ := hpo
        refine W.eq (g2 := F0 m 15 ls [.ref (ad (7, r12))]) rfl ?_
        have hk_r12 := zk_D_route hn hc12
        replace hF : F_D_limit_s2 n r12 st12 = some out := hF
        replace hP : zV (dC, dI) zcl (zKs n) ad (zcE n cI cZ cR cA ad) st12 H := hP
        unfold F_D_limit_s2 at hF
        refine zr_get (v := .int (st12 7 r12 1)) S zi_R hK hP hk_r12 rfl rfl 6 (by decide) zx_15 rfl d_D_limit_15 ?_
        refine lv_goto (tgt := 22) S.1 S.2.1 d_D_limit_18 (by decide) ?_
        cases hF
        exact zr_iret S hret hlk hS d_D_limit_22 ⟨rfl, hP⟩
end
section
theorem d_D_next_0 : decode b_D_next 0 = .ok (.aload_n 0, 1) := by decide +kernel
theorem d_D_next_1 : decode b_D_next 1 = .ok (.iload_n 1, 1) := by decide +kernel
theorem d_D_next_2 : decode b_D_next 2 = .ok (.iload_n 2, 1) := by decide +kernel
theorem d_D_next_3 : decode b_D_next 3 = .ok (.invokevirtual 82, 3) := by decide +kernel
theorem d_D_next_6 : decode b_D_next 6 = .ok (.ifCond .eq 15, 3) := by decide +kernel
theorem d_D_next_9 : decode b_D_next 9 = .ok (.aload_n 0, 1) := by decide +kernel
theorem d_D_next_10 : decode b_D_next 10 = .ok (.iload_n 1, 1) := by decide +kernel
theorem d_D_next_11 : decode b_D_next 11 = .ok (.iload_n 2, 1) := by decide +kernel
theorem d_D_next_12 : decode b_D_next 12 = .ok (.invokevirtual 85, 3) := by decide +kernel
theorem d_D_next_15 : decode b_D_next 15 = .ok (.getfield 95, 3) := by decide +kernel
theorem d_D_next_18 : decode b_D_next 18 = .ok (.goto 4, 3) := by decide +kernel
theorem d_D_next_21 : decode b_D_next 21 = .ok (.iconst (-1), 1) := by decide +kernel
theorem d_D_next_22 : decode b_D_next 22 = .ok (.ireturn, 1) := by decide +kernel
def F_D_next_s2 (n : Nat) (u0 : Nat) (st : zS) : Option (Int32 × zS) :=
    some (st 7 u0 2, st)

def F_D_next_s1 (n : Nat) (v1 : Int32) (v2 : Int32) (t0 : Int32) (st : zS) : Option (Int32 × zS) :=
    if t0 = 0 then (some ((-1), st)) else ((F_D_route n v1 v2 st).bind (fun u => F_D_next_s2 n u.1 u.2))

def F_D_next (n : Nat) (v1 : Int32) (v2 : Int32) (st : zS) : Option (Int32 × zS) :=
    (F_D_isRoute n v1 v2 st).bind (fun u => F_D_next_s1 n v1 v2 u.1 u.2)

set_option maxHeartbeats 4000000 in
set_option maxRecDepth 1000000 in
theorem C_D_next {dC : Nat → ClassId} {dI : Nat → Nat → Nat} {cI cZ cR cA : ClassId} {n : Nat} {ad : zK → Nat} {A : Nat → Prop} (hn : 2 ≤ n ∧ n ≤ 6) (hD : zD A (zKs n) ad) (l : Launch) (v1 : Int32) (v2 : Int32) (st : zS) (out : Int32 × zS) (hF : F_D_next n v1 v2 st = some out) : zC zT (dC, dI) zcl (zty cI cZ cR cA) A l y_D_next b_D_next 3 (some .int) rm_D_next [.ref (ad (0, 0)), .int v1, .int v2] (fun H => zV (dC, dI) zcl (zKs n) ad (zcE n cI cZ cR cA ad) st H) (fun o H => o = some (.int out.1) ∧ zV (dC, dI) zcl (zKs n) ad (zcE n cI cZ cR cA ad) out.2 H) := by
  refine zC_of (by decide) (Nat.le_of_ble_eq_true rfl) (fun p e s m args below meth c ls S hret hlk hK hP hl => ?_)
  have hS : va_S A s.heap s.heap [] := va_S.rf
  have hl : lv_has ls 3 [(0, .ref (ad (0, 0))), (1, .int v1), (2, .int v2)] := hl
  have hP : zV (dC, dI) zcl (zKs n) ad (zcE n cI cZ cR cA ad) st s.heap := hP
  unfold F_D_next at hF
  refine lv_aload_n S.1 S.2.1 d_D_next_0 rfl (lv_at hl 0 rfl) ?_
  refine lv_iload_n S.1 S.2.1 d_D_next_1 rfl (lv_at hl 1 rfl) ?_
  refine lv_iload_n S.1 S.2.1 d_D_next_2 rfl (lv_at hl 2 rfl) ?_
  cases hc3 : F_D_isRoute n v1 v2 st with
  | none => rw [hc3] at hF; cases hF
  | some u3 =>
    obtain ⟨r3, st3⟩ := u3
    rw [hc3] at hF
    replace hF := zbind hF
    refine zr_callV (rest := []) S zT_good (C_D_isRoute hn hD l v1 v2 st (r3, st3) hc3) zn_D_isRoute zx_87 ⟨rfl, rfl⟩ ⟨Nat.le_of_ble_eq_true rfl, Nat.le_of_ble_eq_true rfl⟩ ⟨Nat.zero_le _, Nat.zero_le _⟩ hK (zr_recv hK hP zk_0 rfl rfl) hP hl.1 (Nat.le_of_ble_eq_true rfl) hS (fun _ h => h) d_D_next_3 rfl (fun o H locs hpo _ _ hS => ?_)
    obtain ⟨rfl, hP⟩ := hpo
    refine W.eq (g2 := F0 m 6 ls [.int r3]) rfl ?_
    replace hF : F_D_next_s1 n v1 v2 r3 st3 = some out := hF
    replace hP : zV (dC, dI) zcl (zKs n) ad (zcE n cI cZ cR cA ad) st3 H := hP
    unfold F_D_next_s1 at hF
    refine lv_if_eq (tgt := 21) S.1 S.2.1 d_D_next_6 (by decide) (fun h6 => ?_) (fun h6 => ?_)
    · rw [if_pos h6] at hF
      refine lv_iconst (v := (-1)) S.1 S.2.1 d_D_next_21 (by decide) ?_
      cases hF
      exact zr_iret S hret hlk hS d_D_next_22 ⟨rfl, hP⟩
    · rw [if_neg h6] at hF
      refine lv_aload_n S.1 S.2.1 d_D_next_9 rfl (lv_at hl 0 rfl) ?_
      refine lv_iload_n S.1 S.2.1 d_D_next_10 rfl (lv_at hl 1 rfl) ?_
      refine lv_iload_n S.1 S.2.1 d_D_next_11 rfl (lv_at hl 2 rfl) ?_
      cases hc12 : F_D_route n v1 v2 st3 with
      | none => rw [hc12] at hF; cases hF
      | some u12 =>
        obtain ⟨r12, st12⟩ := u12
        rw [hc12] at hF
        replace hF := zbind hF
        refine zr_callV (rest := []) S zT_good (C_D_route hn hD l v1 v2 st3 (r12, st12) hc12) zn_D_route zx_88 ⟨rfl, rfl⟩ ⟨Nat.le_of_ble_eq_true rfl, Nat.le_of_ble_eq_true rfl⟩ ⟨Nat.zero_le _, Nat.zero_le _⟩ hK (zr_recv hK hP zk_0 rfl rfl) hP hl.1 (Nat.le_of_ble_eq_true rfl) hS (fun _ h => h) d_D_next_12 rfl (fun o H locs hpo _ _ hS => ?_)
        obtain ⟨rfl, hP⟩ := hpo
        refine W.eq (g2 := F0 m 15 ls [.ref (ad (7, r12))]) rfl ?_
        have hk_r12 := zk_D_route hn hc12
        replace hF : F_D_next_s2 n r12 st12 = some out := hF
        replace hP : zV (dC, dI) zcl (zKs n) ad (zcE n cI cZ cR cA ad) st12 H := hP
        unfold F_D_next_s2 at hF
        refine zr_get (v := .int (st12 7 r12 2)) S zi_R hK hP hk_r12 rfl rfl 7 (by decide) zx_16 rfl d_D_next_15 ?_
        refine lv_goto (tgt := 22) S.1 S.2.1 d_D_next_18 (by decide) ?_
        cases hF
        exact zr_iret S hret hlk hS d_D_next_22 ⟨rfl, hP⟩

theorem d_D_state_0 : decode b_D_state 0 = .ok (.aload_n 0, 1) := by decide +kernel
theorem d_D_state_1 : decode b_D_state 1 = .ok (.iload_n 1, 1) := by decide +kernel
theorem d_D_state_2 : decode b_D_state 2 = .ok (.iload_n 2, 1) := by decide +kernel
theorem d_D_state_3 : decode b_D_state 3 = .ok (.invokevirtual 82, 3) := by decide +kernel
theorem d_D_state_6 : decode b_D_state 6 = .ok (.ifCond .ne 5, 3) := by decide +kernel
theorem d_D_state_9 : decode b_D_state 9 = .ok (.iconst (-1), 1) := by decide +kernel
theorem d_D_state_10 : decode b_D_state 10 = .ok (.ireturn, 1) := by decide +kernel
theorem d_D_state_11 : decode b_D_state 11 = .ok (.aload_n 0, 1) := by decide +kernel
theorem d_D_state_12 : decode b_D_state 12 = .ok (.iload_n 1, 1) := by decide +kernel
theorem d_D_state_13 : decode b_D_state 13 = .ok (.iload_n 2, 1) := by decide +kernel
theorem d_D_state_14 : decode b_D_state 14 = .ok (.invokevirtual 85, 3) := by decide +kernel
theorem d_D_state_17 : decode b_D_state 17 = .ok (.astore_n 3, 1) := by decide +kernel
theorem d_D_state_18 : decode b_D_state 18 = .ok (.aload_n 3, 1) := by decide +kernel
theorem d_D_state_19 : decode b_D_state 19 = .ok (.getfield 98, 3) := by decide +kernel
theorem d_D_state_22 : decode b_D_state 22 = .ok (.ifCond .ne 5, 3) := by decide +kernel
theorem d_D_state_25 : decode b_D_state 25 = .ok (.iconst 0, 1) := by decide +kernel
theorem d_D_state_26 : decode b_D_state 26 = .ok (.ireturn, 1) := by decide +kernel
theorem d_D_state_27 : decode b_D_state 27 = .ok (.iconst 1, 1) := by decide +kernel
theorem d_D_state_28 : decode b_D_state 28 = .ok (.aload_n 3, 1) := by decide +kernel
theorem d_D_state_29 : decode b_D_state 29 = .ok (.getfield 102, 3) := by decide +kernel
theorem d_D_state_32 : decode b_D_state 32 = .ok (.ifCond .eq 7, 3) := by decide +kernel
theorem d_D_state_35 : decode b_D_state 35 = .ok (.iconst 1, 1) := by decide +kernel
theorem d_D_state_36 : decode b_D_state 36 = .ok (.goto 4, 3) := by decide +kernel
theorem d_D_state_39 : decode b_D_state 39 = .ok (.iconst 0, 1) := by decide +kernel
theorem d_D_state_40 : decode b_D_state 40 = .ok (.iadd, 1) := by decide +kernel
theorem d_D_state_41 : decode b_D_state 41 = .ok (.aload_n 3, 1) := by decide +kernel
theorem d_D_state_42 : decode b_D_state 42 = .ok (.getfield 105, 3) := by decide +kernel
theorem d_D_state_45 : decode b_D_state 45 = .ok (.ifCond .eq 7, 3) := by decide +kernel
theorem d_D_state_48 : decode b_D_state 48 = .ok (.iconst 2, 1) := by decide +kernel
theorem d_D_state_49 : decode b_D_state 49 = .ok (.goto 4, 3) := by decide +kernel
theorem d_D_state_52 : decode b_D_state 52 = .ok (.iconst 0, 1) := by decide +kernel
theorem d_D_state_53 : decode b_D_state 53 = .ok (.iadd, 1) := by decide +kernel
theorem d_D_state_54 : decode b_D_state 54 = .ok (.ireturn, 1) := by decide +kernel
def F_D_state_L40 (n : Nat) (k3 : Nat) (t0 : Int32) (t1 : Int32) (st : zS) : Option (Int32 × zS) :=
    if (st 7 k3 4) = 0 then (some ((t0 + t1) + 0, st)) else (some ((t0 + t1) + 2, st))

def F_D_state_s2 (n : Nat) (u0 : Nat) (st : zS) : Option (Int32 × zS) :=
    if (st 7 u0 3) = 0 then (some (0, st)) else (if (st 7 u0 5) = 0 then (F_D_state_L40 n u0 1 0 st) else (F_D_state_L40 n u0 1 1 st))

def F_D_state_s1 (n : Nat) (v1 : Int32) (v2 : Int32) (t0 : Int32) (st : zS) : Option (Int32 × zS) :=
    if t0 = 0 then (some ((-1), st)) else ((F_D_route n v1 v2 st).bind (fun u => F_D_state_s2 n u.1 u.2))

def F_D_state (n : Nat) (v1 : Int32) (v2 : Int32) (st : zS) : Option (Int32 × zS) :=
    (F_D_isRoute n v1 v2 st).bind (fun u => F_D_state_s1 n v1 v2 u.1 u.2)

set_option maxHeartbeats 4000000 in
set_option maxRecDepth 1000000 in
theorem T_D_state_L40 {dC : Nat → ClassId} {dI : Nat → Nat → Nat} {cI cZ cR cA : ClassId} {n : Nat} {ad : zK → Nat} {A : Nat → Prop} (hn : 2 ≤ n ∧ n ≤ 6) (hD : zD A (zKs n) ad) {p : Program} {l : Launch} {e : Env} {s : State} {m : MethodId} {args : Array Value} {below : List Frame} {meth : Method} {c : Code} (S : CallFix p m c b_D_state 4 s args zT N_D) (hret : meth.sig.returnType = some .int) (hlk : meth.locks = false) (hK : va_K (dC, dI) zcl (zty cI cZ cR cA) s) (out : Int32 × zS) (k3 : Nat) (t0 : Int32) (t1 : Int32) (hk3 : (7, k3) ∈ zKs n) (st : zS) (H : Heap) (locs : List Loc) (ls : Array Slot) (hP : zV (dC, dI) zcl (zKs n) ad (zcE n cI cZ cR cA ad) st H) (hS : va_S A s.heap H locs) (hl : lv_has ls 4 [(3, .ref (ad (7, k3)))]) (hF : F_D_state_L40 n k3 t0 t1 st = some out) : W p l e rm_D_state s m args below meth c H locs 0 0 (zQ below A (fun o H => o = some (.int out.1) ∧ zV (dC, dI) zcl (zKs n) ad (zcE n cI cZ cR cA ad) out.2 H) args s) (F0 m 40 ls [.int t1, .int t0]) := by
  unfold F_D_state_L40 at hF
  refine lv_iadd S.1 S.2.1 d_D_state_40 ?_
  refine lv_aload_n S.1 S.2.1 d_D_state_41 rfl (lv_at hl 0 rfl) ?_
  refine zr_get (v := .int (st 7 k3 4)) S zi_R hK hP hk3 rfl rfl 9 (by decide) zx_3 rfl d_D_state_42 ?_
  refine lv_if_eq (tgt := 52) S.1 S.2.1 d_D_state_45 (by decide) (fun h45 => ?_) (fun h45 => ?_)
  · rw [if_pos h45] at hF
    refine lv_iconst (v := 0) S.1 S.2.1 d_D_state_52 (by decide) ?_
    refine lv_iadd S.1 S.2.1 d_D_state_53 ?_
    cases hF
    exact zr_iret S hret hlk hS d_D_state_54 ⟨rfl, hP⟩
  · rw [if_neg h45] at hF
    refine lv_iconst (v := 2) S.1 S.2.1 d_D_state_48 (by decide) ?_
    refine lv_goto (tgt := 53) S.1 S.2.1 d_D_state_49 (by decide) ?_
    refine lv_iadd S.1 S.2.1 d_D_state_53 ?_
    cases hF
    exact zr_iret S hret hlk hS d_D_state_54 ⟨rfl, hP⟩

set_option maxHeartbeats 4000000 in
set_option maxRecDepth 1000000 in
theorem C_D_state {dC : Nat → ClassId} {dI : Nat → Nat → Nat} {cI cZ cR cA : ClassId} {n : Nat} {ad : zK → Nat} {A : Nat → Prop} (hn : 2 ≤ n ∧ n ≤ 6) (hD : zD A (zKs n) ad) (l : Launch) (v1 : Int32) (v2 : Int32) (st : zS) (out : Int32 × zS) (hF : F_D_state n v1 v2 st = some out) : zC zT (dC, dI) zcl (zty cI cZ cR cA) A l y_D_state b_D_state 4 (some .int) rm_D_state [.ref (ad (0, 0)), .int v1, .int v2] (fun H => zV (dC, dI) zcl (zKs n) ad (zcE n cI cZ cR cA ad) st H) (fun o H => o = some (.int out.1) ∧ zV (dC, dI) zcl (zKs n) ad (zcE n cI cZ cR cA ad) out.2 H) := by
  refine zC_of (by decide) (Nat.le_of_ble_eq_true rfl) (fun p e s m args below meth c ls S hret hlk hK hP hl => ?_)
  have hS : va_S A s.heap s.heap [] := va_S.rf
  have hl : lv_has ls 4 [(0, .ref (ad (0, 0))), (1, .int v1), (2, .int v2)] := hl
  have hP : zV (dC, dI) zcl (zKs n) ad (zcE n cI cZ cR cA ad) st s.heap := hP
  unfold F_D_state at hF
  refine lv_aload_n S.1 S.2.1 d_D_state_0 rfl (lv_at hl 0 rfl) ?_
  refine lv_iload_n S.1 S.2.1 d_D_state_1 rfl (lv_at hl 1 rfl) ?_
  refine lv_iload_n S.1 S.2.1 d_D_state_2 rfl (lv_at hl 2 rfl) ?_
  cases hc3 : F_D_isRoute n v1 v2 st with
  | none => rw [hc3] at hF; cases hF
  | some u3 =>
    obtain ⟨r3, st3⟩ := u3
    rw [hc3] at hF
    replace hF := zbind hF
    refine zr_callV (rest := []) S zT_good (C_D_isRoute hn hD l v1 v2 st (r3, st3) hc3) zn_D_isRoute zx_87 ⟨rfl, rfl⟩ ⟨Nat.le_of_ble_eq_true rfl, Nat.le_of_ble_eq_true rfl⟩ ⟨Nat.zero_le _, Nat.zero_le _⟩ hK (zr_recv hK hP zk_0 rfl rfl) hP hl.1 (Nat.le_of_ble_eq_true rfl) hS (fun _ h => h) d_D_state_3 rfl (fun o H locs hpo _ _ hS => ?_)
    obtain ⟨rfl, hP⟩ := hpo
    refine W.eq (g2 := F0 m 6 ls [.int r3]) rfl ?_
    replace hF : F_D_state_s1 n v1 v2 r3 st3 = some out := hF
    replace hP : zV (dC, dI) zcl (zKs n) ad (zcE n cI cZ cR cA ad) st3 H := hP
    unfold F_D_state_s1 at hF
    refine lv_if_ne (tgt := 11) S.1 S.2.1 d_D_state_6 (by decide) (fun h6 => ?_) (fun h6 => ?_)
    · rw [if_neg h6] at hF
      refine lv_aload_n S.1 S.2.1 d_D_state_11 rfl (lv_at hl 0 rfl) ?_
      refine lv_iload_n S.1 S.2.1 d_D_state_12 rfl (lv_at hl 1 rfl) ?_
      refine lv_iload_n S.1 S.2.1 d_D_state_13 rfl (lv_at hl 2 rfl) ?_
      cases hc14 : F_D_route n v1 v2 st3 with
      | none => rw [hc14] at hF; cases hF
      | some u14 =>
        obtain ⟨r14, st14⟩ := u14
        rw [hc14] at hF
        replace hF := zbind hF
        refine zr_callV (rest := []) S zT_good (C_D_route hn hD l v1 v2 st3 (r14, st14) hc14) zn_D_route zx_88 ⟨rfl, rfl⟩ ⟨Nat.le_of_ble_eq_true rfl, Nat.le_of_ble_eq_true rfl⟩ ⟨Nat.zero_le _, Nat.zero_le _⟩ hK (zr_recv hK hP zk_0 rfl rfl) hP hl.1 (Nat.le_of_ble_eq_true rfl) hS (fun _ h => h) d_D_state_14 rfl (fun o H locs hpo _ _ hS => ?_)
        obtain ⟨rfl, hP⟩ := hpo
        refine W.eq (g2 := F0 m 17 ls [.ref (ad (7, r14))]) rfl ?_
        have hk_r14 := zk_D_route hn hc14
        replace hF : F_D_state_s2 n r14 st14 = some out := hF
        replace hP : zV (dC, dI) zcl (zKs n) ad (zcE n cI cZ cR cA ad) st14 H := hP
        unfold F_D_state_s2 at hF
        refine lv_astore_n S.1 S.2.1 d_D_state_17 rfl hl (by decide) rfl (fun ls hl => ?_)
        have hl : lv_has ls 4 [(3, .ref (ad (7, r14))), (0, .ref (ad (0, 0))), (1, .int v1), (2, .int v2)] := hl
        refine lv_aload_n S.1 S.2.1 d_D_state_18 rfl (lv_at hl 0 rfl) ?_
        refine zr_get (v := .int (st14 7 r14 3)) S zi_R hK hP hk_r14 rfl rfl 8 (by decide) zx_17 rfl d_D_state_19 ?_
        refine lv_if_ne (tgt := 27) S.1 S.2.1 d_D_state_22 (by decide) (fun h22 => ?_) (fun h22 => ?_)
        · rw [if_neg h22] at hF
          refine lv_iconst (v := 1) S.1 S.2.1 d_D_state_27 (by decide) ?_
          refine lv_aload_n S.1 S.2.1 d_D_state_28 rfl (lv_at hl 0 rfl) ?_
          refine zr_get (v := .int (st14 7 r14 5)) S zi_R hK hP hk_r14 rfl rfl 10 (by decide) zx_2 rfl d_D_state_29 ?_
          refine lv_if_eq (tgt := 39) S.1 S.2.1 d_D_state_32 (by decide) (fun h32 => ?_) (fun h32 => ?_)
          · rw [if_pos h32] at hF
            refine lv_iconst (v := 0) S.1 S.2.1 d_D_state_39 (by decide) ?_
            exact T_D_state_L40 hn hD S hret hlk hK out r14 1 0 hk_r14 st14 _ _ _ hP hS (lv_sub hl [0] rfl) hF
          · rw [if_neg h32] at hF
            refine lv_iconst (v := 1) S.1 S.2.1 d_D_state_35 (by decide) ?_
            refine lv_goto (tgt := 40) S.1 S.2.1 d_D_state_36 (by decide) ?_
            exact T_D_state_L40 hn hD S hret hlk hK out r14 1 1 hk_r14 st14 _ _ _ hP hS (lv_sub hl [0] rfl) hF
        · rw [if_pos h22] at hF
          refine lv_iconst (v := 0) S.1 S.2.1 d_D_state_25 (by decide) ?_
          cases hF
          exact zr_iret S hret hlk hS d_D_state_26 ⟨rfl, hP⟩
    · rw [if_pos h6] at hF
      refine lv_iconst (v := (-1)) S.1 S.2.1 d_D_state_9 (by decide) ?_
      cases hF
      exact zr_iret S hret hlk hS d_D_state_10 ⟨rfl, hP⟩

theorem d_D_told_0 : decode b_D_told 0 = .ok (.aload_n 0, 1) := by decide +kernel
theorem d_D_told_1 : decode b_D_told 1 = .ok (.iload_n 1, 1) := by decide +kernel
theorem d_D_told_2 : decode b_D_told 2 = .ok (.iload_n 3, 1) := by decide +kernel
theorem d_D_told_3 : decode b_D_told 3 = .ok (.invokevirtual 82, 3) := by decide +kernel
theorem d_D_told_6 : decode b_D_told 6 = .ok (.ifCond .eq 17, 3) := by decide +kernel
theorem d_D_told_9 : decode b_D_told 9 = .ok (.iload_n 1, 1) := by decide +kernel
theorem d_D_told_10 : decode b_D_told 10 = .ok (.iload_n 3, 1) := by decide +kernel
theorem d_D_told_11 : decode b_D_told 11 = .ok (.if_icmp .eq 12, 3) := by decide +kernel
theorem d_D_told_14 : decode b_D_told 14 = .ok (.aload_n 0, 1) := by decide +kernel
theorem d_D_told_15 : decode b_D_told 15 = .ok (.iload_n 1, 1) := by decide +kernel
theorem d_D_told_16 : decode b_D_told 16 = .ok (.iload_n 2, 1) := by decide +kernel
theorem d_D_told_17 : decode b_D_told 17 = .ok (.invokevirtual 61, 3) := by decide +kernel
theorem d_D_told_20 : decode b_D_told 20 = .ok (.ifCond .ne 5, 3) := by decide +kernel
theorem d_D_told_23 : decode b_D_told 23 = .ok (.iconst (-1), 1) := by decide +kernel
theorem d_D_told_24 : decode b_D_told 24 = .ok (.ireturn, 1) := by decide +kernel
theorem d_D_told_25 : decode b_D_told 25 = .ok (.aload_n 0, 1) := by decide +kernel
theorem d_D_told_26 : decode b_D_told 26 = .ok (.iload_n 1, 1) := by decide +kernel
theorem d_D_told_27 : decode b_D_told 27 = .ok (.iload_n 3, 1) := by decide +kernel
theorem d_D_told_28 : decode b_D_told 28 = .ok (.invokevirtual 85, 3) := by decide +kernel
theorem d_D_told_31 : decode b_D_told 31 = .ok (.getfield 108, 3) := by decide +kernel
theorem d_D_told_34 : decode b_D_told 34 = .ok (.iload_n 2, 1) := by decide +kernel
theorem d_D_told_35 : decode b_D_told 35 = .ok (.iaload, 1) := by decide +kernel
theorem d_D_told_36 : decode b_D_told 36 = .ok (.ireturn, 1) := by decide +kernel
def F_D_told_s3 (n : Nat) (v2 : Int32) (u0 : Nat) (st : zS) : Option (Int32 × zS) :=
    if zOut v2 n then none else some (st 8 u0 (Int32.toNatClampNeg v2), st)

def F_D_told_s2 (n : Nat) (v1 : Int32) (v2 : Int32) (v3 : Int32) (t0 : Int32) (st : zS) : Option (Int32 × zS) :=
    if t0 = 0 then (some ((-1), st)) else ((F_D_route n v1 v3 st).bind (fun u => F_D_told_s3 n v2 u.1 u.2))

def F_D_told_s1 (n : Nat) (v1 : Int32) (v2 : Int32) (v3 : Int32) (t0 : Int32) (st : zS) : Option (Int32 × zS) :=
    if t0 = 0 then (some ((-1), st)) else (if v1 = v3 then (some ((-1), st)) else ((F_D_isLink n v1 v2 st).bind (fun u => F_D_told_s2 n v1 v2 v3 u.1 u.2)))

def F_D_told (n : Nat) (v1 : Int32) (v2 : Int32) (v3 : Int32) (st : zS) : Option (Int32 × zS) :=
    (F_D_isRoute n v1 v3 st).bind (fun u => F_D_told_s1 n v1 v2 v3 u.1 u.2)

set_option maxHeartbeats 4000000 in
set_option maxRecDepth 1000000 in
theorem C_D_told {dC : Nat → ClassId} {dI : Nat → Nat → Nat} {cI cZ cR cA : ClassId} {n : Nat} {ad : zK → Nat} {A : Nat → Prop} (hn : 2 ≤ n ∧ n ≤ 6) (hD : zD A (zKs n) ad) (l : Launch) (v1 : Int32) (v2 : Int32) (v3 : Int32) (st : zS) (out : Int32 × zS) (hF : F_D_told n v1 v2 v3 st = some out) : zC zT (dC, dI) zcl (zty cI cZ cR cA) A l y_D_told b_D_told 4 (some .int) rm_D_told [.ref (ad (0, 0)), .int v1, .int v2, .int v3] (fun H => zV (dC, dI) zcl (zKs n) ad (zcE n cI cZ cR cA ad) st H) (fun o H => o = some (.int out.1) ∧ zV (dC, dI) zcl (zKs n) ad (zcE n cI cZ cR cA ad) out.2 H) := by
  refine zC_of (by decide) (Nat.le_of_ble_eq_true rfl) (fun p e s m args below meth c ls S hret hlk hK hP hl => ?_)
  have hS : va_S A s.heap s.heap [] := va_S.rf
  have hl : lv_has ls 4 [(0, .ref (ad (0, 0))), (1, .int v1), (2, .int v2), (3, .int v3)] := hl
  have hP : zV (dC, dI) zcl (zKs n) ad (zcE n cI cZ cR cA ad) st s.heap := hP
  unfold F_D_told at hF
  refine lv_aload_n S.1 S.2.1 d_D_told_0 rfl (lv_at hl 0 rfl) ?_
  refine lv_iload_n S.1 S.2.1 d_D_told_1 rfl (lv_at hl 1 rfl) ?_
  refine lv_iload_n S.1 S.2.1 d_D_told_2 rfl (lv_at hl 3 rfl) ?_
  cases hc3 : F_D_isRoute n v1 v3 st with
  | none => rw [hc3] at hF; cases hF
  | some u3 =>
    obtain ⟨r3, st3⟩ := u3
    rw [hc3] at hF
    replace hF := zbind hF
    refine zr_callV (rest := []) S zT_good (C_D_isRoute hn hD l v1 v3 st (r3, st3) hc3) zn_D_isRoute zx_87 ⟨rfl, rfl⟩ ⟨Nat.le_of_ble_eq_true rfl, Nat.le_of_ble_eq_true rfl⟩ ⟨Nat.zero_le _, Nat.zero_le _⟩ hK (zr_recv hK hP zk_0 rfl rfl) hP hl.1 (Nat.le_of_ble_eq_true rfl) hS (fun _ h => h) d_D_told_3 rfl (fun o H locs hpo _ _ hS => ?_)
    obtain ⟨rfl, hP⟩ := hpo
    refine W.eq (g2 := F0 m 6 ls [.int r3]) rfl ?_
    replace hF : F_D_told_s1 n v1 v2 v3 r3 st3 = some out := hF
    replace hP : zV (dC, dI) zcl (zKs n) ad (zcE n cI cZ cR cA ad) st3 H := hP
    unfold F_D_told_s1 at hF
    refine lv_if_eq (tgt := 23) S.1 S.2.1 d_D_told_6 (by decide) (fun h6 => ?_) (fun h6 => ?_)
    · rw [if_pos h6] at hF
      refine lv_iconst (v := (-1)) S.1 S.2.1 d_D_told_23 (by decide) ?_
      cases hF
      exact zr_iret S hret hlk hS d_D_told_24 ⟨rfl, hP⟩
    · rw [if_neg h6] at hF
      refine lv_iload_n S.1 S.2.1 d_D_told_9 rfl (lv_at hl 1 rfl) ?_
      refine lv_iload_n S.1 S.2.1 d_D_told_10 rfl (lv_at hl 3 rfl) ?_
      refine lv_icmp_eq (tgt := 23) S.1 S.2.1 d_D_told_11 (by decide) (fun h11 => ?_) (fun h11 => ?_)
      · rw [if_pos h11] at hF
        refine lv_iconst (v := (-1)) S.1 S.2.1 d_D_told_23 (by decide) ?_
        cases hF
        exact zr_iret S hret hlk hS d_D_told_24 ⟨rfl, hP⟩
      · rw [if_neg h11] at hF
        refine lv_aload_n S.1 S.2.1 d_D_told_14 rfl (lv_at hl 0 rfl) ?_
        refine lv_iload_n S.1 S.2.1 d_D_told_15 rfl (lv_at hl 1 rfl) ?_
        refine lv_iload_n S.1 S.2.1 d_D_told_16 rfl (lv_at hl 2 rfl) ?_
        cases hc17 : F_D_isLink n v1 v2 st3 with
        | none => rw [hc17] at hF; cases hF
        | some u17 =>
          obtain ⟨r17, st17⟩ := u17
          rw [hc17] at hF
          replace hF := zbind hF
          refine zr_callV (rest := []) S zT_good (C_D_isLink hn hD l v1 v2 st3 (r17, st17) hc17) zn_D_isLink zx_82 ⟨rfl, rfl⟩ ⟨Nat.le_of_ble_eq_true rfl, Nat.le_of_ble_eq_true rfl⟩ ⟨Nat.zero_le _, Nat.zero_le _⟩ hK (zr_recv hK hP zk_0 rfl rfl) hP hl.1 (Nat.le_of_ble_eq_true rfl) hS (fun _ h => h) d_D_told_17 rfl (fun o H locs hpo _ _ hS => ?_)
          obtain ⟨rfl, hP⟩ := hpo
          refine W.eq (g2 := F0 m 20 ls [.int r17]) rfl ?_
          replace hF : F_D_told_s2 n v1 v2 v3 r17 st17 = some out := hF
          replace hP : zV (dC, dI) zcl (zKs n) ad (zcE n cI cZ cR cA ad) st17 H := hP
          unfold F_D_told_s2 at hF
          refine lv_if_ne (tgt := 25) S.1 S.2.1 d_D_told_20 (by decide) (fun h20 => ?_) (fun h20 => ?_)
          · rw [if_neg h20] at hF
            refine lv_aload_n S.1 S.2.1 d_D_told_25 rfl (lv_at hl 0 rfl) ?_
            refine lv_iload_n S.1 S.2.1 d_D_told_26 rfl (lv_at hl 1 rfl) ?_
            refine lv_iload_n S.1 S.2.1 d_D_told_27 rfl (lv_at hl 3 rfl) ?_
            cases hc28 : F_D_route n v1 v3 st17 with
            | none => rw [hc28] at hF; cases hF
            | some u28 =>
              obtain ⟨r28, st28⟩ := u28
              rw [hc28] at hF
              replace hF := zbind hF
              refine zr_callV (rest := []) S zT_good (C_D_route hn hD l v1 v3 st17 (r28, st28) hc28) zn_D_route zx_88 ⟨rfl, rfl⟩ ⟨Nat.le_of_ble_eq_true rfl, Nat.le_of_ble_eq_true rfl⟩ ⟨Nat.zero_le _, Nat.zero_le _⟩ hK (zr_recv hK hP zk_0 rfl rfl) hP hl.1 (Nat.le_of_ble_eq_true rfl) hS (fun _ h => h) d_D_told_28 rfl (fun o H locs hpo _ _ hS => ?_)
              obtain ⟨rfl, hP⟩ := hpo
              refine W.eq (g2 := F0 m 31 ls [.ref (ad (7, r28))]) rfl ?_
              have hk_r28 := zk_D_route hn hc28
              replace hF : F_D_told_s3 n v2 r28 st28 = some out := hF
              replace hP : zV (dC, dI) zcl (zKs n) ad (zcE n cI cZ cR cA ad) st28 H := hP
              unfold F_D_told_s3 at hF
              refine zr_get (v := .ref (ad (8, r28))) S zi_R hK hP hk_r28 rfl rfl 3 (by decide) zx_4 rfl d_D_told_31 ?_
              refine lv_iload_n S.1 S.2.1 d_D_told_34 rfl (lv_at hl 2 rfl) ?_
              by_cases g35 : zOut v2 n
              · rw [if_pos g35] at hF; cases hF
              rw [if_neg g35] at hF
              refine zr_iald S hK hP (zk_87 hk_r28) rfl 0 rfl g35 d_D_told_35 ?_
              cases hF
              exact zr_iret S hret hlk hS d_D_told_36 ⟨rfl, hP⟩
          · rw [if_pos h20] at hF
            refine lv_iconst (v := (-1)) S.1 S.2.1 d_D_told_23 (by decide) ?_
            cases hF
            exact zr_iret S hret hlk hS d_D_told_24 ⟨rfl, hP⟩

theorem d_D_waits_0 : decode b_D_waits 0 = .ok (.aload_n 0, 1) := by decide +kernel
theorem d_D_waits_1 : decode b_D_waits 1 = .ok (.iload_n 1, 1) := by decide +kernel
theorem d_D_waits_2 : decode b_D_waits 2 = .ok (.iload_n 3, 1) := by decide +kernel
theorem d_D_waits_3 : decode b_D_waits 3 = .ok (.invokevirtual 82, 3) := by decide +kernel
theorem d_D_waits_6 : decode b_D_waits 6 = .ok (.ifCond .eq 29, 3) := by decide +kernel
theorem d_D_waits_9 : decode b_D_waits 9 = .ok (.aload_n 0, 1) := by decide +kernel
theorem d_D_waits_10 : decode b_D_waits 10 = .ok (.iload_n 2, 1) := by decide +kernel
theorem d_D_waits_11 : decode b_D_waits 11 = .ok (.invokevirtual 43, 3) := by decide +kernel
theorem d_D_waits_14 : decode b_D_waits 14 = .ok (.ifCond .eq 21, 3) := by decide +kernel
theorem d_D_waits_17 : decode b_D_waits 17 = .ok (.aload_n 0, 1) := by decide +kernel
theorem d_D_waits_18 : decode b_D_waits 18 = .ok (.iload_n 1, 1) := by decide +kernel
theorem d_D_waits_19 : decode b_D_waits 19 = .ok (.iload_n 3, 1) := by decide +kernel
theorem d_D_waits_20 : decode b_D_waits 20 = .ok (.invokevirtual 85, 3) := by decide +kernel
theorem d_D_waits_23 : decode b_D_waits 23 = .ok (.getfield 112, 3) := by decide +kernel
theorem d_D_waits_26 : decode b_D_waits 26 = .ok (.iload_n 2, 1) := by decide +kernel
theorem d_D_waits_27 : decode b_D_waits 27 = .ok (.baload, 1) := by decide +kernel
theorem d_D_waits_28 : decode b_D_waits 28 = .ok (.ifCond .eq 7, 3) := by decide +kernel
theorem d_D_waits_31 : decode b_D_waits 31 = .ok (.iconst 1, 1) := by decide +kernel
theorem d_D_waits_32 : decode b_D_waits 32 = .ok (.goto 4, 3) := by decide +kernel
theorem d_D_waits_35 : decode b_D_waits 35 = .ok (.iconst 0, 1) := by decide +kernel
theorem d_D_waits_36 : decode b_D_waits 36 = .ok (.ireturn, 1) := by decide +kernel
def F_D_waits_s3 (n : Nat) (v2 : Int32) (u0 : Nat) (st : zS) : Option (Int32 × zS) :=
    if zOut v2 n then none else if (st 9 u0 (Int32.toNatClampNeg v2)) = 0 then (some (0, st)) else (some (1, st))

def F_D_waits_s2 (n : Nat) (v1 : Int32) (v2 : Int32) (v3 : Int32) (t0 : Int32) (st : zS) : Option (Int32 × zS) :=
    if t0 = 0 then (some (0, st)) else ((F_D_route n v1 v3 st).bind (fun u => F_D_waits_s3 n v2 u.1 u.2))

def F_D_waits_s1 (n : Nat) (v1 : Int32) (v2 : Int32) (v3 : Int32) (t0 : Int32) (st : zS) : Option (Int32 × zS) :=
    if t0 = 0 then (some (0, st)) else ((F_D_isRouter n v2 st).bind (fun u => F_D_waits_s2 n v1 v2 v3 u.1 u.2))

def F_D_waits (n : Nat) (v1 : Int32) (v2 : Int32) (v3 : Int32) (st : zS) : Option (Int32 × zS) :=
    (F_D_isRoute n v1 v3 st).bind (fun u => F_D_waits_s1 n v1 v2 v3 u.1 u.2)

set_option maxHeartbeats 4000000 in
set_option maxRecDepth 1000000 in
theorem C_D_waits {dC : Nat → ClassId} {dI : Nat → Nat → Nat} {cI cZ cR cA : ClassId} {n : Nat} {ad : zK → Nat} {A : Nat → Prop} (hn : 2 ≤ n ∧ n ≤ 6) (hD : zD A (zKs n) ad) (l : Launch) (v1 : Int32) (v2 : Int32) (v3 : Int32) (st : zS) (out : Int32 × zS) (hF : F_D_waits n v1 v2 v3 st = some out) : zC zT (dC, dI) zcl (zty cI cZ cR cA) A l y_D_waits b_D_waits 4 (some .boolean) rm_D_waits [.ref (ad (0, 0)), .int v1, .int v2, .int v3] (fun H => zV (dC, dI) zcl (zKs n) ad (zcE n cI cZ cR cA ad) st H) (fun o H => o = some (.int out.1) ∧ zV (dC, dI) zcl (zKs n) ad (zcE n cI cZ cR cA ad) out.2 H) := by
  refine zC_of (by decide) (Nat.le_of_ble_eq_true rfl) (fun p e s m args below meth c ls S hret hlk hK hP hl => ?_)
  have hS : va_S A s.heap s.heap [] := va_S.rf
  have hl : lv_has ls 4 [(0, .ref (ad (0, 0))), (1, .int v1), (2, .int v2), (3, .int v3)] := hl
  have hP : zV (dC, dI) zcl (zKs n) ad (zcE n cI cZ cR cA ad) st s.heap := hP
  unfold F_D_waits at hF
  refine lv_aload_n S.1 S.2.1 d_D_waits_0 rfl (lv_at hl 0 rfl) ?_
  refine lv_iload_n S.1 S.2.1 d_D_waits_1 rfl (lv_at hl 1 rfl) ?_
  refine lv_iload_n S.1 S.2.1 d_D_waits_2 rfl (lv_at hl 3 rfl) ?_
  cases hc3 : F_D_isRoute n v1 v3 st with
  | none => rw [hc3] at hF; cases hF
  | some u3 =>
    obtain ⟨r3, st3⟩ := u3
    rw [hc3] at hF
    replace hF := zbind hF
    refine zr_callV (rest := []) S zT_good (C_D_isRoute hn hD l v1 v3 st (r3, st3) hc3) zn_D_isRoute zx_87 ⟨rfl, rfl⟩ ⟨Nat.le_of_ble_eq_true rfl, Nat.le_of_ble_eq_true rfl⟩ ⟨Nat.zero_le _, Nat.zero_le _⟩ hK (zr_recv hK hP zk_0 rfl rfl) hP hl.1 (Nat.le_of_ble_eq_true rfl) hS (fun _ h => h) d_D_waits_3 rfl (fun o H locs hpo _ _ hS => ?_)
    obtain ⟨rfl, hP⟩ := hpo
    refine W.eq (g2 := F0 m 6 ls [.int r3]) rfl ?_
    replace hF : F_D_waits_s1 n v1 v2 v3 r3 st3 = some out := hF
    replace hP : zV (dC, dI) zcl (zKs n) ad (zcE n cI cZ cR cA ad) st3 H := hP
    unfold F_D_waits_s1 at hF
    refine lv_if_eq (tgt := 35) S.1 S.2.1 d_D_waits_6 (by decide) (fun h6 => ?_) (fun h6 => ?_)
    · rw [if_pos h6] at hF
      refine lv_iconst (v := 0) S.1 S.2.1 d_D_waits_35 (by decide) ?_
      cases hF
      exact zr_zret S hret hlk (by decide) hS d_D_waits_36 ⟨rfl, hP⟩
    · rw [if_neg h6] at hF
      refine lv_aload_n S.1 S.2.1 d_D_waits_9 rfl (lv_at hl 0 rfl) ?_
      refine lv_iload_n S.1 S.2.1 d_D_waits_10 rfl (lv_at hl 2 rfl) ?_
      cases hc11 : F_D_isRouter n v2 st3 with
      | none => rw [hc11] at hF; cases hF
      | some u11 =>
        obtain ⟨r11, st11⟩ := u11
        rw [hc11] at hF
        replace hF := zbind hF
        refine zr_callV (rest := []) S zT_good (C_D_isRouter hn hD l v2 st3 (r11, st11) hc11) zn_D_isRouter zx_78 ⟨rfl, rfl⟩ ⟨Nat.le_of_ble_eq_true rfl, Nat.le_of_ble_eq_true rfl⟩ ⟨Nat.zero_le _, Nat.zero_le _⟩ hK (zr_recv hK hP zk_0 rfl rfl) hP hl.1 (Nat.le_of_ble_eq_true rfl) hS (fun _ h => h) d_D_waits_11 rfl (fun o H locs hpo _ _ hS => ?_)
        obtain ⟨rfl, hP⟩ := hpo
        refine W.eq (g2 := F0 m 14 ls [.int r11]) rfl ?_
        replace hF : F_D_waits_s2 n v1 v2 v3 r11 st11 = some out := hF
        replace hP : zV (dC, dI) zcl (zKs n) ad (zcE n cI cZ cR cA ad) st11 H := hP
        unfold F_D_waits_s2 at hF
        refine lv_if_eq (tgt := 35) S.1 S.2.1 d_D_waits_14 (by decide) (fun h14 => ?_) (fun h14 => ?_)
        · rw [if_pos h14] at hF
          refine lv_iconst (v := 0) S.1 S.2.1 d_D_waits_35 (by decide) ?_
          cases hF
          exact zr_zret S hret hlk (by decide) hS d_D_waits_36 ⟨rfl, hP⟩
        · rw [if_neg h14] at hF
          refine lv_aload_n S.1 S.2.1 d_D_waits_17 rfl (lv_at hl 0 rfl) ?_
          refine lv_iload_n S.1 S.2.1 d_D_waits_18 rfl (lv_at hl 1 rfl) ?_
          refine lv_iload_n S.1 S.2.1 d_D_waits_19 rfl (lv_at hl 3 rfl) ?_
          cases hc20 : F_D_route n v1 v3 st11 with
          | none => rw [hc20] at hF; cases hF
          | some u20 =>
            obtain ⟨r20, st20⟩ := u20
            rw [hc20] at hF
            replace hF := zbind hF
            refine zr_callV (rest := []) S zT_good (C_D_route hn hD l v1 v3 st11 (r20, st20) hc20) zn_D_route zx_88 ⟨rfl, rfl⟩ ⟨Nat.le_of_ble_eq_true rfl, Nat.le_of_ble_eq_true rfl⟩ ⟨Nat.zero_le _, Nat.zero_le _⟩ hK (zr_recv hK hP zk_0 rfl rfl) hP hl.1 (Nat.le_of_ble_eq_true rfl) hS (fun _ h => h) d_D_waits_20 rfl (fun o H locs hpo _ _ hS => ?_)
            obtain ⟨rfl, hP⟩ := hpo
            refine W.eq (g2 := F0 m 23 ls [.ref (ad (7, r20))]) rfl ?_
            have hk_r20 := zk_D_route hn hc20
            replace hF : F_D_waits_s3 n v2 r20 st20 = some out := hF
            replace hP : zV (dC, dI) zcl (zKs n) ad (zcE n cI cZ cR cA ad) st20 H := hP
            unfold F_D_waits_s3 at hF
            refine zr_get (v := .ref (ad (9, r20))) S zi_R hK hP hk_r20 rfl rfl 4 (by decide) zx_5 rfl d_D_waits_23 ?_
            refine lv_iload_n S.1 S.2.1 d_D_waits_26 rfl (lv_at hl 2 rfl) ?_
            by_cases g27 : zOut v2 n
            · rw [if_pos g27] at hF; cases hF
            rw [if_neg g27] at hF
            refine zr_zald S hK hP (zk_97 hk_r20) rfl 1 rfl g27 d_D_waits_27 ?_
            refine lv_if_eq (tgt := 35) S.1 S.2.1 d_D_waits_28 (by decide) (fun h28 => ?_) (fun h28 => ?_)
            · rw [if_pos h28] at hF
              refine lv_iconst (v := 0) S.1 S.2.1 d_D_waits_35 (by decide) ?_
              cases hF
              exact zr_zret S hret hlk (by decide) hS d_D_waits_36 ⟨rfl, hP⟩
            · rw [if_neg h28] at hF
              refine lv_iconst (v := 1) S.1 S.2.1 d_D_waits_31 (by decide) ?_
              refine lv_goto (tgt := 36) S.1 S.2.1 d_D_waits_32 (by decide) ?_
              cases hF
              exact zr_zret S hret hlk (by decide) hS d_D_waits_36 ⟨rfl, hP⟩

theorem d_L_count_0 : decode b_L_count 0 = .ok (.iconst 0, 1) := by decide +kernel
theorem d_L_count_1 : decode b_L_count 1 = .ok (.istore_n 3, 1) := by decide +kernel
theorem d_L_count_2 : decode b_L_count 2 = .ok (.aload_n 0, 1) := by decide +kernel
theorem d_L_count_3 : decode b_L_count 3 = .ok (.getfield 22, 3) := by decide +kernel
theorem d_L_count_6 : decode b_L_count 6 = .ok (.istore 4, 2) := by decide +kernel
theorem d_L_count_8 : decode b_L_count 8 = .ok (.iload 4, 2) := by decide +kernel
theorem d_L_count_10 : decode b_L_count 10 = .ok (.aload_n 0, 1) := by decide +kernel
theorem d_L_count_11 : decode b_L_count 11 = .ok (.getfield 18, 3) := by decide +kernel
theorem d_L_count_14 : decode b_L_count 14 = .ok (.if_icmp .ge 23, 3) := by decide +kernel
theorem d_L_count_17 : decode b_L_count 17 = .ok (.aload_n 0, 1) := by decide +kernel
theorem d_L_count_18 : decode b_L_count 18 = .ok (.iload 4, 2) := by decide +kernel
theorem d_L_count_20 : decode b_L_count 20 = .ok (.iload_n 1, 1) := by decide +kernel
theorem d_L_count_21 : decode b_L_count 21 = .ok (.iload_n 2, 1) := by decide +kernel
theorem d_L_count_22 : decode b_L_count 22 = .ok (.invokevirtual 53, 3) := by decide +kernel
theorem d_L_count_25 : decode b_L_count 25 = .ok (.ifCond .eq 6, 3) := by decide +kernel
theorem d_L_count_28 : decode b_L_count 28 = .ok (.iinc 3 1, 3) := by decide +kernel
theorem d_L_count_31 : decode b_L_count 31 = .ok (.iinc 4 1, 3) := by decide +kernel
theorem d_L_count_34 : decode b_L_count 34 = .ok (.goto (-26), 3) := by decide +kernel
theorem d_L_count_37 : decode b_L_count 37 = .ok (.iload_n 3, 1) := by decide +kernel
theorem d_L_count_38 : decode b_L_count 38 = .ok (.ireturn, 1) := by decide +kernel
def F_L_count_L31 (n : Nat) (c8 : Int32 → Int32 → Int32 → Int32 → zS → Option (Int32 × zS)) (v1 : Int32) (v2 : Int32) (v3 : Int32) (v4 : Int32) (st : zS) : Option (Int32 × zS) :=
    c8 v1 v2 v3 (v4 + 1) st

def F_L_count_L8_s1 (n : Nat) (c8 : Int32 → Int32 → Int32 → Int32 → zS → Option (Int32 × zS)) (v1 : Int32) (v2 : Int32) (v3 : Int32) (v4 : Int32) (t0 : Int32) (st : zS) : Option (Int32 × zS) :=
    if t0 = 0 then (F_L_count_L31 n c8 v1 v2 v3 v4 st) else (F_L_count_L31 n c8 v1 v2 (v3 + 1) v4 st)

def F_L_count_L8 (n : Nat) : Nat → Int32 → Int32 → Int32 → Int32 → zS → Option (Int32 × zS)
  | 0, _, _, _, _, _ => none
  | f + 1, v1, v2, v3, v4, st =>
    if (st 3 0 1) ≤ v4 then (some (v3, st)) else ((F_L_isFromTo n v4 v1 v2 st).bind (fun u => F_L_count_L8_s1 n (F_L_count_L8 n f) v1 v2 v3 v4 u.1 u.2))

def F_L_count (n : Nat) (v1 : Int32) (v2 : Int32) (st : zS) : Option (Int32 × zS) :=
    F_L_count_L8 n zFuel v1 v2 0 (st 3 0 0) st

set_option maxHeartbeats 4000000 in
set_option maxRecDepth 1000000 in
theorem T_L_count_L31 {dC : Nat → ClassId} {dI : Nat → Nat → Nat} {cI cZ cR cA : ClassId} {n : Nat} {ad : zK → Nat} {A : Nat → Prop} (hn : 2 ≤ n ∧ n ≤ 6) (hD : zD A (zKs n) ad) {p : Program} {l : Launch} {e : Env} {s : State} {m : MethodId} {args : Array Value} {below : List Frame} {meth : Method} {c : Code} (S : CallFix p m c b_L_count 5 s args zT N_L) (hret : meth.sig.returnType = some .int) (hlk : meth.locks = false) (hK : va_K (dC, dI) zcl (zty cI cZ cR cA) s) (out : Int32 × zS) (c8 : Int32 → Int32 → Int32 → Int32 → zS → Option (Int32 × zS)) (hc8 : ∀ (v1 : Int32) (v2 : Int32) (v3 : Int32) (v4 : Int32) (st : zS) (H : Heap) (locs : List Loc) (ls : Array Slot), zV (dC, dI) zcl (zKs n) ad (zcE n cI cZ cR cA ad) st H → va_S A s.heap H locs → lv_has ls 5 [(0, .ref (ad (3, 0))), (1, .int v1), (2, .int v2), (3, .int v3), (4, .int v4)] → c8 v1 v2 v3 v4 st = some out → W p l e rm_L_count s m args below meth c H locs 0 0 (zQ below A (fun o H => o = some (.int out.1) ∧ zV (dC, dI) zcl (zKs n) ad (zcE n cI cZ cR cA ad) out.2 H) args s) (F0 m 8 ls [])) (v1 : Int32) (v2 : Int32) (v3 : Int32) (v4 : Int32) (st : zS) (H : Heap) (locs : List Loc) (ls : Array Slot) (hP : zV (dC, dI) zcl (zKs n) ad (zcE n cI cZ cR cA ad) st H) (hS : va_S A s.heap H locs) (hl : lv_has ls 5 [(0, .ref (ad (3, 0))), (1, .int v1), (2, .int v2), (3, .int v3), (4, .int v4)]) (hF : F_L_count_L31 n c8 v1 v2 v3 v4 st = some out) : W p l e rm_L_count s m args below meth c H locs 0 0 (zQ below A (fun o H => o = some (.int out.1) ∧ zV (dC, dI) zcl (zKs n) ad (zcE n cI cZ cR cA ad) out.2 H) args s) (F0 m 31 ls []) := by
  unfold F_L_count_L31 at hF
  refine lv_iinc (k := 4) (v := v4 + 1) S.1 S.2.1 d_L_count_31 hl rfl rfl (by decide) rfl (fun ls hl => ?_)
  have hl : lv_has ls 5 [(4, .int (v4 + 1)), (0, .ref (ad (3, 0))), (1, .int v1), (2, .int v2), (3, .int v3)] := hl
  refine lv_goto (tgt := 8) S.1 S.2.1 d_L_count_34 (by decide) ?_
  exact hc8 v1 v2 v3 (v4 + 1) st _ _ _ hP hS (lv_sub hl [1, 2, 3, 4, 0] rfl) hF

set_option maxHeartbeats 4000000 in
set_option maxRecDepth 1000000 in
theorem T_L_count_L8 {dC : Nat → ClassId} {dI : Nat → Nat → Nat} {cI cZ cR cA : ClassId} {n : Nat} {ad : zK → Nat} {A : Nat → Prop} (hn : 2 ≤ n ∧ n ≤ 6) (hD : zD A (zKs n) ad) {p : Program} {l : Launch} {e : Env} {s : State} {m : MethodId} {args : Array Value} {below : List Frame} {meth : Method} {c : Code} (S : CallFix p m c b_L_count 5 s args zT N_L) (hret : meth.sig.returnType = some .int) (hlk : meth.locks = false) (hK : va_K (dC, dI) zcl (zty cI cZ cR cA) s) (out : Int32 × zS) : ∀ (fu : Nat) (v1 : Int32) (v2 : Int32) (v3 : Int32) (v4 : Int32) (st : zS) (H : Heap) (locs : List Loc) (ls : Array Slot) (hP : zV (dC, dI) zcl (zKs n) ad (zcE n cI cZ cR cA ad) st H) (hS : va_S A s.heap H locs) (hl : lv_has ls 5 [(0, .ref (ad (3, 0))), (1, .int v1), (2, .int v2), (3, .int v3), (4, .int v4)]) (hF : F_L_count_L8 n fu v1 v2 v3 v4 st = some out), W p l e rm_L_count s m args below meth c H locs 0 0 (zQ below A (fun o H => o = some (.int out.1) ∧ zV (dC, dI) zcl (zKs n) ad (zcE n cI cZ cR cA ad) out.2 H) args s) (F0 m 8 ls []) := by
  intro fu
  induction fu with
  | zero => intro v1 v2 v3 v4 st H locs ls hP hS hl hF; rw [F_L_count_L8] at hF; cases hF
  | succ f ih =>
    intro v1 v2 v3 v4 st H locs ls hP hS hl hF
    rw [F_L_count_L8] at hF
    refine lv_iload S.1 S.2.1 d_L_count_8 (lv_at hl 4 rfl) ?_
    refine lv_aload_n S.1 S.2.1 d_L_count_10 rfl (lv_at hl 0 rfl) ?_
    refine zr_get (v := .int (st 3 0 1)) S zi_L hK hP zk_3 rfl rfl 3 (by decide) zx_20 rfl d_L_count_11 ?_
    refine lv_icmp_ge (tgt := 37) S.1 S.2.1 d_L_count_14 (by decide) (fun h14 => ?_) (fun h14 => ?_)
    · rw [if_pos h14] at hF
      refine lv_iload_n S.1 S.2.1 d_L_count_37 rfl (lv_at hl 3 rfl) ?_
      cases hF
      exact zr_iret S hret hlk hS d_L_count_38 ⟨rfl, hP⟩
    · rw [if_neg h14] at hF
      refine lv_aload_n S.1 S.2.1 d_L_count_17 rfl (lv_at hl 0 rfl) ?_
      refine lv_iload S.1 S.2.1 d_L_count_18 (lv_at hl 4 rfl) ?_
      refine lv_iload_n S.1 S.2.1 d_L_count_20 rfl (lv_at hl 1 rfl) ?_
      refine lv_iload_n S.1 S.2.1 d_L_count_21 rfl (lv_at hl 2 rfl) ?_
      cases hc22 : F_L_isFromTo n v4 v1 v2 st with
      | none => rw [hc22] at hF; cases hF
      | some u22 =>
        obtain ⟨r22, st22⟩ := u22
        rw [hc22] at hF
        replace hF := zbind hF
        refine zr_callV (rest := []) S zT_good (C_L_isFromTo hn hD l v4 v1 v2 st (r22, st22) hc22) zn_L_isFromTo zx_94 ⟨rfl, rfl⟩ ⟨Nat.le_of_ble_eq_true rfl, Nat.le_of_ble_eq_true rfl⟩ ⟨Nat.zero_le _, Nat.zero_le _⟩ hK (zr_recv hK hP zk_3 rfl rfl) hP hl.1 (Nat.le_of_ble_eq_true rfl) hS (fun _ h => h) d_L_count_22 rfl (fun o H locs hpo _ _ hS => ?_)
        obtain ⟨rfl, hP⟩ := hpo
        refine W.eq (g2 := F0 m 25 ls [.int r22]) rfl ?_
        replace hF : F_L_count_L8_s1 n (F_L_count_L8 n f) v1 v2 v3 v4 r22 st22 = some out := hF
        replace hP : zV (dC, dI) zcl (zKs n) ad (zcE n cI cZ cR cA ad) st22 H := hP
        unfold F_L_count_L8_s1 at hF
        refine lv_if_eq (tgt := 31) S.1 S.2.1 d_L_count_25 (by decide) (fun h25 => ?_) (fun h25 => ?_)
        · rw [if_pos h25] at hF
          exact T_L_count_L31 hn hD S hret hlk hK out (F_L_count_L8 n f) ih v1 v2 v3 v4 st22 _ _ _ hP hS (lv_sub hl [0, 1, 2, 3, 4] rfl) hF
        · rw [if_neg h25] at hF
          refine lv_iinc (k := 3) (v := v3 + 1) S.1 S.2.1 d_L_count_28 hl rfl rfl (by decide) rfl (fun ls hl => ?_)
          have hl : lv_has ls 5 [(3, .int (v3 + 1)), (0, .ref (ad (3, 0))), (1, .int v1), (2, .int v2), (4, .int v4)] := hl
          exact T_L_count_L31 hn hD S hret hlk hK out (F_L_count_L8 n f) ih v1 v2 (v3 + 1) v4 st22 _ _ _ hP hS (lv_sub hl [1, 2, 3, 0, 4] rfl) hF

set_option maxHeartbeats 4000000 in
set_option maxRecDepth 1000000 in
theorem C_L_count {dC : Nat → ClassId} {dI : Nat → Nat → Nat} {cI cZ cR cA : ClassId} {n : Nat} {ad : zK → Nat} {A : Nat → Prop} (hn : 2 ≤ n ∧ n ≤ 6) (hD : zD A (zKs n) ad) (l : Launch) (v1 : Int32) (v2 : Int32) (st : zS) (out : Int32 × zS) (hF : F_L_count n v1 v2 st = some out) : zC zT (dC, dI) zcl (zty cI cZ cR cA) A l y_L_count b_L_count 5 (some .int) rm_L_count [.ref (ad (3, 0)), .int v1, .int v2] (fun H => zV (dC, dI) zcl (zKs n) ad (zcE n cI cZ cR cA ad) st H) (fun o H => o = some (.int out.1) ∧ zV (dC, dI) zcl (zKs n) ad (zcE n cI cZ cR cA ad) out.2 H) := by
  refine zC_of (by decide) (Nat.le_of_ble_eq_true rfl) (fun p e s m args below meth c ls S hret hlk hK hP hl => ?_)
  have hS : va_S A s.heap s.heap [] := va_S.rf
  have hl : lv_has ls 5 [(0, .ref (ad (3, 0))), (1, .int v1), (2, .int v2)] := hl
  have hP : zV (dC, dI) zcl (zKs n) ad (zcE n cI cZ cR cA ad) st s.heap := hP
  unfold F_L_count at hF
  refine lv_iconst (v := 0) S.1 S.2.1 d_L_count_0 (by decide) ?_
  refine lv_istore_n S.1 S.2.1 d_L_count_1 rfl hl (by decide) rfl (fun ls hl => ?_)
  have hl : lv_has ls 5 [(3, .int 0), (0, .ref (ad (3, 0))), (1, .int v1), (2, .int v2)] := hl
  refine lv_aload_n S.1 S.2.1 d_L_count_2 rfl (lv_at hl 1 rfl) ?_
  refine zr_get (v := .int (st 3 0 0)) S zi_L hK hP zk_3 rfl rfl 2 (by decide) zx_21 rfl d_L_count_3 ?_
  refine lv_istore S.1 S.2.1 d_L_count_6 hl (by decide) rfl (fun ls hl => ?_)
  have hl : lv_has ls 5 [(4, .int (st 3 0 0)), (3, .int 0), (0, .ref (ad (3, 0))), (1, .int v1), (2, .int v2)] := hl
  exact T_L_count_L8 hn hD S hret hlk hK out zFuel v1 v2 0 (st 3 0 0) st _ _ _ hP hS (lv_sub hl [2, 3, 4, 1, 0] rfl) hF

theorem d_D_flight_0 : decode b_D_flight 0 = .ok (.aload_n 0, 1) := by decide +kernel
theorem d_D_flight_1 : decode b_D_flight 1 = .ok (.iload_n 1, 1) := by decide +kernel
theorem d_D_flight_2 : decode b_D_flight 2 = .ok (.iload_n 2, 1) := by decide +kernel
theorem d_D_flight_3 : decode b_D_flight 3 = .ok (.invokevirtual 61, 3) := by decide +kernel
theorem d_D_flight_6 : decode b_D_flight 6 = .ok (.ifCond .eq 15, 3) := by decide +kernel
theorem d_D_flight_9 : decode b_D_flight 9 = .ok (.aload_n 0, 1) := by decide +kernel
theorem d_D_flight_10 : decode b_D_flight 10 = .ok (.getfield 39, 3) := by decide +kernel
theorem d_D_flight_13 : decode b_D_flight 13 = .ok (.iload_n 1, 1) := by decide +kernel
theorem d_D_flight_14 : decode b_D_flight 14 = .ok (.iload_n 2, 1) := by decide +kernel
theorem d_D_flight_15 : decode b_D_flight 15 = .ok (.invokevirtual 116, 3) := by decide +kernel
theorem d_D_flight_18 : decode b_D_flight 18 = .ok (.goto 4, 3) := by decide +kernel
theorem d_D_flight_21 : decode b_D_flight 21 = .ok (.iconst (-1), 1) := by decide +kernel
theorem d_D_flight_22 : decode b_D_flight 22 = .ok (.ireturn, 1) := by decide +kernel
def F_D_flight_s2 (n : Nat) (t0 : Int32) (st : zS) : Option (Int32 × zS) :=
    some (t0, st)

def F_D_flight_s1 (n : Nat) (v1 : Int32) (v2 : Int32) (t0 : Int32) (st : zS) : Option (Int32 × zS) :=
    if t0 = 0 then (some ((-1), st)) else ((F_L_count n v1 v2 st).bind (fun u => F_D_flight_s2 n u.1 u.2))

def F_D_flight (n : Nat) (v1 : Int32) (v2 : Int32) (st : zS) : Option (Int32 × zS) :=
    (F_D_isLink n v1 v2 st).bind (fun u => F_D_flight_s1 n v1 v2 u.1 u.2)

set_option maxHeartbeats 4000000 in
set_option maxRecDepth 1000000 in
theorem C_D_flight {dC : Nat → ClassId} {dI : Nat → Nat → Nat} {cI cZ cR cA : ClassId} {n : Nat} {ad : zK → Nat} {A : Nat → Prop} (hn : 2 ≤ n ∧ n ≤ 6) (hD : zD A (zKs n) ad) (l : Launch) (v1 : Int32) (v2 : Int32) (st : zS) (out : Int32 × zS) (hF : F_D_flight n v1 v2 st = some out) : zC zT (dC, dI) zcl (zty cI cZ cR cA) A l y_D_flight b_D_flight 3 (some .int) rm_D_flight [.ref (ad (0, 0)), .int v1, .int v2] (fun H => zV (dC, dI) zcl (zKs n) ad (zcE n cI cZ cR cA ad) st H) (fun o H => o = some (.int out.1) ∧ zV (dC, dI) zcl (zKs n) ad (zcE n cI cZ cR cA ad) out.2 H) := by
  refine zC_of (by decide) (Nat.le_of_ble_eq_true rfl) (fun p e s m args below meth c ls S hret hlk hK hP hl => ?_)
  have hS : va_S A s.heap s.heap [] := va_S.rf
  have hl : lv_has ls 3 [(0, .ref (ad (0, 0))), (1, .int v1), (2, .int v2)] := hl
  have hP : zV (dC, dI) zcl (zKs n) ad (zcE n cI cZ cR cA ad) st s.heap := hP
  unfold F_D_flight at hF
  refine lv_aload_n S.1 S.2.1 d_D_flight_0 rfl (lv_at hl 0 rfl) ?_
  refine lv_iload_n S.1 S.2.1 d_D_flight_1 rfl (lv_at hl 1 rfl) ?_
  refine lv_iload_n S.1 S.2.1 d_D_flight_2 rfl (lv_at hl 2 rfl) ?_
  cases hc3 : F_D_isLink n v1 v2 st with
  | none => rw [hc3] at hF; cases hF
  | some u3 =>
    obtain ⟨r3, st3⟩ := u3
    rw [hc3] at hF
    replace hF := zbind hF
    refine zr_callV (rest := []) S zT_good (C_D_isLink hn hD l v1 v2 st (r3, st3) hc3) zn_D_isLink zx_82 ⟨rfl, rfl⟩ ⟨Nat.le_of_ble_eq_true rfl, Nat.le_of_ble_eq_true rfl⟩ ⟨Nat.zero_le _, Nat.zero_le _⟩ hK (zr_recv hK hP zk_0 rfl rfl) hP hl.1 (Nat.le_of_ble_eq_true rfl) hS (fun _ h => h) d_D_flight_3 rfl (fun o H locs hpo _ _ hS => ?_)
    obtain ⟨rfl, hP⟩ := hpo
    refine W.eq (g2 := F0 m 6 ls [.int r3]) rfl ?_
    replace hF : F_D_flight_s1 n v1 v2 r3 st3 = some out := hF
    replace hP : zV (dC, dI) zcl (zKs n) ad (zcE n cI cZ cR cA ad) st3 H := hP
    unfold F_D_flight_s1 at hF
    refine lv_if_eq (tgt := 21) S.1 S.2.1 d_D_flight_6 (by decide) (fun h6 => ?_) (fun h6 => ?_)
    · rw [if_pos h6] at hF
      refine lv_iconst (v := (-1)) S.1 S.2.1 d_D_flight_21 (by decide) ?_
      cases hF
      exact zr_iret S hret hlk hS d_D_flight_22 ⟨rfl, hP⟩
    · rw [if_neg h6] at hF
      refine lv_aload_n S.1 S.2.1 d_D_flight_9 rfl (lv_at hl 0 rfl) ?_
      refine zr_get (v := .ref (ad (3, 0))) S zi_D hK hP zk_0 rfl rfl 3 (by decide) zx_11 rfl d_D_flight_10 ?_
      refine lv_iload_n S.1 S.2.1 d_D_flight_13 rfl (lv_at hl 1 rfl) ?_
      refine lv_iload_n S.1 S.2.1 d_D_flight_14 rfl (lv_at hl 2 rfl) ?_
      cases hc15 : F_L_count n v1 v2 st3 with
      | none => rw [hc15] at hF; cases hF
      | some u15 =>
        obtain ⟨r15, st15⟩ := u15
        rw [hc15] at hF
        replace hF := zbind hF
        refine zr_callV (rest := []) S zT_good (C_L_count hn hD l v1 v2 st3 (r15, st15) hc15) zn_L_count zx_55 ⟨rfl, rfl⟩ ⟨Nat.le_of_ble_eq_true rfl, Nat.le_of_ble_eq_true rfl⟩ ⟨Nat.zero_le _, Nat.zero_le _⟩ hK (zr_recv hK hP zk_3 rfl rfl) hP hl.1 (Nat.le_of_ble_eq_true rfl) hS (fun _ h => h) d_D_flight_15 rfl (fun o H locs hpo _ _ hS => ?_)
        obtain ⟨rfl, hP⟩ := hpo
        refine W.eq (g2 := F0 m 18 ls [.int r15]) rfl ?_
        replace hF : F_D_flight_s2 n r15 st15 = some out := hF
        replace hP : zV (dC, dI) zcl (zKs n) ad (zcE n cI cZ cR cA ad) st15 H := hP
        unfold F_D_flight_s2 at hF
        refine lv_goto (tgt := 22) S.1 S.2.1 d_D_flight_18 (by decide) ?_
        cases hF
        exact zr_iret S hret hlk hS d_D_flight_22 ⟨rfl, hP⟩

theorem d_D_message_0 : decode b_D_message 0 = .ok (.aload_n 0, 1) := by decide +kernel
theorem d_D_message_1 : decode b_D_message 1 = .ok (.iload_n 1, 1) := by decide +kernel
theorem d_D_message_2 : decode b_D_message 2 = .ok (.iload_n 2, 1) := by decide +kernel
theorem d_D_message_3 : decode b_D_message 3 = .ok (.invokevirtual 61, 3) := by decide +kernel
theorem d_D_message_6 : decode b_D_message 6 = .ok (.ifCond .eq 16, 3) := by decide +kernel
theorem d_D_message_9 : decode b_D_message 9 = .ok (.aload_n 0, 1) := by decide +kernel
theorem d_D_message_10 : decode b_D_message 10 = .ok (.getfield 39, 3) := by decide +kernel
theorem d_D_message_13 : decode b_D_message 13 = .ok (.iload_n 1, 1) := by decide +kernel
theorem d_D_message_14 : decode b_D_message 14 = .ok (.iload_n 2, 1) := by decide +kernel
theorem d_D_message_15 : decode b_D_message 15 = .ok (.iload_n 3, 1) := by decide +kernel
theorem d_D_message_16 : decode b_D_message 16 = .ok (.invokevirtual 71, 3) := by decide +kernel
theorem d_D_message_19 : decode b_D_message 19 = .ok (.goto 4, 3) := by decide +kernel
theorem d_D_message_22 : decode b_D_message 22 = .ok (.iconst (-1), 1) := by decide +kernel
theorem d_D_message_23 : decode b_D_message 23 = .ok (.istore 5, 2) := by decide +kernel
theorem d_D_message_25 : decode b_D_message 25 = .ok (.iload 5, 2) := by decide +kernel
theorem d_D_message_27 : decode b_D_message 27 = .ok (.iconst (-1), 1) := by decide +kernel
theorem d_D_message_28 : decode b_D_message 28 = .ok (.if_icmp .ne 5, 3) := by decide +kernel
theorem d_D_message_31 : decode b_D_message 31 = .ok (.iconst (-1), 1) := by decide +kernel
theorem d_D_message_32 : decode b_D_message 32 = .ok (.ireturn, 1) := by decide +kernel
theorem d_D_message_33 : decode b_D_message 33 = .ok (.aload_n 0, 1) := by decide +kernel
theorem d_D_message_34 : decode b_D_message 34 = .ok (.getfield 39, 3) := by decide +kernel
theorem d_D_message_37 : decode b_D_message 37 = .ok (.getfield 119, 3) := by decide +kernel
theorem d_D_message_40 : decode b_D_message 40 = .ok (.iload 5, 2) := by decide +kernel
theorem d_D_message_42 : decode b_D_message 42 = .ok (.iaload, 1) := by decide +kernel
theorem d_D_message_43 : decode b_D_message 43 = .ok (.istore 6, 2) := by decide +kernel
theorem d_D_message_45 : decode b_D_message 45 = .ok (.iload 4, 2) := by decide +kernel
theorem d_D_message_47 : decode b_D_message 47 = .ok (.tableswitch 43 0 2 #[25, 31, 37], 25) := by decide +kernel
theorem d_D_message_72 : decode b_D_message 72 = .ok (.iload 6, 2) := by decide +kernel
theorem d_D_message_74 : decode b_D_message 74 = .ok (.invokestatic 122, 3) := by decide +kernel
theorem d_D_message_77 : decode b_D_message 77 = .ok (.ireturn, 1) := by decide +kernel
theorem d_D_message_78 : decode b_D_message 78 = .ok (.iload 6, 2) := by decide +kernel
theorem d_D_message_80 : decode b_D_message 80 = .ok (.invokestatic 125, 3) := by decide +kernel
theorem d_D_message_83 : decode b_D_message 83 = .ok (.ireturn, 1) := by decide +kernel
theorem d_D_message_84 : decode b_D_message 84 = .ok (.iload 6, 2) := by decide +kernel
theorem d_D_message_86 : decode b_D_message 86 = .ok (.invokestatic 128, 3) := by decide +kernel
theorem d_D_message_89 : decode b_D_message 89 = .ok (.ireturn, 1) := by decide +kernel
theorem d_D_message_90 : decode b_D_message 90 = .ok (.iconst (-1), 1) := by decide +kernel
theorem d_D_message_91 : decode b_D_message 91 = .ok (.ireturn, 1) := by decide +kernel
def F_D_message_L23_s1 (n : Nat) (t0 : Int32) (st : zS) : Option (Int32 × zS) :=
    some (t0, st)

def F_D_message_L23_s2 (n : Nat) (t0 : Int32) (st : zS) : Option (Int32 × zS) :=
    some (t0, st)

def F_D_message_L23_s3 (n : Nat) (t0 : Int32) (st : zS) : Option (Int32 × zS) :=
    some (t0, st)

def F_D_message_L23 (n : Nat) (v4 : Int32) (t0 : Int32) (st : zS) : Option (Int32 × zS) :=
    if t0 = (-1) then (some ((-1), st)) else (if zOut t0 1024 then none else if v4 = 0 then ((F_L_kindOf n (st 4 0 (Int32.toNatClampNeg t0)) st).bind (fun u => F_D_message_L23_s1 n u.1 u.2)) else if v4 = 1 then ((F_L_targetOf n (st 4 0 (Int32.toNatClampNeg t0)) st).bind (fun u => F_D_message_L23_s2 n u.1 u.2)) else if v4 = 2 then ((F_L_distanceOf n (st 4 0 (Int32.toNatClampNeg t0)) st).bind (fun u => F_D_message_L23_s3 n u.1 u.2)) else (some ((-1), st)))

def F_D_message_s2 (n : Nat) (v4 : Int32) (t0 : Int32) (st : zS) : Option (Int32 × zS) :=
    F_D_message_L23 n v4 t0 st

def F_D_message_s1 (n : Nat) (v1 : Int32) (v2 : Int32) (v3 : Int32) (v4 : Int32) (t0 : Int32) (st : zS) : Option (Int32 × zS) :=
    if t0 = 0 then (F_D_message_L23 n v4 (-1) st) else ((F_L_find n v1 v2 v3 st).bind (fun u => F_D_message_s2 n v4 u.1 u.2))

def F_D_message (n : Nat) (v1 : Int32) (v2 : Int32) (v3 : Int32) (v4 : Int32) (st : zS) : Option (Int32 × zS) :=
    (F_D_isLink n v1 v2 st).bind (fun u => F_D_message_s1 n v1 v2 v3 v4 u.1 u.2)

set_option maxHeartbeats 4000000 in
set_option maxRecDepth 1000000 in
theorem T_D_message_L23 {dC : Nat → ClassId} {dI : Nat → Nat → Nat} {cI cZ cR cA : ClassId} {n : Nat} {ad : zK → Nat} {A : Nat → Prop} (hn : 2 ≤ n ∧ n ≤ 6) (hD : zD A (zKs n) ad) {p : Program} {l : Launch} {e : Env} {s : State} {m : MethodId} {args : Array Value} {below : List Frame} {meth : Method} {c : Code} (S : CallFix p m c b_D_message 7 s args zT N_D) (hret : meth.sig.returnType = some .int) (hlk : meth.locks = false) (hK : va_K (dC, dI) zcl (zty cI cZ cR cA) s) (out : Int32 × zS) (v4 : Int32) (t0 : Int32) (st : zS) (H : Heap) (locs : List Loc) (ls : Array Slot) (hP : zV (dC, dI) zcl (zKs n) ad (zcE n cI cZ cR cA ad) st H) (hS : va_S A s.heap H locs) (hl : lv_has ls 7 [(0, .ref (ad (0, 0))), (4, .int v4)]) (hF : F_D_message_L23 n v4 t0 st = some out) : W p l e rm_D_message s m args below meth c H locs 0 0 (zQ below A (fun o H => o = some (.int out.1) ∧ zV (dC, dI) zcl (zKs n) ad (zcE n cI cZ cR cA ad) out.2 H) args s) (F0 m 23 ls [.int t0]) := by
  unfold F_D_message_L23 at hF
  refine lv_istore S.1 S.2.1 d_D_message_23 hl (by decide) rfl (fun ls hl => ?_)
  have hl : lv_has ls 7 [(5, .int t0), (0, .ref (ad (0, 0))), (4, .int v4)] := hl
  refine lv_iload S.1 S.2.1 d_D_message_25 (lv_at hl 0 rfl) ?_
  refine lv_iconst (v := (-1)) S.1 S.2.1 d_D_message_27 (by decide) ?_
  refine lv_icmp_ne (tgt := 33) S.1 S.2.1 d_D_message_28 (by decide) (fun h28 => ?_) (fun h28 => ?_)
  · rw [if_neg h28] at hF
    refine lv_aload_n S.1 S.2.1 d_D_message_33 rfl (lv_at hl 1 rfl) ?_
    refine zr_get (v := .ref (ad (3, 0))) S zi_D hK hP zk_0 rfl rfl 3 (by decide) zx_11 rfl d_D_message_34 ?_
    refine zr_get (v := .ref (ad (4, 0))) S zi_L hK hP zk_3 rfl rfl 0 (by decide) zx_6 rfl d_D_message_37 ?_
    refine lv_iload S.1 S.2.1 d_D_message_40 (lv_at hl 0 rfl) ?_
    by_cases g42 : zOut t0 1024
    · rw [if_pos g42] at hF; cases hF
    rw [if_neg g42] at hF
    refine zr_iald S hK hP zk_4 rfl 0 rfl g42 d_D_message_42 ?_
    refine lv_istore S.1 S.2.1 d_D_message_43 hl (by decide) rfl (fun ls hl => ?_)
    have hl : lv_has ls 7 [(6, .int (st 4 0 (Int32.toNatClampNeg t0))), (5, .int t0), (0, .ref (ad (0, 0))), (4, .int v4)] := hl
    refine lv_iload S.1 S.2.1 d_D_message_45 (lv_at hl 3 rfl) ?_
    by_cases h47_0 : v4 = 0
    · rw [if_pos h47_0] at hF
      refine lv_tableIn (tgt := 72) (off := 25) S.1 S.2.1 d_D_message_47 (by rw [h47_0]; decide) (by rw [h47_0]; decide) (by rw [h47_0]; rfl) (by decide) ?_
      refine lv_iload S.1 S.2.1 d_D_message_72 (lv_at hl 0 rfl) ?_
      cases hc74 : F_L_kindOf n (st 4 0 (Int32.toNatClampNeg t0)) st with
      | none => rw [hc74] at hF; cases hF
      | some u74 =>
        obtain ⟨r74, st74⟩ := u74
        rw [hc74] at hF
        replace hF := zbind hF
        refine zr_callS (rest := []) S zT_good (C_L_kindOf hn hD l (st 4 0 (Int32.toNatClampNeg t0)) st (r74, st74) hc74) zn_L_kindOf zx_56 ⟨rfl, rfl⟩ ⟨Nat.le_of_ble_eq_true rfl, Nat.le_of_ble_eq_true rfl⟩ ⟨Nat.zero_le _, Nat.zero_le _⟩ hK hP hl.1 (Nat.le_of_ble_eq_true rfl) hS (fun _ h => h) d_D_message_74 rfl (fun o H locs hpo _ _ hS => ?_)
        obtain ⟨rfl, hP⟩ := hpo
        refine W.eq (g2 := F0 m 77 ls [.int r74]) rfl ?_
        replace hF : F_D_message_L23_s1 n r74 st74 = some out := hF
        replace hP : zV (dC, dI) zcl (zKs n) ad (zcE n cI cZ cR cA ad) st74 H := hP
        unfold F_D_message_L23_s1 at hF
        cases hF
        exact zr_iret S hret hlk hS d_D_message_77 ⟨rfl, hP⟩
    rw [if_neg h47_0] at hF
    by_cases h47_1 : v4 = 1
    · rw [if_pos h47_1] at hF
      refine lv_tableIn (tgt := 78) (off := 31) S.1 S.2.1 d_D_message_47 (by rw [h47_1]; decide) (by rw [h47_1]; decide) (by rw [h47_1]; rfl) (by decide) ?_
      refine lv_iload S.1 S.2.1 d_D_message_78 (lv_at hl 0 rfl) ?_
      cases hc80 : F_L_targetOf n (st 4 0 (Int32.toNatClampNeg t0)) st with
      | none => rw [hc80] at hF; cases hF
      | some u80 =>
        obtain ⟨r80, st80⟩ := u80
        rw [hc80] at hF
        replace hF := zbind hF
        refine zr_callS (rest := []) S zT_good (C_L_targetOf hn hD l (st 4 0 (Int32.toNatClampNeg t0)) st (r80, st80) hc80) zn_L_targetOf zx_57 ⟨rfl, rfl⟩ ⟨Nat.le_of_ble_eq_true rfl, Nat.le_of_ble_eq_true rfl⟩ ⟨Nat.zero_le _, Nat.zero_le _⟩ hK hP hl.1 (Nat.le_of_ble_eq_true rfl) hS (fun _ h => h) d_D_message_80 rfl (fun o H locs hpo _ _ hS => ?_)
        obtain ⟨rfl, hP⟩ := hpo
        refine W.eq (g2 := F0 m 83 ls [.int r80]) rfl ?_
        replace hF : F_D_message_L23_s2 n r80 st80 = some out := hF
        replace hP : zV (dC, dI) zcl (zKs n) ad (zcE n cI cZ cR cA ad) st80 H := hP
        unfold F_D_message_L23_s2 at hF
        cases hF
        exact zr_iret S hret hlk hS d_D_message_83 ⟨rfl, hP⟩
    rw [if_neg h47_1] at hF
    by_cases h47_2 : v4 = 2
    · rw [if_pos h47_2] at hF
      refine lv_tableIn (tgt := 84) (off := 37) S.1 S.2.1 d_D_message_47 (by rw [h47_2]; decide) (by rw [h47_2]; decide) (by rw [h47_2]; rfl) (by decide) ?_
      refine lv_iload S.1 S.2.1 d_D_message_84 (lv_at hl 0 rfl) ?_
      cases hc86 : F_L_distanceOf n (st 4 0 (Int32.toNatClampNeg t0)) st with
      | none => rw [hc86] at hF; cases hF
      | some u86 =>
        obtain ⟨r86, st86⟩ := u86
        rw [hc86] at hF
        replace hF := zbind hF
        refine zr_callS (rest := []) S zT_good (C_L_distanceOf hn hD l (st 4 0 (Int32.toNatClampNeg t0)) st (r86, st86) hc86) zn_L_distanceOf zx_58 ⟨rfl, rfl⟩ ⟨Nat.le_of_ble_eq_true rfl, Nat.le_of_ble_eq_true rfl⟩ ⟨Nat.zero_le _, Nat.zero_le _⟩ hK hP hl.1 (Nat.le_of_ble_eq_true rfl) hS (fun _ h => h) d_D_message_86 rfl (fun o H locs hpo _ _ hS => ?_)
        obtain ⟨rfl, hP⟩ := hpo
        refine W.eq (g2 := F0 m 89 ls [.int r86]) rfl ?_
        replace hF : F_D_message_L23_s3 n r86 st86 = some out := hF
        replace hP : zV (dC, dI) zcl (zKs n) ad (zcE n cI cZ cR cA ad) st86 H := hP
        unfold F_D_message_L23_s3 at hF
        cases hF
        exact zr_iret S hret hlk hS d_D_message_89 ⟨rfl, hP⟩
    rw [if_neg h47_2] at hF
    refine lv_tableOut (tgt := 90) S.1 S.2.1 d_D_message_47 (zsw_2 h47_0 h47_1 h47_2) (by decide) ?_
    refine lv_iconst (v := (-1)) S.1 S.2.1 d_D_message_90 (by decide) ?_
    cases hF
    exact zr_iret S hret hlk hS d_D_message_91 ⟨rfl, hP⟩
  · rw [if_pos h28] at hF
    refine lv_iconst (v := (-1)) S.1 S.2.1 d_D_message_31 (by decide) ?_
    cases hF
    exact zr_iret S hret hlk hS d_D_message_32 ⟨rfl, hP⟩

set_option maxHeartbeats 4000000 in
set_option maxRecDepth 1000000 in
theorem C_D_message {dC : Nat → ClassId} {dI : Nat → Nat → Nat} {cI cZ cR cA : ClassId} {n : Nat} {ad : zK → Nat} {A : Nat → Prop} (hn : 2 ≤ n ∧ n ≤ 6) (hD : zD A (zKs n) ad) (l : Launch) (v1 : Int32) (v2 : Int32) (v3 : Int32) (v4 : Int32) (st : zS) (out : Int32 × zS) (hF : F_D_message n v1 v2 v3 v4 st = some out) : zC zT (dC, dI) zcl (zty cI cZ cR cA) A l y_D_message b_D_message 7 (some .int) rm_D_message [.ref (ad (0, 0)), .int v1, .int v2, .int v3, .int v4] (fun H => zV (dC, dI) zcl (zKs n) ad (zcE n cI cZ cR cA ad) st H) (fun o H => o = some (.int out.1) ∧ zV (dC, dI) zcl (zKs n) ad (zcE n cI cZ cR cA ad) out.2 H) := by
  refine zC_of (by decide) (Nat.le_of_ble_eq_true rfl) (fun p e s m args below meth c ls S hret hlk hK hP hl => ?_)
  have hS : va_S A s.heap s.heap [] := va_S.rf
  have hl : lv_has ls 7 [(0, .ref (ad (0, 0))), (1, .int v1), (2, .int v2), (3, .int v3), (4, .int v4)] := hl
  have hP : zV (dC, dI) zcl (zKs n) ad (zcE n cI cZ cR cA ad) st s.heap := hP
  unfold F_D_message at hF
  refine lv_aload_n S.1 S.2.1 d_D_message_0 rfl (lv_at hl 0 rfl) ?_
  refine lv_iload_n S.1 S.2.1 d_D_message_1 rfl (lv_at hl 1 rfl) ?_
  refine lv_iload_n S.1 S.2.1 d_D_message_2 rfl (lv_at hl 2 rfl) ?_
  cases hc3 : F_D_isLink n v1 v2 st with
  | none => rw [hc3] at hF; cases hF
  | some u3 =>
    obtain ⟨r3, st3⟩ := u3
    rw [hc3] at hF
    replace hF := zbind hF
    refine zr_callV (rest := []) S zT_good (C_D_isLink hn hD l v1 v2 st (r3, st3) hc3) zn_D_isLink zx_82 ⟨rfl, rfl⟩ ⟨Nat.le_of_ble_eq_true rfl, Nat.le_of_ble_eq_true rfl⟩ ⟨Nat.zero_le _, Nat.zero_le _⟩ hK (zr_recv hK hP zk_0 rfl rfl) hP hl.1 (Nat.le_of_ble_eq_true rfl) hS (fun _ h => h) d_D_message_3 rfl (fun o H locs hpo _ _ hS => ?_)
    obtain ⟨rfl, hP⟩ := hpo
    refine W.eq (g2 := F0 m 6 ls [.int r3]) rfl ?_
    replace hF : F_D_message_s1 n v1 v2 v3 v4 r3 st3 = some out := hF
    replace hP : zV (dC, dI) zcl (zKs n) ad (zcE n cI cZ cR cA ad) st3 H := hP
    unfold F_D_message_s1 at hF
    refine lv_if_eq (tgt := 22) S.1 S.2.1 d_D_message_6 (by decide) (fun h6 => ?_) (fun h6 => ?_)
    · rw [if_pos h6] at hF
      refine lv_iconst (v := (-1)) S.1 S.2.1 d_D_message_22 (by decide) ?_
      exact T_D_message_L23 hn hD S hret hlk hK out v4 (-1) st3 _ _ _ hP hS (lv_sub hl [0, 4] rfl) hF
    · rw [if_neg h6] at hF
      refine lv_aload_n S.1 S.2.1 d_D_message_9 rfl (lv_at hl 0 rfl) ?_
      refine zr_get (v := .ref (ad (3, 0))) S zi_D hK hP zk_0 rfl rfl 3 (by decide) zx_11 rfl d_D_message_10 ?_
      refine lv_iload_n S.1 S.2.1 d_D_message_13 rfl (lv_at hl 1 rfl) ?_
      refine lv_iload_n S.1 S.2.1 d_D_message_14 rfl (lv_at hl 2 rfl) ?_
      refine lv_iload_n S.1 S.2.1 d_D_message_15 rfl (lv_at hl 3 rfl) ?_
      cases hc16 : F_L_find n v1 v2 v3 st3 with
      | none => rw [hc16] at hF; cases hF
      | some u16 =>
        obtain ⟨r16, st16⟩ := u16
        rw [hc16] at hF
        replace hF := zbind hF
        refine zr_callV (rest := []) S zT_good (C_L_find hn hD l v1 v2 v3 st3 (r16, st16) hc16) zn_L_find zx_85 ⟨rfl, rfl⟩ ⟨Nat.le_of_ble_eq_true rfl, Nat.le_of_ble_eq_true rfl⟩ ⟨Nat.zero_le _, Nat.zero_le _⟩ hK (zr_recv hK hP zk_3 rfl rfl) hP hl.1 (Nat.le_of_ble_eq_true rfl) hS (fun _ h => h) d_D_message_16 rfl (fun o H locs hpo _ _ hS => ?_)
        obtain ⟨rfl, hP⟩ := hpo
        refine W.eq (g2 := F0 m 19 ls [.int r16]) rfl ?_
        replace hF : F_D_message_s2 n v4 r16 st16 = some out := hF
        replace hP : zV (dC, dI) zcl (zKs n) ad (zcE n cI cZ cR cA ad) st16 H := hP
        unfold F_D_message_s2 at hF
        refine lv_goto (tgt := 23) S.1 S.2.1 d_D_message_19 (by decide) ?_
        exact T_D_message_L23 hn hD S hret hlk hK out v4 r16 st16 _ _ _ hP hS (lv_sub hl [0, 4] rfl) hF
end
section
theorem d_D_hops_0 : decode b_D_hops 0 = .ok (.aload_n 0, 1) := by decide +kernel
theorem d_D_hops_1 : decode b_D_hops 1 = .ok (.iload_n 1, 1) := by decide +kernel
theorem d_D_hops_2 : decode b_D_hops 2 = .ok (.iload_n 2, 1) := by decide +kernel
theorem d_D_hops_3 : decode b_D_hops 3 = .ok (.invokevirtual 82, 3) := by decide +kernel
theorem d_D_hops_6 : decode b_D_hops 6 = .ok (.ifCond .ne 5, 3) := by decide +kernel
theorem d_D_hops_9 : decode b_D_hops 9 = .ok (.iconst (-1), 1) := by decide +kernel
theorem d_D_hops_10 : decode b_D_hops 10 = .ok (.ireturn, 1) := by decide +kernel
theorem d_D_hops_11 : decode b_D_hops 11 = .ok (.iload_n 1, 1) := by decide +kernel
theorem d_D_hops_12 : decode b_D_hops 12 = .ok (.istore_n 3, 1) := by decide +kernel
theorem d_D_hops_13 : decode b_D_hops 13 = .ok (.iconst 0, 1) := by decide +kernel
theorem d_D_hops_14 : decode b_D_hops 14 = .ok (.istore 4, 2) := by decide +kernel
theorem d_D_hops_16 : decode b_D_hops 16 = .ok (.iload 4, 2) := by decide +kernel
theorem d_D_hops_18 : decode b_D_hops 18 = .ok (.aload_n 0, 1) := by decide +kernel
theorem d_D_hops_19 : decode b_D_hops 19 = .ok (.getfield 18, 3) := by decide +kernel
theorem d_D_hops_22 : decode b_D_hops 22 = .ok (.if_icmp .ge 34, 3) := by decide +kernel
theorem d_D_hops_25 : decode b_D_hops 25 = .ok (.iload_n 3, 1) := by decide +kernel
theorem d_D_hops_26 : decode b_D_hops 26 = .ok (.iload_n 2, 1) := by decide +kernel
theorem d_D_hops_27 : decode b_D_hops 27 = .ok (.if_icmp .ne 6, 3) := by decide +kernel
theorem d_D_hops_30 : decode b_D_hops 30 = .ok (.iload 4, 2) := by decide +kernel
theorem d_D_hops_32 : decode b_D_hops 32 = .ok (.ireturn, 1) := by decide +kernel
theorem d_D_hops_33 : decode b_D_hops 33 = .ok (.aload_n 0, 1) := by decide +kernel
theorem d_D_hops_34 : decode b_D_hops 34 = .ok (.iload_n 3, 1) := by decide +kernel
theorem d_D_hops_35 : decode b_D_hops 35 = .ok (.iload_n 2, 1) := by decide +kernel
theorem d_D_hops_36 : decode b_D_hops 36 = .ok (.invokevirtual 85, 3) := by decide +kernel
theorem d_D_hops_39 : decode b_D_hops 39 = .ok (.getfield 95, 3) := by decide +kernel
theorem d_D_hops_42 : decode b_D_hops 42 = .ok (.istore_n 3, 1) := by decide +kernel
theorem d_D_hops_43 : decode b_D_hops 43 = .ok (.iload_n 3, 1) := by decide +kernel
theorem d_D_hops_44 : decode b_D_hops 44 = .ok (.iconst (-1), 1) := by decide +kernel
theorem d_D_hops_45 : decode b_D_hops 45 = .ok (.if_icmp .ne 5, 3) := by decide +kernel
theorem d_D_hops_48 : decode b_D_hops 48 = .ok (.iconst (-1), 1) := by decide +kernel
theorem d_D_hops_49 : decode b_D_hops 49 = .ok (.ireturn, 1) := by decide +kernel
theorem d_D_hops_50 : decode b_D_hops 50 = .ok (.iinc 4 1, 3) := by decide +kernel
theorem d_D_hops_53 : decode b_D_hops 53 = .ok (.goto (-37), 3) := by decide +kernel
theorem d_D_hops_56 : decode b_D_hops 56 = .ok (.iconst (-1), 1) := by decide +kernel
theorem d_D_hops_57 : decode b_D_hops 57 = .ok (.ireturn, 1) := by decide +kernel
def F_D_hops_L16_s1 (n : Nat) (c16 : Int32 → Int32 → Int32 → zS → Option (Int32 × zS)) (v2 : Int32) (v4 : Int32) (u0 : Nat) (st : zS) : Option (Int32 × zS) :=
    if (st 7 u0 2) = (-1) then (some ((-1), st)) else (c16 v2 (st 7 u0 2) (v4 + 1) st)

def F_D_hops_L16 (n : Nat) : Nat → Int32 → Int32 → Int32 → zS → Option (Int32 × zS)
  | 0, _, _, _, _ => none
  | f + 1, v2, v3, v4, st =>
    if (nI n) ≤ v4 then (some ((-1), st)) else (if v3 = v2 then (some (v4, st)) else ((F_D_route n v3 v2 st).bind (fun u => F_D_hops_L16_s1 n (F_D_hops_L16 n f) v2 v4 u.1 u.2)))

def F_D_hops_s1 (n : Nat) (v1 : Int32) (v2 : Int32) (t0 : Int32) (st : zS) : Option (Int32 × zS) :=
    if t0 = 0 then (some ((-1), st)) else (F_D_hops_L16 n zFuel v2 v1 0 st)

def F_D_hops (n : Nat) (v1 : Int32) (v2 : Int32) (st : zS) : Option (Int32 × zS) :=
    (F_D_isRoute n v1 v2 st).bind (fun u => F_D_hops_s1 n v1 v2 u.1 u.2)

set_option maxHeartbeats 4000000 in
set_option maxRecDepth 1000000 in
theorem T_D_hops_L16 {dC : Nat → ClassId} {dI : Nat → Nat → Nat} {cI cZ cR cA : ClassId} {n : Nat} {ad : zK → Nat} {A : Nat → Prop} (hn : 2 ≤ n ∧ n ≤ 6) (hD : zD A (zKs n) ad) {p : Program} {l : Launch} {e : Env} {s : State} {m : MethodId} {args : Array Value} {below : List Frame} {meth : Method} {c : Code} (S : CallFix p m c b_D_hops 5 s args zT N_D) (hret : meth.sig.returnType = some .int) (hlk : meth.locks = false) (hK : va_K (dC, dI) zcl (zty cI cZ cR cA) s) (out : Int32 × zS) : ∀ (fu : Nat) (v2 : Int32) (v3 : Int32) (v4 : Int32) (st : zS) (H : Heap) (locs : List Loc) (ls : Array Slot) (hP : zV (dC, dI) zcl (zKs n) ad (zcE n cI cZ cR cA ad) st H) (hS : va_S A s.heap H locs) (hl : lv_has ls 5 [(0, .ref (ad (0, 0))), (2, .int v2), (3, .int v3), (4, .int v4)]) (hF : F_D_hops_L16 n fu v2 v3 v4 st = some out), W p l e rm_D_hops s m args below meth c H locs 0 0 (zQ below A (fun o H => o = some (.int out.1) ∧ zV (dC, dI) zcl (zKs n) ad (zcE n cI cZ cR cA ad) out.2 H) args s) (F0 m 16 ls []) := by
  intro fu
  induction fu with
  | zero => intro v2 v3 v4 st H locs ls hP hS hl hF; rw [F_D_hops_L16] at hF; cases hF
  | succ f ih =>
    intro v2 v3 v4 st H locs ls hP hS hl hF
    rw [F_D_hops_L16] at hF
    refine lv_iload S.1 S.2.1 d_D_hops_16 (lv_at hl 3 rfl) ?_
    refine lv_aload_n S.1 S.2.1 d_D_hops_18 rfl (lv_at hl 0 rfl) ?_
    refine zr_get (v := .int (nI n)) S zi_D hK hP zk_0 rfl rfl 0 (by decide) zx_8 rfl d_D_hops_19 ?_
    refine lv_icmp_ge (tgt := 56) S.1 S.2.1 d_D_hops_22 (by decide) (fun h22 => ?_) (fun h22 => ?_)
    · rw [if_pos h22] at hF
      refine lv_iconst (v := (-1)) S.1 S.2.1 d_D_hops_56 (by decide) ?_
      cases hF
      exact zr_iret S hret hlk hS d_D_hops_57 ⟨rfl, hP⟩
    · rw [if_neg h22] at hF
      refine lv_iload_n S.1 S.2.1 d_D_hops_25 rfl (lv_at hl 2 rfl) ?_
      refine lv_iload_n S.1 S.2.1 d_D_hops_26 rfl (lv_at hl 1 rfl) ?_
      refine lv_icmp_ne (tgt := 33) S.1 S.2.1 d_D_hops_27 (by decide) (fun h27 => ?_) (fun h27 => ?_)
      · rw [if_neg h27] at hF
        refine lv_aload_n S.1 S.2.1 d_D_hops_33 rfl (lv_at hl 0 rfl) ?_
        refine lv_iload_n S.1 S.2.1 d_D_hops_34 rfl (lv_at hl 2 rfl) ?_
        refine lv_iload_n S.1 S.2.1 d_D_hops_35 rfl (lv_at hl 1 rfl) ?_
        cases hc36 : F_D_route n v3 v2 st with
        | none => rw [hc36] at hF; cases hF
        | some u36 =>
          obtain ⟨r36, st36⟩ := u36
          rw [hc36] at hF
          replace hF := zbind hF
          refine zr_callV (rest := []) S zT_good (C_D_route hn hD l v3 v2 st (r36, st36) hc36) zn_D_route zx_88 ⟨rfl, rfl⟩ ⟨Nat.le_of_ble_eq_true rfl, Nat.le_of_ble_eq_true rfl⟩ ⟨Nat.zero_le _, Nat.zero_le _⟩ hK (zr_recv hK hP zk_0 rfl rfl) hP hl.1 (Nat.le_of_ble_eq_true rfl) hS (fun _ h => h) d_D_hops_36 rfl (fun o H locs hpo _ _ hS => ?_)
          obtain ⟨rfl, hP⟩ := hpo
          refine W.eq (g2 := F0 m 39 ls [.ref (ad (7, r36))]) rfl ?_
          have hk_r36 := zk_D_route hn hc36
          replace hF : F_D_hops_L16_s1 n (F_D_hops_L16 n f) v2 v4 r36 st36 = some out := hF
          replace hP : zV (dC, dI) zcl (zKs n) ad (zcE n cI cZ cR cA ad) st36 H := hP
          unfold F_D_hops_L16_s1 at hF
          refine zr_get (v := .int (st36 7 r36 2)) S zi_R hK hP hk_r36 rfl rfl 7 (by decide) zx_16 rfl d_D_hops_39 ?_
          refine lv_istore_n S.1 S.2.1 d_D_hops_42 rfl hl (by decide) rfl (fun ls hl => ?_)
          have hl : lv_has ls 5 [(3, .int (st36 7 r36 2)), (0, .ref (ad (0, 0))), (2, .int v2), (4, .int v4)] := hl
          refine lv_iload_n S.1 S.2.1 d_D_hops_43 rfl (lv_at hl 0 rfl) ?_
          refine lv_iconst (v := (-1)) S.1 S.2.1 d_D_hops_44 (by decide) ?_
          refine lv_icmp_ne (tgt := 50) S.1 S.2.1 d_D_hops_45 (by decide) (fun h45 => ?_) (fun h45 => ?_)
          · rw [if_neg h45] at hF
            refine lv_iinc (k := 3) (v := v4 + 1) S.1 S.2.1 d_D_hops_50 hl rfl rfl (by decide) rfl (fun ls hl => ?_)
            have hl : lv_has ls 5 [(4, .int (v4 + 1)), (3, .int (st36 7 r36 2)), (0, .ref (ad (0, 0))), (2, .int v2)] := hl
            refine lv_goto (tgt := 16) S.1 S.2.1 d_D_hops_53 (by decide) ?_
            exact ih v2 (st36 7 r36 2) (v4 + 1) st36 _ _ _ hP hS (lv_sub hl [2, 3, 1, 0] rfl) hF
          · rw [if_pos h45] at hF
            refine lv_iconst (v := (-1)) S.1 S.2.1 d_D_hops_48 (by decide) ?_
            cases hF
            exact zr_iret S hret hlk hS d_D_hops_49 ⟨rfl, hP⟩
      · rw [if_pos h27] at hF
        refine lv_iload S.1 S.2.1 d_D_hops_30 (lv_at hl 3 rfl) ?_
        cases hF
        exact zr_iret S hret hlk hS d_D_hops_32 ⟨rfl, hP⟩

set_option maxHeartbeats 4000000 in
set_option maxRecDepth 1000000 in
theorem C_D_hops {dC : Nat → ClassId} {dI : Nat → Nat → Nat} {cI cZ cR cA : ClassId} {n : Nat} {ad : zK → Nat} {A : Nat → Prop} (hn : 2 ≤ n ∧ n ≤ 6) (hD : zD A (zKs n) ad) (l : Launch) (v1 : Int32) (v2 : Int32) (st : zS) (out : Int32 × zS) (hF : F_D_hops n v1 v2 st = some out) : zC zT (dC, dI) zcl (zty cI cZ cR cA) A l y_D_hops b_D_hops 5 (some .int) rm_D_hops [.ref (ad (0, 0)), .int v1, .int v2] (fun H => zV (dC, dI) zcl (zKs n) ad (zcE n cI cZ cR cA ad) st H) (fun o H => o = some (.int out.1) ∧ zV (dC, dI) zcl (zKs n) ad (zcE n cI cZ cR cA ad) out.2 H) := by
  refine zC_of (by decide) (Nat.le_of_ble_eq_true rfl) (fun p e s m args below meth c ls S hret hlk hK hP hl => ?_)
  have hS : va_S A s.heap s.heap [] := va_S.rf
  have hl : lv_has ls 5 [(0, .ref (ad (0, 0))), (1, .int v1), (2, .int v2)] := hl
  have hP : zV (dC, dI) zcl (zKs n) ad (zcE n cI cZ cR cA ad) st s.heap := hP
  unfold F_D_hops at hF
  refine lv_aload_n S.1 S.2.1 d_D_hops_0 rfl (lv_at hl 0 rfl) ?_
  refine lv_iload_n S.1 S.2.1 d_D_hops_1 rfl (lv_at hl 1 rfl) ?_
  refine lv_iload_n S.1 S.2.1 d_D_hops_2 rfl (lv_at hl 2 rfl) ?_
  cases hc3 : F_D_isRoute n v1 v2 st with
  | none => rw [hc3] at hF; cases hF
  | some u3 =>
    obtain ⟨r3, st3⟩ := u3
    rw [hc3] at hF
    replace hF := zbind hF
    refine zr_callV (rest := []) S zT_good (C_D_isRoute hn hD l v1 v2 st (r3, st3) hc3) zn_D_isRoute zx_87 ⟨rfl, rfl⟩ ⟨Nat.le_of_ble_eq_true rfl, Nat.le_of_ble_eq_true rfl⟩ ⟨Nat.zero_le _, Nat.zero_le _⟩ hK (zr_recv hK hP zk_0 rfl rfl) hP hl.1 (Nat.le_of_ble_eq_true rfl) hS (fun _ h => h) d_D_hops_3 rfl (fun o H locs hpo _ _ hS => ?_)
    obtain ⟨rfl, hP⟩ := hpo
    refine W.eq (g2 := F0 m 6 ls [.int r3]) rfl ?_
    replace hF : F_D_hops_s1 n v1 v2 r3 st3 = some out := hF
    replace hP : zV (dC, dI) zcl (zKs n) ad (zcE n cI cZ cR cA ad) st3 H := hP
    unfold F_D_hops_s1 at hF
    refine lv_if_ne (tgt := 11) S.1 S.2.1 d_D_hops_6 (by decide) (fun h6 => ?_) (fun h6 => ?_)
    · rw [if_neg h6] at hF
      refine lv_iload_n S.1 S.2.1 d_D_hops_11 rfl (lv_at hl 1 rfl) ?_
      refine lv_istore_n S.1 S.2.1 d_D_hops_12 rfl hl (by decide) rfl (fun ls hl => ?_)
      have hl : lv_has ls 5 [(3, .int v1), (0, .ref (ad (0, 0))), (1, .int v1), (2, .int v2)] := hl
      refine lv_iconst (v := 0) S.1 S.2.1 d_D_hops_13 (by decide) ?_
      refine lv_istore S.1 S.2.1 d_D_hops_14 hl (by decide) rfl (fun ls hl => ?_)
      have hl : lv_has ls 5 [(4, .int 0), (3, .int v1), (0, .ref (ad (0, 0))), (1, .int v1), (2, .int v2)] := hl
      exact T_D_hops_L16 hn hD S hret hlk hK out zFuel v2 v1 0 st3 _ _ _ hP hS (lv_sub hl [2, 4, 1, 0] rfl) hF
    · rw [if_pos h6] at hF
      refine lv_iconst (v := (-1)) S.1 S.2.1 d_D_hops_9 (by decide) ?_
      cases hF
      exact zr_iret S hret hlk hS d_D_hops_10 ⟨rfl, hP⟩

theorem d_D_countBusy_0 : decode b_D_countBusy 0 = .ok (.iconst 0, 1) := by decide +kernel
theorem d_D_countBusy_1 : decode b_D_countBusy 1 = .ok (.istore_n 1, 1) := by decide +kernel
theorem d_D_countBusy_2 : decode b_D_countBusy 2 = .ok (.aload_n 0, 1) := by decide +kernel
theorem d_D_countBusy_3 : decode b_D_countBusy 3 = .ok (.getfield 29, 3) := by decide +kernel
theorem d_D_countBusy_6 : decode b_D_countBusy 6 = .ok (.astore_n 2, 1) := by decide +kernel
theorem d_D_countBusy_7 : decode b_D_countBusy 7 = .ok (.aload_n 2, 1) := by decide +kernel
theorem d_D_countBusy_8 : decode b_D_countBusy 8 = .ok (.arraylength, 1) := by decide +kernel
theorem d_D_countBusy_9 : decode b_D_countBusy 9 = .ok (.istore_n 3, 1) := by decide +kernel
theorem d_D_countBusy_10 : decode b_D_countBusy 10 = .ok (.iconst 0, 1) := by decide +kernel
theorem d_D_countBusy_11 : decode b_D_countBusy 11 = .ok (.istore 4, 2) := by decide +kernel
theorem d_D_countBusy_13 : decode b_D_countBusy 13 = .ok (.iload 4, 2) := by decide +kernel
theorem d_D_countBusy_15 : decode b_D_countBusy 15 = .ok (.iload_n 3, 1) := by decide +kernel
theorem d_D_countBusy_16 : decode b_D_countBusy 16 = .ok (.if_icmp .ge 26, 3) := by decide +kernel
theorem d_D_countBusy_19 : decode b_D_countBusy 19 = .ok (.aload_n 2, 1) := by decide +kernel
theorem d_D_countBusy_20 : decode b_D_countBusy 20 = .ok (.iload 4, 2) := by decide +kernel
theorem d_D_countBusy_22 : decode b_D_countBusy 22 = .ok (.aaload, 1) := by decide +kernel
theorem d_D_countBusy_23 : decode b_D_countBusy 23 = .ok (.astore 5, 2) := by decide +kernel
theorem d_D_countBusy_25 : decode b_D_countBusy 25 = .ok (.aload 5, 2) := by decide +kernel
theorem d_D_countBusy_27 : decode b_D_countBusy 27 = .ok (.getfield 98, 3) := by decide +kernel
theorem d_D_countBusy_30 : decode b_D_countBusy 30 = .ok (.ifCond .eq 6, 3) := by decide +kernel
theorem d_D_countBusy_33 : decode b_D_countBusy 33 = .ok (.iinc 1 1, 3) := by decide +kernel
theorem d_D_countBusy_36 : decode b_D_countBusy 36 = .ok (.iinc 4 1, 3) := by decide +kernel
theorem d_D_countBusy_39 : decode b_D_countBusy 39 = .ok (.goto (-26), 3) := by decide +kernel
theorem d_D_countBusy_42 : decode b_D_countBusy 42 = .ok (.iload_n 1, 1) := by decide +kernel
theorem d_D_countBusy_43 : decode b_D_countBusy 43 = .ok (.ireturn, 1) := by decide +kernel
def F_D_countBusy_L36 (n : Nat) (c13 : Int32 → Int32 → Int32 → zS → Option (Int32 × zS)) (v1 : Int32) (v3 : Int32) (v4 : Int32) (st : zS) : Option (Int32 × zS) :=
    c13 v1 v3 (v4 + 1) st

def F_D_countBusy_L13 (n : Nat) : Nat → Int32 → Int32 → Int32 → zS → Option (Int32 × zS)
  | 0, _, _, _, _ => none
  | f + 1, v1, v3, v4, st =>
    if v3 ≤ v4 then (some (v1, st)) else (if zOut v4 (n * n) then none else if (st 7 (6 * ((Int32.toNatClampNeg v4) / n) + (Int32.toNatClampNeg v4) % n) 3) = 0 then (F_D_countBusy_L36 n (F_D_countBusy_L13 n f) v1 v3 v4 st) else (F_D_countBusy_L36 n (F_D_countBusy_L13 n f) (v1 + 1) v3 v4 st))

def F_D_countBusy (n : Nat) (st : zS) : Option (Int32 × zS) :=
    F_D_countBusy_L13 n zFuel 0 (nI (n * n)) 0 st

set_option maxHeartbeats 4000000 in
set_option maxRecDepth 1000000 in
theorem T_D_countBusy_L36 {dC : Nat → ClassId} {dI : Nat → Nat → Nat} {cI cZ cR cA : ClassId} {n : Nat} {ad : zK → Nat} {A : Nat → Prop} (hn : 2 ≤ n ∧ n ≤ 6) (hD : zD A (zKs n) ad) {p : Program} {l : Launch} {e : Env} {s : State} {m : MethodId} {args : Array Value} {below : List Frame} {meth : Method} {c : Code} (S : CallFix p m c b_D_countBusy 6 s args zT N_D) (hret : meth.sig.returnType = some .int) (hlk : meth.locks = false) (hK : va_K (dC, dI) zcl (zty cI cZ cR cA) s) (out : Int32 × zS) (c13 : Int32 → Int32 → Int32 → zS → Option (Int32 × zS)) (hc13 : ∀ (v1 : Int32) (v3 : Int32) (v4 : Int32) (st : zS) (H : Heap) (locs : List Loc) (ls : Array Slot), zV (dC, dI) zcl (zKs n) ad (zcE n cI cZ cR cA ad) st H → va_S A s.heap H locs → lv_has ls 6 [(1, .int v1), (2, .ref (ad (2, 0))), (3, .int v3), (4, .int v4)] → c13 v1 v3 v4 st = some out → W p l e rm_D_countBusy s m args below meth c H locs 0 0 (zQ below A (fun o H => o = some (.int out.1) ∧ zV (dC, dI) zcl (zKs n) ad (zcE n cI cZ cR cA ad) out.2 H) args s) (F0 m 13 ls [])) (v1 : Int32) (v3 : Int32) (v4 : Int32) (st : zS) (H : Heap) (locs : List Loc) (ls : Array Slot) (hP : zV (dC, dI) zcl (zKs n) ad (zcE n cI cZ cR cA ad) st H) (hS : va_S A s.heap H locs) (hl : lv_has ls 6 [(1, .int v1), (2, .ref (ad (2, 0))), (3, .int v3), (4, .int v4)]) (hF : F_D_countBusy_L36 n c13 v1 v3 v4 st = some out) : W p l e rm_D_countBusy s m args below meth c H locs 0 0 (zQ below A (fun o H => o = some (.int out.1) ∧ zV (dC, dI) zcl (zKs n) ad (zcE n cI cZ cR cA ad) out.2 H) args s) (F0 m 36 ls []) := by
  unfold F_D_countBusy_L36 at hF
  refine lv_iinc (k := 3) (v := v4 + 1) S.1 S.2.1 d_D_countBusy_36 hl rfl rfl (by decide) rfl (fun ls hl => ?_)
  have hl : lv_has ls 6 [(4, .int (v4 + 1)), (1, .int v1), (2, .ref (ad (2, 0))), (3, .int v3)] := hl
  refine lv_goto (tgt := 13) S.1 S.2.1 d_D_countBusy_39 (by decide) ?_
  exact hc13 v1 v3 (v4 + 1) st _ _ _ hP hS (lv_sub hl [1, 2, 3, 0] rfl) hF

set_option maxHeartbeats 4000000 in
set_option maxRecDepth 1000000 in
theorem T_D_countBusy_L13 {dC : Nat → ClassId} {dI : Nat → Nat → Nat} {cI cZ cR cA : ClassId} {n : Nat} {ad : zK → Nat} {A : Nat → Prop} (hn : 2 ≤ n ∧ n ≤ 6) (hD : zD A (zKs n) ad) {p : Program} {l : Launch} {e : Env} {s : State} {m : MethodId} {args : Array Value} {below : List Frame} {meth : Method} {c : Code} (S : CallFix p m c b_D_countBusy 6 s args zT N_D) (hret : meth.sig.returnType = some .int) (hlk : meth.locks = false) (hK : va_K (dC, dI) zcl (zty cI cZ cR cA) s) (out : Int32 × zS) : ∀ (fu : Nat) (v1 : Int32) (v3 : Int32) (v4 : Int32) (st : zS) (H : Heap) (locs : List Loc) (ls : Array Slot) (hP : zV (dC, dI) zcl (zKs n) ad (zcE n cI cZ cR cA ad) st H) (hS : va_S A s.heap H locs) (hl : lv_has ls 6 [(1, .int v1), (2, .ref (ad (2, 0))), (3, .int v3), (4, .int v4)]) (hF : F_D_countBusy_L13 n fu v1 v3 v4 st = some out), W p l e rm_D_countBusy s m args below meth c H locs 0 0 (zQ below A (fun o H => o = some (.int out.1) ∧ zV (dC, dI) zcl (zKs n) ad (zcE n cI cZ cR cA ad) out.2 H) args s) (F0 m 13 ls []) := by
  intro fu
  induction fu with
  | zero => intro v1 v3 v4 st H locs ls hP hS hl hF; rw [F_D_countBusy_L13] at hF; cases hF
  | succ f ih =>
    intro v1 v3 v4 st H locs ls hP hS hl hF
    rw [F_D_countBusy_L13] at hF
    refine lv_iload S.1 S.2.1 d_D_countBusy_13 (lv_at hl 3 rfl) ?_
    refine lv_iload_n S.1 S.2.1 d_D_countBusy_15 rfl (lv_at hl 2 rfl) ?_
    refine lv_icmp_ge (tgt := 42) S.1 S.2.1 d_D_countBusy_16 (by decide) (fun h16 => ?_) (fun h16 => ?_)
    · rw [if_pos h16] at hF
      refine lv_iload_n S.1 S.2.1 d_D_countBusy_42 rfl (lv_at hl 0 rfl) ?_
      cases hF
      exact zr_iret S hret hlk hS d_D_countBusy_43 ⟨rfl, hP⟩
    · rw [if_neg h16] at hF
      refine lv_aload_n S.1 S.2.1 d_D_countBusy_19 rfl (lv_at hl 1 rfl) ?_
      refine lv_iload S.1 S.2.1 d_D_countBusy_20 (lv_at hl 3 rfl) ?_
      by_cases g22 : zOut v4 (n * n)
      · rw [if_pos g22] at hF; cases hF
      rw [if_neg g22] at hF
      refine zr_aald (b := ad (7, 6 * ((Int32.toNatClampNeg v4) / n) + (Int32.toNatClampNeg v4) % n)) S hK hP zk_2 rfl 2 rfl rfl g22 rfl d_D_countBusy_22 ?_
      refine lv_astore S.1 S.2.1 d_D_countBusy_23 hl (by decide) rfl (fun ls hl => ?_)
      have hl : lv_has ls 6 [(5, .ref (ad (7, 6 * ((Int32.toNatClampNeg v4) / n) + (Int32.toNatClampNeg v4) % n))), (1, .int v1), (2, .ref (ad (2, 0))), (3, .int v3), (4, .int v4)] := hl
      refine lv_aload S.1 S.2.1 d_D_countBusy_25 (lv_at hl 0 rfl) ?_
      refine zr_get (v := .int (st 7 (6 * ((Int32.toNatClampNeg v4) / n) + (Int32.toNatClampNeg v4) % n) 3)) S zi_R hK hP (zk_7 hn g22) rfl rfl 8 (by decide) zx_17 rfl d_D_countBusy_27 ?_
      refine lv_if_eq (tgt := 36) S.1 S.2.1 d_D_countBusy_30 (by decide) (fun h30 => ?_) (fun h30 => ?_)
      · rw [if_pos h30] at hF
        exact T_D_countBusy_L36 hn hD S hret hlk hK out (F_D_countBusy_L13 n f) ih v1 v3 v4 st _ _ _ hP hS (lv_sub hl [1, 2, 3, 4] rfl) hF
      · rw [if_neg h30] at hF
        refine lv_iinc (k := 1) (v := v1 + 1) S.1 S.2.1 d_D_countBusy_33 hl rfl rfl (by decide) rfl (fun ls hl => ?_)
        have hl : lv_has ls 6 [(1, .int (v1 + 1)), (5, .ref (ad (7, 6 * ((Int32.toNatClampNeg v4) / n) + (Int32.toNatClampNeg v4) % n))), (2, .ref (ad (2, 0))), (3, .int v3), (4, .int v4)] := hl
        exact T_D_countBusy_L36 hn hD S hret hlk hK out (F_D_countBusy_L13 n f) ih (v1 + 1) v3 v4 st _ _ _ hP hS (lv_sub hl [0, 2, 3, 4] rfl) hF

set_option maxHeartbeats 4000000 in
set_option maxRecDepth 1000000 in
theorem C_D_countBusy {dC : Nat → ClassId} {dI : Nat → Nat → Nat} {cI cZ cR cA : ClassId} {n : Nat} {ad : zK → Nat} {A : Nat → Prop} (hn : 2 ≤ n ∧ n ≤ 6) (hD : zD A (zKs n) ad) (l : Launch) (st : zS) (out : Int32 × zS) (hF : F_D_countBusy n st = some out) : zC zT (dC, dI) zcl (zty cI cZ cR cA) A l y_D_countBusy b_D_countBusy 6 (some .int) rm_D_countBusy [.ref (ad (0, 0))] (fun H => zV (dC, dI) zcl (zKs n) ad (zcE n cI cZ cR cA ad) st H) (fun o H => o = some (.int out.1) ∧ zV (dC, dI) zcl (zKs n) ad (zcE n cI cZ cR cA ad) out.2 H) := by
  refine zC_of (by decide) (Nat.le_of_ble_eq_true rfl) (fun p e s m args below meth c ls S hret hlk hK hP hl => ?_)
  have hS : va_S A s.heap s.heap [] := va_S.rf
  have hl : lv_has ls 6 [(0, .ref (ad (0, 0)))] := hl
  have hP : zV (dC, dI) zcl (zKs n) ad (zcE n cI cZ cR cA ad) st s.heap := hP
  unfold F_D_countBusy at hF
  refine lv_iconst (v := 0) S.1 S.2.1 d_D_countBusy_0 (by decide) ?_
  refine lv_istore_n S.1 S.2.1 d_D_countBusy_1 rfl hl (by decide) rfl (fun ls hl => ?_)
  have hl : lv_has ls 6 [(1, .int 0), (0, .ref (ad (0, 0)))] := hl
  refine lv_aload_n S.1 S.2.1 d_D_countBusy_2 rfl (lv_at hl 1 rfl) ?_
  refine zr_get (v := .ref (ad (2, 0))) S zi_D hK hP zk_0 rfl rfl 2 (by decide) zx_10 rfl d_D_countBusy_3 ?_
  refine lv_astore_n S.1 S.2.1 d_D_countBusy_6 rfl hl (by decide) rfl (fun ls hl => ?_)
  have hl : lv_has ls 6 [(2, .ref (ad (2, 0))), (1, .int 0), (0, .ref (ad (0, 0)))] := hl
  refine lv_aload_n S.1 S.2.1 d_D_countBusy_7 rfl (lv_at hl 0 rfl) ?_
  refine zr_alen (n := n * n) S hK hP zk_2 rfl 2 rfl rfl d_D_countBusy_8 ?_
  refine lv_istore_n S.1 S.2.1 d_D_countBusy_9 rfl hl (by decide) rfl (fun ls hl => ?_)
  have hl : lv_has ls 6 [(3, .int (nI (n * n))), (2, .ref (ad (2, 0))), (1, .int 0), (0, .ref (ad (0, 0)))] := hl
  refine lv_iconst (v := 0) S.1 S.2.1 d_D_countBusy_10 (by decide) ?_
  refine lv_istore S.1 S.2.1 d_D_countBusy_11 hl (by decide) rfl (fun ls hl => ?_)
  have hl : lv_has ls 6 [(4, .int 0), (3, .int (nI (n * n))), (2, .ref (ad (2, 0))), (1, .int 0), (0, .ref (ad (0, 0)))] := hl
  exact T_D_countBusy_L13 hn hD S hret hlk hK out zFuel 0 (nI (n * n)) 0 st _ _ _ hP hS (lv_sub hl [3, 2, 1, 0] rfl) hF

theorem d_D_total_0 : decode b_D_total 0 = .ok (.iload_n 1, 1) := by decide +kernel
theorem d_D_total_1 : decode b_D_total 1 = .ok (.tableswitch 67 0 5 #[39, 39, 39, 49, 57, 62], 39) := by decide +kernel
theorem d_D_total_40 : decode b_D_total 40 = .ok (.aload_n 0, 1) := by decide +kernel
theorem d_D_total_41 : decode b_D_total 41 = .ok (.getfield 39, 3) := by decide +kernel
theorem d_D_total_44 : decode b_D_total 44 = .ok (.getfield 131, 3) := by decide +kernel
theorem d_D_total_47 : decode b_D_total 47 = .ok (.iload_n 1, 1) := by decide +kernel
theorem d_D_total_48 : decode b_D_total 48 = .ok (.iaload, 1) := by decide +kernel
theorem d_D_total_49 : decode b_D_total 49 = .ok (.ireturn, 1) := by decide +kernel
theorem d_D_total_50 : decode b_D_total 50 = .ok (.aload_n 0, 1) := by decide +kernel
theorem d_D_total_51 : decode b_D_total 51 = .ok (.getfield 39, 3) := by decide +kernel
theorem d_D_total_54 : decode b_D_total 54 = .ok (.invokevirtual 47, 3) := by decide +kernel
theorem d_D_total_57 : decode b_D_total 57 = .ok (.ireturn, 1) := by decide +kernel
theorem d_D_total_58 : decode b_D_total 58 = .ok (.aload_n 0, 1) := by decide +kernel
theorem d_D_total_59 : decode b_D_total 59 = .ok (.invokevirtual 134, 3) := by decide +kernel
theorem d_D_total_62 : decode b_D_total 62 = .ok (.ireturn, 1) := by decide +kernel
theorem d_D_total_63 : decode b_D_total 63 = .ok (.aload_n 0, 1) := by decide +kernel
theorem d_D_total_64 : decode b_D_total 64 = .ok (.getfield 51, 3) := by decide +kernel
theorem d_D_total_67 : decode b_D_total 67 = .ok (.ireturn, 1) := by decide +kernel
theorem d_D_total_68 : decode b_D_total 68 = .ok (.iconst (-1), 1) := by decide +kernel
theorem d_D_total_69 : decode b_D_total 69 = .ok (.ireturn, 1) := by decide +kernel
def F_D_total_s1 (n : Nat) (t0 : Int32) (st : zS) : Option (Int32 × zS) :=
    some (t0, st)

def F_D_total_s2 (n : Nat) (t0 : Int32) (st : zS) : Option (Int32 × zS) :=
    some (t0, st)

def F_D_total (n : Nat) (v1 : Int32) (st : zS) : Option (Int32 × zS) :=
    if v1 = 0 then (if zOut v1 3 then none else some (st 5 0 (Int32.toNatClampNeg v1), st)) else if v1 = 1 then (if zOut v1 3 then none else some (st 5 0 (Int32.toNatClampNeg v1), st)) else if v1 = 2 then (if zOut v1 3 then none else some (st 5 0 (Int32.toNatClampNeg v1), st)) else if v1 = 3 then ((F_L_size n st).bind (fun u => F_D_total_s1 n u.1 u.2)) else if v1 = 4 then ((F_D_countBusy n st).bind (fun u => F_D_total_s2 n u.1 u.2)) else if v1 = 5 then (some (st 0 0 0, st)) else (some ((-1), st))

set_option maxHeartbeats 4000000 in
set_option maxRecDepth 1000000 in
theorem C_D_total {dC : Nat → ClassId} {dI : Nat → Nat → Nat} {cI cZ cR cA : ClassId} {n : Nat} {ad : zK → Nat} {A : Nat → Prop} (hn : 2 ≤ n ∧ n ≤ 6) (hD : zD A (zKs n) ad) (l : Launch) (v1 : Int32) (st : zS) (out : Int32 × zS) (hF : F_D_total n v1 st = some out) : zC zT (dC, dI) zcl (zty cI cZ cR cA) A l y_D_total b_D_total 2 (some .int) rm_D_total [.ref (ad (0, 0)), .int v1] (fun H => zV (dC, dI) zcl (zKs n) ad (zcE n cI cZ cR cA ad) st H) (fun o H => o = some (.int out.1) ∧ zV (dC, dI) zcl (zKs n) ad (zcE n cI cZ cR cA ad) out.2 H) := by
  refine zC_of (by decide) (Nat.le_of_ble_eq_true rfl) (fun p e s m args below meth c ls S hret hlk hK hP hl => ?_)
  have hS : va_S A s.heap s.heap [] := va_S.rf
  have hl : lv_has ls 2 [(0, .ref (ad (0, 0))), (1, .int v1)] := hl
  have hP : zV (dC, dI) zcl (zKs n) ad (zcE n cI cZ cR cA ad) st s.heap := hP
  unfold F_D_total at hF
  refine lv_iload_n S.1 S.2.1 d_D_total_0 rfl (lv_at hl 1 rfl) ?_
  by_cases h1_0 : v1 = 0
  · rw [if_pos h1_0] at hF
    refine lv_tableIn (tgt := 40) (off := 39) S.1 S.2.1 d_D_total_1 (by rw [h1_0]; decide) (by rw [h1_0]; decide) (by rw [h1_0]; rfl) (by decide) ?_
    refine lv_aload_n S.1 S.2.1 d_D_total_40 rfl (lv_at hl 0 rfl) ?_
    refine zr_get (v := .ref (ad (3, 0))) S zi_D hK hP zk_0 rfl rfl 3 (by decide) zx_11 rfl d_D_total_41 ?_
    refine zr_get (v := .ref (ad (5, 0))) S zi_L hK hP zk_3 rfl rfl 1 (by decide) zx_7 rfl d_D_total_44 ?_
    refine lv_iload_n S.1 S.2.1 d_D_total_47 rfl (lv_at hl 1 rfl) ?_
    by_cases g48 : zOut v1 3
    · rw [if_pos g48] at hF; cases hF
    rw [if_neg g48] at hF
    refine zr_iald S hK hP zk_5 rfl 0 rfl g48 d_D_total_48 ?_
    cases hF
    exact zr_iret S hret hlk hS d_D_total_49 ⟨rfl, hP⟩
  rw [if_neg h1_0] at hF
  by_cases h1_1 : v1 = 1
  · rw [if_pos h1_1] at hF
    refine lv_tableIn (tgt := 40) (off := 39) S.1 S.2.1 d_D_total_1 (by rw [h1_1]; decide) (by rw [h1_1]; decide) (by rw [h1_1]; rfl) (by decide) ?_
    refine lv_aload_n S.1 S.2.1 d_D_total_40 rfl (lv_at hl 0 rfl) ?_
    refine zr_get (v := .ref (ad (3, 0))) S zi_D hK hP zk_0 rfl rfl 3 (by decide) zx_11 rfl d_D_total_41 ?_
    refine zr_get (v := .ref (ad (5, 0))) S zi_L hK hP zk_3 rfl rfl 1 (by decide) zx_7 rfl d_D_total_44 ?_
    refine lv_iload_n S.1 S.2.1 d_D_total_47 rfl (lv_at hl 1 rfl) ?_
    by_cases g48 : zOut v1 3
    · rw [if_pos g48] at hF; cases hF
    rw [if_neg g48] at hF
    refine zr_iald S hK hP zk_5 rfl 0 rfl g48 d_D_total_48 ?_
    cases hF
    exact zr_iret S hret hlk hS d_D_total_49 ⟨rfl, hP⟩
  rw [if_neg h1_1] at hF
  by_cases h1_2 : v1 = 2
  · rw [if_pos h1_2] at hF
    refine lv_tableIn (tgt := 40) (off := 39) S.1 S.2.1 d_D_total_1 (by rw [h1_2]; decide) (by rw [h1_2]; decide) (by rw [h1_2]; rfl) (by decide) ?_
    refine lv_aload_n S.1 S.2.1 d_D_total_40 rfl (lv_at hl 0 rfl) ?_
    refine zr_get (v := .ref (ad (3, 0))) S zi_D hK hP zk_0 rfl rfl 3 (by decide) zx_11 rfl d_D_total_41 ?_
    refine zr_get (v := .ref (ad (5, 0))) S zi_L hK hP zk_3 rfl rfl 1 (by decide) zx_7 rfl d_D_total_44 ?_
    refine lv_iload_n S.1 S.2.1 d_D_total_47 rfl (lv_at hl 1 rfl) ?_
    by_cases g48 : zOut v1 3
    · rw [if_pos g48] at hF; cases hF
    rw [if_neg g48] at hF
    refine zr_iald S hK hP zk_5 rfl 0 rfl g48 d_D_total_48 ?_
    cases hF
    exact zr_iret S hret hlk hS d_D_total_49 ⟨rfl, hP⟩
  rw [if_neg h1_2] at hF
  by_cases h1_3 : v1 = 3
  · rw [if_pos h1_3] at hF
    refine lv_tableIn (tgt := 50) (off := 49) S.1 S.2.1 d_D_total_1 (by rw [h1_3]; decide) (by rw [h1_3]; decide) (by rw [h1_3]; rfl) (by decide) ?_
    refine lv_aload_n S.1 S.2.1 d_D_total_50 rfl (lv_at hl 0 rfl) ?_
    refine zr_get (v := .ref (ad (3, 0))) S zi_D hK hP zk_0 rfl rfl 3 (by decide) zx_11 rfl d_D_total_51 ?_
    cases hc54 : F_L_size n st with
    | none => rw [hc54] at hF; cases hF
    | some u54 =>
      obtain ⟨r54, st54⟩ := u54
      rw [hc54] at hF
      replace hF := zbind hF
      refine zr_callV (rest := []) S zT_good (C_L_size hn hD l st (r54, st54) hc54) zn_L_size zx_79 ⟨rfl, rfl⟩ ⟨Nat.le_of_ble_eq_true rfl, Nat.le_of_ble_eq_true rfl⟩ ⟨Nat.zero_le _, Nat.zero_le _⟩ hK (zr_recv hK hP zk_3 rfl rfl) hP hl.1 (Nat.le_of_ble_eq_true rfl) hS (fun _ h => h) d_D_total_54 rfl (fun o H locs hpo _ _ hS => ?_)
      obtain ⟨rfl, hP⟩ := hpo
      refine W.eq (g2 := F0 m 57 ls [.int r54]) rfl ?_
      replace hF : F_D_total_s1 n r54 st54 = some out := hF
      replace hP : zV (dC, dI) zcl (zKs n) ad (zcE n cI cZ cR cA ad) st54 H := hP
      unfold F_D_total_s1 at hF
      cases hF
      exact zr_iret S hret hlk hS d_D_total_57 ⟨rfl, hP⟩
  rw [if_neg h1_3] at hF
  by_cases h1_4 : v1 = 4
  · rw [if_pos h1_4] at hF
    refine lv_tableIn (tgt := 58) (off := 57) S.1 S.2.1 d_D_total_1 (by rw [h1_4]; decide) (by rw [h1_4]; decide) (by rw [h1_4]; rfl) (by decide) ?_
    refine lv_aload_n S.1 S.2.1 d_D_total_58 rfl (lv_at hl 0 rfl) ?_
    cases hc59 : F_D_countBusy n st with
    | none => rw [hc59] at hF; cases hF
    | some u59 =>
      obtain ⟨r59, st59⟩ := u59
      rw [hc59] at hF
      replace hF := zbind hF
      refine zr_callV (rest := []) S zT_good (C_D_countBusy hn hD l st (r59, st59) hc59) zn_D_countBusy zx_59 ⟨rfl, rfl⟩ ⟨Nat.le_of_ble_eq_true rfl, Nat.le_of_ble_eq_true rfl⟩ ⟨Nat.zero_le _, Nat.zero_le _⟩ hK (zr_recv hK hP zk_0 rfl rfl) hP hl.1 (Nat.le_of_ble_eq_true rfl) hS (fun _ h => h) d_D_total_59 rfl (fun o H locs hpo _ _ hS => ?_)
      obtain ⟨rfl, hP⟩ := hpo
      refine W.eq (g2 := F0 m 62 ls [.int r59]) rfl ?_
      replace hF : F_D_total_s2 n r59 st59 = some out := hF
      replace hP : zV (dC, dI) zcl (zKs n) ad (zcE n cI cZ cR cA ad) st59 H := hP
      unfold F_D_total_s2 at hF
      cases hF
      exact zr_iret S hret hlk hS d_D_total_62 ⟨rfl, hP⟩
  rw [if_neg h1_4] at hF
  by_cases h1_5 : v1 = 5
  · rw [if_pos h1_5] at hF
    refine lv_tableIn (tgt := 63) (off := 62) S.1 S.2.1 d_D_total_1 (by rw [h1_5]; decide) (by rw [h1_5]; decide) (by rw [h1_5]; rfl) (by decide) ?_
    refine lv_aload_n S.1 S.2.1 d_D_total_63 rfl (lv_at hl 0 rfl) ?_
    refine zr_get (v := .int (st 0 0 0)) S zi_D hK hP zk_0 rfl rfl 4 (by decide) zx_12 rfl d_D_total_64 ?_
    cases hF
    exact zr_iret S hret hlk hS d_D_total_67 ⟨rfl, hP⟩
  rw [if_neg h1_5] at hF
  refine lv_tableOut (tgt := 68) S.1 S.2.1 d_D_total_1 (zsw_5 h1_0 h1_1 h1_2 h1_3 h1_4 h1_5) (by decide) ?_
  refine lv_iconst (v := (-1)) S.1 S.2.1 d_D_total_68 (by decide) ?_
  cases hF
  exact zr_iret S hret hlk hS d_D_total_69 ⟨rfl, hP⟩
end
section
theorem d_D_bring_0 : decode b_D_bring 0 = .ok (.aload_n 0, 1) := by decide +kernel
theorem d_D_bring_1 : decode b_D_bring 1 = .ok (.getfield 39, 3) := by decide +kernel
theorem d_D_bring_4 : decode b_D_bring 4 = .ok (.iload_n 1, 1) := by decide +kernel
theorem d_D_bring_5 : decode b_D_bring 5 = .ok (.invokevirtual 160, 3) := by decide +kernel
theorem d_D_bring_8 : decode b_D_bring 8 = .ok (.istore_n 2, 1) := by decide +kernel
theorem d_D_bring_9 : decode b_D_bring 9 = .ok (.iload_n 2, 1) := by decide +kernel
theorem d_D_bring_10 : decode b_D_bring 10 = .ok (.invokestatic 163, 3) := by decide +kernel
theorem d_D_bring_13 : decode b_D_bring 13 = .ok (.istore_n 3, 1) := by decide +kernel
theorem d_D_bring_14 : decode b_D_bring 14 = .ok (.iload_n 2, 1) := by decide +kernel
theorem d_D_bring_15 : decode b_D_bring 15 = .ok (.invokestatic 122, 3) := by decide +kernel
theorem d_D_bring_18 : decode b_D_bring 18 = .ok (.istore 4, 2) := by decide +kernel
theorem d_D_bring_20 : decode b_D_bring 20 = .ok (.aload_n 0, 1) := by decide +kernel
theorem d_D_bring_21 : decode b_D_bring 21 = .ok (.iload_n 2, 1) := by decide +kernel
theorem d_D_bring_22 : decode b_D_bring 22 = .ok (.invokestatic 166, 3) := by decide +kernel
theorem d_D_bring_25 : decode b_D_bring 25 = .ok (.iload_n 2, 1) := by decide +kernel
theorem d_D_bring_26 : decode b_D_bring 26 = .ok (.invokestatic 125, 3) := by decide +kernel
theorem d_D_bring_29 : decode b_D_bring 29 = .ok (.invokevirtual 85, 3) := by decide +kernel
theorem d_D_bring_32 : decode b_D_bring 32 = .ok (.astore 5, 2) := by decide +kernel
theorem d_D_bring_34 : decode b_D_bring 34 = .ok (.aload 5, 2) := by decide +kernel
theorem d_D_bring_36 : decode b_D_bring 36 = .ok (.invokevirtual 141, 3) := by decide +kernel
theorem d_D_bring_39 : decode b_D_bring 39 = .ok (.ifCond .ne 26, 3) := by decide +kernel
theorem d_D_bring_42 : decode b_D_bring 42 = .ok (.aload 5, 2) := by decide +kernel
theorem d_D_bring_44 : decode b_D_bring 44 = .ok (.getfield 108, 3) := by decide +kernel
theorem d_D_bring_47 : decode b_D_bring 47 = .ok (.iload_n 3, 1) := by decide +kernel
theorem d_D_bring_48 : decode b_D_bring 48 = .ok (.iload_n 2, 1) := by decide +kernel
theorem d_D_bring_49 : decode b_D_bring 49 = .ok (.invokestatic 128, 3) := by decide +kernel
theorem d_D_bring_52 : decode b_D_bring 52 = .ok (.iastore, 1) := by decide +kernel
theorem d_D_bring_53 : decode b_D_bring 53 = .ok (.aload_n 0, 1) := by decide +kernel
theorem d_D_bring_54 : decode b_D_bring 54 = .ok (.aload 5, 2) := by decide +kernel
theorem d_D_bring_56 : decode b_D_bring 56 = .ok (.iload_n 3, 1) := by decide +kernel
theorem d_D_bring_57 : decode b_D_bring 57 = .ok (.iload 4, 2) := by decide +kernel
theorem d_D_bring_59 : decode b_D_bring 59 = .ok (.invokevirtual 169, 3) := by decide +kernel
theorem d_D_bring_62 : decode b_D_bring 62 = .ok (.goto 20, 3) := by decide +kernel
theorem d_D_bring_65 : decode b_D_bring 65 = .ok (.iload 4, 2) := by decide +kernel
theorem d_D_bring_67 : decode b_D_bring 67 = .ok (.iconst 1, 1) := by decide +kernel
theorem d_D_bring_68 : decode b_D_bring 68 = .ok (.if_icmp .ne 14, 3) := by decide +kernel
theorem d_D_bring_71 : decode b_D_bring 71 = .ok (.aload_n 0, 1) := by decide +kernel
theorem d_D_bring_72 : decode b_D_bring 72 = .ok (.getfield 39, 3) := by decide +kernel
theorem d_D_bring_75 : decode b_D_bring 75 = .ok (.aload 5, 2) := by decide +kernel
theorem d_D_bring_77 : decode b_D_bring 77 = .ok (.iload_n 3, 1) := by decide +kernel
theorem d_D_bring_78 : decode b_D_bring 78 = .ok (.iconst 2, 1) := by decide +kernel
theorem d_D_bring_79 : decode b_D_bring 79 = .ok (.invokevirtual 137, 3) := by decide +kernel
theorem d_D_bring_82 : decode b_D_bring 82 = .ok (.iload 4, 2) := by decide +kernel
theorem d_D_bring_84 : decode b_D_bring 84 = .ok (.ireturn, 1) := by decide +kernel
def F_D_bring_s8 (n : Nat) (v4 : Int32) (st : zS) : Option (Int32 × zS) :=
    some (v4, st)

def F_D_bring_s11 (n : Nat) (v4 : Int32) (st : zS) : Option (Int32 × zS) :=
    some (v4, st)

def F_D_bring_s10 (n : Nat) (k5 : Nat) (v4 : Int32) (v3 : Int32) (st : zS) : Option (Int32 × zS) :=
    (F_D_hear n k5 v3 v4 st).bind (fun u => F_D_bring_s11 n v4 u.2)

def F_D_bring_s9 (n : Nat) (k5 : Nat) (v4 : Int32) (v3 : Int32) (u0 : Nat) (t1 : Int32) (t2 : Int32) (st : zS) : Option (Int32 × zS) :=
    if zOut t1 n then none else F_D_bring_s10 n k5 v4 v3 (zs st 8 u0 (Int32.toNatClampNeg t1) t2)

def F_D_bring_s7 (n : Nat) (k5 : Nat) (v4 : Int32) (v3 : Int32) (v2 : Int32) (t0 : Int32) (st : zS) : Option (Int32 × zS) :=
    if t0 = 0 then ((F_L_distanceOf n v2 st).bind (fun u => F_D_bring_s9 n k5 v4 v3 k5 v3 u.1 u.2)) else (if v4 = 1 then ((F_L_send n k5 v3 2 st).bind (fun u => F_D_bring_s8 n v4 u.2)) else (some (v4, st)))

def F_D_bring_s6 (n : Nat) (v4 : Int32) (v3 : Int32) (v2 : Int32) (u0 : Nat) (st : zS) : Option (Int32 × zS) :=
    (F_R_isOwn n u0 st).bind (fun u => F_D_bring_s7 n u0 v4 v3 v2 u.1 u.2)

def F_D_bring_s5 (n : Nat) (v4 : Int32) (v3 : Int32) (v2 : Int32) (t1 : Int32) (t2 : Int32) (st : zS) : Option (Int32 × zS) :=
    (F_D_route n t1 t2 st).bind (fun u => F_D_bring_s6 n v4 v3 v2 u.1 u.2)

def F_D_bring_s4 (n : Nat) (v4 : Int32) (v3 : Int32) (v2 : Int32) (t1 : Int32) (st : zS) : Option (Int32 × zS) :=
    (F_L_targetOf n v2 st).bind (fun u => F_D_bring_s5 n v4 v3 v2 t1 u.1 u.2)

def F_D_bring_s3 (n : Nat) (v3 : Int32) (v2 : Int32) (t0 : Int32) (st : zS) : Option (Int32 × zS) :=
    (F_L_receiverOf n v2 st).bind (fun u => F_D_bring_s4 n t0 v3 v2 u.1 u.2)

def F_D_bring_s2 (n : Nat) (v2 : Int32) (t0 : Int32) (st : zS) : Option (Int32 × zS) :=
    (F_L_kindOf n v2 st).bind (fun u => F_D_bring_s3 n t0 v2 u.1 u.2)

def F_D_bring_s1 (n : Nat) (t0 : Int32) (st : zS) : Option (Int32 × zS) :=
    (F_L_senderOf n t0 st).bind (fun u => F_D_bring_s2 n t0 u.1 u.2)

def F_D_bring (n : Nat) (v1 : Int32) (st : zS) : Option (Int32 × zS) :=
    (F_L_take n v1 st).bind (fun u => F_D_bring_s1 n u.1 u.2)

set_option maxHeartbeats 4000000 in
set_option maxRecDepth 1000000 in
theorem C_D_bring {dC : Nat → ClassId} {dI : Nat → Nat → Nat} {cI cZ cR cA : ClassId} {n : Nat} {ad : zK → Nat} {A : Nat → Prop} (hn : 2 ≤ n ∧ n ≤ 6) (hD : zD A (zKs n) ad) (l : Launch) (v1 : Int32) (st : zS) (out : Int32 × zS) (hF : F_D_bring n v1 st = some out) : zC zT (dC, dI) zcl (zty cI cZ cR cA) A l y_D_bring b_D_bring 6 (some .int) rm_D_bring [.ref (ad (0, 0)), .int v1] (fun H => zV (dC, dI) zcl (zKs n) ad (zcE n cI cZ cR cA ad) st H) (fun o H => o = some (.int out.1) ∧ zV (dC, dI) zcl (zKs n) ad (zcE n cI cZ cR cA ad) out.2 H) := by
  refine zC_of (by decide) (Nat.le_of_ble_eq_true rfl) (fun p e s m args below meth c ls S hret hlk hK hP hl => ?_)
  have hS : va_S A s.heap s.heap [] := va_S.rf
  have hl : lv_has ls 6 [(0, .ref (ad (0, 0))), (1, .int v1)] := hl
  have hP : zV (dC, dI) zcl (zKs n) ad (zcE n cI cZ cR cA ad) st s.heap := hP
  unfold F_D_bring at hF
  refine lv_aload_n S.1 S.2.1 d_D_bring_0 rfl (lv_at hl 0 rfl) ?_
  refine zr_get (v := .ref (ad (3, 0))) S zi_D hK hP zk_0 rfl rfl 3 (by decide) zx_11 rfl d_D_bring_1 ?_
  refine lv_iload_n S.1 S.2.1 d_D_bring_4 rfl (lv_at hl 1 rfl) ?_
  cases hc5 : F_L_take n v1 st with
  | none => rw [hc5] at hF; cases hF
  | some u5 =>
    obtain ⟨r5, st5⟩ := u5
    rw [hc5] at hF
    replace hF := zbind hF
    refine zr_callV (rest := []) S zT_good (C_L_take hn hD l v1 st (r5, st5) hc5) zn_L_take zx_67 ⟨rfl, rfl⟩ ⟨Nat.le_of_ble_eq_true rfl, Nat.le_of_ble_eq_true rfl⟩ ⟨Nat.zero_le _, Nat.zero_le _⟩ hK (zr_recv hK hP zk_3 rfl rfl) hP hl.1 (Nat.le_of_ble_eq_true rfl) hS (fun _ h => h) d_D_bring_5 rfl (fun o H locs hpo _ _ hS => ?_)
    obtain ⟨rfl, hP⟩ := hpo
    refine W.eq (g2 := F0 m 8 ls [.int r5]) rfl ?_
    replace hF : F_D_bring_s1 n r5 st5 = some out := hF
    replace hP : zV (dC, dI) zcl (zKs n) ad (zcE n cI cZ cR cA ad) st5 H := hP
    unfold F_D_bring_s1 at hF
    refine lv_istore_n S.1 S.2.1 d_D_bring_8 rfl hl (by decide) rfl (fun ls hl => ?_)
    have hl : lv_has ls 6 [(2, .int r5), (0, .ref (ad (0, 0))), (1, .int v1)] := hl
    refine lv_iload_n S.1 S.2.1 d_D_bring_9 rfl (lv_at hl 0 rfl) ?_
    cases hc10 : F_L_senderOf n r5 st5 with
    | none => rw [hc10] at hF; cases hF
    | some u10 =>
      obtain ⟨r10, st10⟩ := u10
      rw [hc10] at hF
      replace hF := zbind hF
      refine zr_callS (rest := []) S zT_good (C_L_senderOf hn hD l r5 st5 (r10, st10) hc10) zn_L_senderOf zx_68 ⟨rfl, rfl⟩ ⟨Nat.le_of_ble_eq_true rfl, Nat.le_of_ble_eq_true rfl⟩ ⟨Nat.zero_le _, Nat.zero_le _⟩ hK hP hl.1 (Nat.le_of_ble_eq_true rfl) hS (fun _ h => h) d_D_bring_10 rfl (fun o H locs hpo _ _ hS => ?_)
      obtain ⟨rfl, hP⟩ := hpo
      refine W.eq (g2 := F0 m 13 ls [.int r10]) rfl ?_
      replace hF : F_D_bring_s2 n r5 r10 st10 = some out := hF
      replace hP : zV (dC, dI) zcl (zKs n) ad (zcE n cI cZ cR cA ad) st10 H := hP
      unfold F_D_bring_s2 at hF
      refine lv_istore_n S.1 S.2.1 d_D_bring_13 rfl hl (by decide) rfl (fun ls hl => ?_)
      have hl : lv_has ls 6 [(3, .int r10), (2, .int r5), (0, .ref (ad (0, 0))), (1, .int v1)] := hl
      refine lv_iload_n S.1 S.2.1 d_D_bring_14 rfl (lv_at hl 1 rfl) ?_
      cases hc15 : F_L_kindOf n r5 st10 with
      | none => rw [hc15] at hF; cases hF
      | some u15 =>
        obtain ⟨r15, st15⟩ := u15
        rw [hc15] at hF
        replace hF := zbind hF
        refine zr_callS (rest := []) S zT_good (C_L_kindOf hn hD l r5 st10 (r15, st15) hc15) zn_L_kindOf zx_56 ⟨rfl, rfl⟩ ⟨Nat.le_of_ble_eq_true rfl, Nat.le_of_ble_eq_true rfl⟩ ⟨Nat.zero_le _, Nat.zero_le _⟩ hK hP hl.1 (Nat.le_of_ble_eq_true rfl) hS (fun _ h => h) d_D_bring_15 rfl (fun o H locs hpo _ _ hS => ?_)
        obtain ⟨rfl, hP⟩ := hpo
        refine W.eq (g2 := F0 m 18 ls [.int r15]) rfl ?_
        replace hF : F_D_bring_s3 n r10 r5 r15 st15 = some out := hF
        replace hP : zV (dC, dI) zcl (zKs n) ad (zcE n cI cZ cR cA ad) st15 H := hP
        unfold F_D_bring_s3 at hF
        refine lv_istore S.1 S.2.1 d_D_bring_18 hl (by decide) rfl (fun ls hl => ?_)
        have hl : lv_has ls 6 [(4, .int r15), (3, .int r10), (2, .int r5), (0, .ref (ad (0, 0))), (1, .int v1)] := hl
        refine lv_aload_n S.1 S.2.1 d_D_bring_20 rfl (lv_at hl 3 rfl) ?_
        refine lv_iload_n S.1 S.2.1 d_D_bring_21 rfl (lv_at hl 2 rfl) ?_
        cases hc22 : F_L_receiverOf n r5 st15 with
        | none => rw [hc22] at hF; cases hF
        | some u22 =>
          obtain ⟨r22, st22⟩ := u22
          rw [hc22] at hF
          replace hF := zbind hF
          refine zr_callS (rest := [.ref (ad (0, 0))]) S zT_good (C_L_receiverOf hn hD l r5 st15 (r22, st22) hc22) zn_L_receiverOf zx_69 ⟨rfl, rfl⟩ ⟨Nat.le_of_ble_eq_true rfl, Nat.le_of_ble_eq_true rfl⟩ ⟨Nat.zero_le _, Nat.zero_le _⟩ hK hP hl.1 (Nat.le_of_ble_eq_true rfl) hS (fun _ h => h) d_D_bring_22 rfl (fun o H locs hpo _ _ hS => ?_)
          obtain ⟨rfl, hP⟩ := hpo
          refine W.eq (g2 := F0 m 25 ls [.int r22, .ref (ad (0, 0))]) rfl ?_
          replace hF : F_D_bring_s4 n r15 r10 r5 r22 st22 = some out := hF
          replace hP : zV (dC, dI) zcl (zKs n) ad (zcE n cI cZ cR cA ad) st22 H := hP
          unfold F_D_bring_s4 at hF
          refine lv_iload_n S.1 S.2.1 d_D_bring_25 rfl (lv_at hl 2 rfl) ?_
          cases hc26 : F_L_targetOf n r5 st22 with
          | none => rw [hc26] at hF; cases hF
          | some u26 =>
            obtain ⟨r26, st26⟩ := u26
            rw [hc26] at hF
            replace hF := zbind hF
            refine zr_callS (rest := [.int r22, .ref (ad (0, 0))]) S zT_good (C_L_targetOf hn hD l r5 st22 (r26, st26) hc26) zn_L_targetOf zx_57 ⟨rfl, rfl⟩ ⟨Nat.le_of_ble_eq_true rfl, Nat.le_of_ble_eq_true rfl⟩ ⟨Nat.zero_le _, Nat.zero_le _⟩ hK hP hl.1 (Nat.le_of_ble_eq_true rfl) hS (fun _ h => h) d_D_bring_26 rfl (fun o H locs hpo _ _ hS => ?_)
            obtain ⟨rfl, hP⟩ := hpo
            refine W.eq (g2 := F0 m 29 ls [.int r26, .int r22, .ref (ad (0, 0))]) rfl ?_
            replace hF : F_D_bring_s5 n r15 r10 r5 r22 r26 st26 = some out := hF
            replace hP : zV (dC, dI) zcl (zKs n) ad (zcE n cI cZ cR cA ad) st26 H := hP
            unfold F_D_bring_s5 at hF
            cases hc29 : F_D_route n r22 r26 st26 with
            | none => rw [hc29] at hF; cases hF
            | some u29 =>
              obtain ⟨r29, st29⟩ := u29
              rw [hc29] at hF
              replace hF := zbind hF
              refine zr_callV (rest := []) S zT_good (C_D_route hn hD l r22 r26 st26 (r29, st29) hc29) zn_D_route zx_88 ⟨rfl, rfl⟩ ⟨Nat.le_of_ble_eq_true rfl, Nat.le_of_ble_eq_true rfl⟩ ⟨Nat.zero_le _, Nat.zero_le _⟩ hK (zr_recv hK hP zk_0 rfl rfl) hP hl.1 (Nat.le_of_ble_eq_true rfl) hS (fun _ h => h) d_D_bring_29 rfl (fun o H locs hpo _ _ hS => ?_)
              obtain ⟨rfl, hP⟩ := hpo
              refine W.eq (g2 := F0 m 32 ls [.ref (ad (7, r29))]) rfl ?_
              have hk_r29 := zk_D_route hn hc29
              replace hF : F_D_bring_s6 n r15 r10 r5 r29 st29 = some out := hF
              replace hP : zV (dC, dI) zcl (zKs n) ad (zcE n cI cZ cR cA ad) st29 H := hP
              unfold F_D_bring_s6 at hF
              refine lv_astore S.1 S.2.1 d_D_bring_32 hl (by decide) rfl (fun ls hl => ?_)
              have hl : lv_has ls 6 [(5, .ref (ad (7, r29))), (4, .int r15), (3, .int r10), (2, .int r5), (0, .ref (ad (0, 0))), (1, .int v1)] := hl
              refine lv_aload S.1 S.2.1 d_D_bring_34 (lv_at hl 0 rfl) ?_
              cases hc36 : F_R_isOwn n r29 st29 with
              | none => rw [hc36] at hF; cases hF
              | some u36 =>
                obtain ⟨r36, st36⟩ := u36
                rw [hc36] at hF
                replace hF := zbind hF
                refine zr_callV (rest := []) S zT_good (C_R_isOwn hn hD l r29 hk_r29 st29 (r36, st36) hc36) zn_R_isOwn zx_61 ⟨rfl, rfl⟩ ⟨Nat.le_of_ble_eq_true rfl, Nat.le_of_ble_eq_true rfl⟩ ⟨Nat.zero_le _, Nat.zero_le _⟩ hK (zr_recv hK hP hk_r29 rfl rfl) hP hl.1 (Nat.le_of_ble_eq_true rfl) hS (fun _ h => h) d_D_bring_36 rfl (fun o H locs hpo _ _ hS => ?_)
                obtain ⟨rfl, hP⟩ := hpo
                refine W.eq (g2 := F0 m 39 ls [.int r36]) rfl ?_
                replace hF : F_D_bring_s7 n r29 r15 r10 r5 r36 st36 = some out := hF
                replace hP : zV (dC, dI) zcl (zKs n) ad (zcE n cI cZ cR cA ad) st36 H := hP
                unfold F_D_bring_s7 at hF
                refine lv_if_ne (tgt := 65) S.1 S.2.1 d_D_bring_39 (by decide) (fun h39 => ?_) (fun h39 => ?_)
                · rw [if_neg h39] at hF
                  refine lv_iload S.1 S.2.1 d_D_bring_65 (lv_at hl 1 rfl) ?_
                  refine lv_iconst (v := 1) S.1 S.2.1 d_D_bring_67 (by decide) ?_
                  refine lv_icmp_ne (tgt := 82) S.1 S.2.1 d_D_bring_68 (by decide) (fun h68 => ?_) (fun h68 => ?_)
                  · rw [if_neg h68] at hF
                    refine lv_iload S.1 S.2.1 d_D_bring_82 (lv_at hl 1 rfl) ?_
                    cases hF
                    exact zr_iret S hret hlk hS d_D_bring_84 ⟨rfl, hP⟩
                  · rw [if_pos h68] at hF
                    refine lv_aload_n S.1 S.2.1 d_D_bring_71 rfl (lv_at hl 4 rfl) ?_
                    refine zr_get (v := .ref (ad (3, 0))) S zi_D hK hP zk_0 rfl rfl 3 (by decide) zx_11 rfl d_D_bring_72 ?_
                    refine lv_aload S.1 S.2.1 d_D_bring_75 (lv_at hl 0 rfl) ?_
                    refine lv_iload_n S.1 S.2.1 d_D_bring_77 rfl (lv_at hl 2 rfl) ?_
                    refine lv_iconst (v := 2) S.1 S.2.1 d_D_bring_78 (by decide) ?_
                    cases hc79 : F_L_send n r29 r10 2 st36 with
                    | none => rw [hc79] at hF; cases hF
                    | some u79 =>
                      obtain ⟨r79, st79⟩ := u79
                      rw [hc79] at hF
                      replace hF := zbind hF
                      refine zr_callV (rest := []) S zT_good (C_L_send hn hD l r29 r10 2 hk_r29 st36 (r79, st79) hc79) zn_L_send zx_60 ⟨rfl, rfl⟩ ⟨Nat.le_of_ble_eq_true rfl, Nat.le_of_ble_eq_true rfl⟩ ⟨Nat.zero_le _, Nat.zero_le _⟩ hK (zr_recv hK hP zk_3 rfl rfl) hP hl.1 (Nat.le_of_ble_eq_true rfl) hS (fun _ h => h) d_D_bring_79 rfl (fun o H locs hpo _ _ hS => ?_)
                      obtain ⟨rfl, hP⟩ := hpo
                      refine W.eq (g2 := F0 m 82 ls []) rfl ?_
                      replace hF : F_D_bring_s8 n r15 st79 = some out := hF
                      replace hP : zV (dC, dI) zcl (zKs n) ad (zcE n cI cZ cR cA ad) st79 H := hP
                      unfold F_D_bring_s8 at hF
                      refine lv_iload S.1 S.2.1 d_D_bring_82 (lv_at hl 1 rfl) ?_
                      cases hF
                      exact zr_iret S hret hlk hS d_D_bring_84 ⟨rfl, hP⟩
                · rw [if_pos h39] at hF
                  refine lv_aload S.1 S.2.1 d_D_bring_42 (lv_at hl 0 rfl) ?_
                  refine zr_get (v := .ref (ad (8, r29))) S zi_R hK hP hk_r29 rfl rfl 3 (by decide) zx_4 rfl d_D_bring_44 ?_
                  refine lv_iload_n S.1 S.2.1 d_D_bring_47 rfl (lv_at hl 2 rfl) ?_
                  refine lv_iload_n S.1 S.2.1 d_D_bring_48 rfl (lv_at hl 3 rfl) ?_
                  cases hc49 : F_L_distanceOf n r5 st36 with
                  | none => rw [hc49] at hF; cases hF
                  | some u49 =>
                    obtain ⟨r49, st49⟩ := u49
                    rw [hc49] at hF
                    replace hF := zbind hF
                    refine zr_callS (rest := [.int r10, .ref (ad (8, r29))]) S zT_good (C_L_distanceOf hn hD l r5 st36 (r49, st49) hc49) zn_L_distanceOf zx_58 ⟨rfl, rfl⟩ ⟨Nat.le_of_ble_eq_true rfl, Nat.le_of_ble_eq_true rfl⟩ ⟨Nat.zero_le _, Nat.zero_le _⟩ hK hP hl.1 (Nat.le_of_ble_eq_true rfl) hS (fun _ h => h) d_D_bring_49 rfl (fun o H locs hpo _ _ hS => ?_)
                    obtain ⟨rfl, hP⟩ := hpo
                    refine W.eq (g2 := F0 m 52 ls [.int r49, .int r10, .ref (ad (8, r29))]) rfl ?_
                    replace hF : F_D_bring_s9 n r29 r15 r10 r29 r10 r49 st49 = some out := hF
                    replace hP : zV (dC, dI) zcl (zKs n) ad (zcE n cI cZ cR cA ad) st49 H := hP
                    unfold F_D_bring_s9 at hF
                    by_cases g52 : zOut r10 n
                    · rw [if_pos g52] at hF; cases hF
                    rw [if_neg g52] at hF
                    refine zr_iast S hK hP hD hS (zk_87 hk_r29) (fun _ => rfl) 0 rfl g52 d_D_bring_52 (fun H locs hP hS => ?_)
                    replace hF : F_D_bring_s10 n r29 r15 r10 (zs st49 8 r29 (Int32.toNatClampNeg r10) r49) = some out := hF
                    generalize zs st49 8 r29 (Int32.toNatClampNeg r10) r49 = st53 at hP hF
                    unfold F_D_bring_s10 at hF
                    refine lv_aload_n S.1 S.2.1 d_D_bring_53 rfl (lv_at hl 4 rfl) ?_
                    refine lv_aload S.1 S.2.1 d_D_bring_54 (lv_at hl 0 rfl) ?_
                    refine lv_iload_n S.1 S.2.1 d_D_bring_56 rfl (lv_at hl 2 rfl) ?_
                    refine lv_iload S.1 S.2.1 d_D_bring_57 (lv_at hl 1 rfl) ?_
                    cases hc59 : F_D_hear n r29 r10 r15 st53 with
                    | none => rw [hc59] at hF; cases hF
                    | some u59 =>
                      obtain ⟨r59, st59⟩ := u59
                      rw [hc59] at hF
                      replace hF := zbind hF
                      refine zr_callV (rest := []) S zT_good (C_D_hear hn hD l r29 r10 r15 hk_r29 st53 (r59, st59) hc59) zn_D_hear zx_70 ⟨rfl, rfl⟩ ⟨Nat.le_of_ble_eq_true rfl, Nat.le_of_ble_eq_true rfl⟩ ⟨Nat.zero_le _, Nat.zero_le _⟩ hK (zr_recv hK hP zk_0 rfl rfl) hP hl.1 (Nat.le_of_ble_eq_true rfl) hS (fun _ h => h) d_D_bring_59 rfl (fun o H locs hpo _ _ hS => ?_)
                      obtain ⟨rfl, hP⟩ := hpo
                      refine W.eq (g2 := F0 m 62 ls []) rfl ?_
                      replace hF : F_D_bring_s11 n r15 st59 = some out := hF
                      replace hP : zV (dC, dI) zcl (zKs n) ad (zcE n cI cZ cR cA ad) st59 H := hP
                      unfold F_D_bring_s11 at hF
                      refine lv_goto (tgt := 82) S.1 S.2.1 d_D_bring_62 (by decide) ?_
                      refine lv_iload S.1 S.2.1 d_D_bring_82 (lv_at hl 1 rfl) ?_
                      cases hF
                      exact zr_iret S hret hlk hS d_D_bring_84 ⟨rfl, hP⟩

theorem d_D_deliver_0 : decode b_D_deliver 0 = .ok (.aload_n 0, 1) := by decide +kernel
theorem d_D_deliver_1 : decode b_D_deliver 1 = .ok (.iload_n 1, 1) := by decide +kernel
theorem d_D_deliver_2 : decode b_D_deliver 2 = .ok (.iload_n 2, 1) := by decide +kernel
theorem d_D_deliver_3 : decode b_D_deliver 3 = .ok (.invokevirtual 61, 3) := by decide +kernel
theorem d_D_deliver_6 : decode b_D_deliver 6 = .ok (.ifCond .ne 5, 3) := by decide +kernel
theorem d_D_deliver_9 : decode b_D_deliver 9 = .ok (.iconst (-1), 1) := by decide +kernel
theorem d_D_deliver_10 : decode b_D_deliver 10 = .ok (.ireturn, 1) := by decide +kernel
theorem d_D_deliver_11 : decode b_D_deliver 11 = .ok (.aload_n 0, 1) := by decide +kernel
theorem d_D_deliver_12 : decode b_D_deliver 12 = .ok (.getfield 39, 3) := by decide +kernel
theorem d_D_deliver_15 : decode b_D_deliver 15 = .ok (.invokevirtual 47, 3) := by decide +kernel
theorem d_D_deliver_18 : decode b_D_deliver 18 = .ok (.sipush 400, 3) := by decide +kernel
theorem d_D_deliver_21 : decode b_D_deliver 21 = .ok (.if_icmp .le 6, 3) := by decide +kernel
theorem d_D_deliver_24 : decode b_D_deliver 24 = .ok (.bipush (-2), 2) := by decide +kernel
theorem d_D_deliver_26 : decode b_D_deliver 26 = .ok (.ireturn, 1) := by decide +kernel
theorem d_D_deliver_27 : decode b_D_deliver 27 = .ok (.aload_n 0, 1) := by decide +kernel
theorem d_D_deliver_28 : decode b_D_deliver 28 = .ok (.getfield 39, 3) := by decide +kernel
theorem d_D_deliver_31 : decode b_D_deliver 31 = .ok (.iload_n 1, 1) := by decide +kernel
theorem d_D_deliver_32 : decode b_D_deliver 32 = .ok (.iload_n 2, 1) := by decide +kernel
theorem d_D_deliver_33 : decode b_D_deliver 33 = .ok (.iconst 0, 1) := by decide +kernel
theorem d_D_deliver_34 : decode b_D_deliver 34 = .ok (.invokevirtual 71, 3) := by decide +kernel
theorem d_D_deliver_37 : decode b_D_deliver 37 = .ok (.istore_n 3, 1) := by decide +kernel
theorem d_D_deliver_38 : decode b_D_deliver 38 = .ok (.iload_n 3, 1) := by decide +kernel
theorem d_D_deliver_39 : decode b_D_deliver 39 = .ok (.iconst (-1), 1) := by decide +kernel
theorem d_D_deliver_40 : decode b_D_deliver 40 = .ok (.if_icmp .ne 7, 3) := by decide +kernel
theorem d_D_deliver_43 : decode b_D_deliver 43 = .ok (.iconst 0, 1) := by decide +kernel
theorem d_D_deliver_44 : decode b_D_deliver 44 = .ok (.goto 10, 3) := by decide +kernel
theorem d_D_deliver_47 : decode b_D_deliver 47 = .ok (.aload_n 0, 1) := by decide +kernel
theorem d_D_deliver_48 : decode b_D_deliver 48 = .ok (.iload_n 3, 1) := by decide +kernel
theorem d_D_deliver_49 : decode b_D_deliver 49 = .ok (.invokevirtual 75, 3) := by decide +kernel
theorem d_D_deliver_52 : decode b_D_deliver 52 = .ok (.iconst 1, 1) := by decide +kernel
theorem d_D_deliver_53 : decode b_D_deliver 53 = .ok (.iadd, 1) := by decide +kernel
theorem d_D_deliver_54 : decode b_D_deliver 54 = .ok (.ireturn, 1) := by decide +kernel
def F_D_deliver_s4 (n : Nat) (t0 : Int32) (st : zS) : Option (Int32 × zS) :=
    some (t0 + 1, st)

def F_D_deliver_s3 (n : Nat) (t0 : Int32) (st : zS) : Option (Int32 × zS) :=
    if t0 = (-1) then (some (0, st)) else ((F_D_bring n t0 st).bind (fun u => F_D_deliver_s4 n u.1 u.2))

def F_D_deliver_s2 (n : Nat) (v1 : Int32) (v2 : Int32) (t0 : Int32) (st : zS) : Option (Int32 × zS) :=
    if t0 ≤ 400 then ((F_L_find n v1 v2 0 st).bind (fun u => F_D_deliver_s3 n u.1 u.2)) else (some ((-2), st))

def F_D_deliver_s1 (n : Nat) (v1 : Int32) (v2 : Int32) (t0 : Int32) (st : zS) : Option (Int32 × zS) :=
    if t0 = 0 then (some ((-1), st)) else ((F_L_size n st).bind (fun u => F_D_deliver_s2 n v1 v2 u.1 u.2))

def F_D_deliver (n : Nat) (v1 : Int32) (v2 : Int32) (st : zS) : Option (Int32 × zS) :=
    (F_D_isLink n v1 v2 st).bind (fun u => F_D_deliver_s1 n v1 v2 u.1 u.2)

set_option maxHeartbeats 4000000 in
set_option maxRecDepth 1000000 in
theorem C_D_deliver {dC : Nat → ClassId} {dI : Nat → Nat → Nat} {cI cZ cR cA : ClassId} {n : Nat} {ad : zK → Nat} {A : Nat → Prop} (hn : 2 ≤ n ∧ n ≤ 6) (hD : zD A (zKs n) ad) (l : Launch) (v1 : Int32) (v2 : Int32) (st : zS) (out : Int32 × zS) (hF : F_D_deliver n v1 v2 st = some out) : zC zT (dC, dI) zcl (zty cI cZ cR cA) A l y_D_deliver b_D_deliver 4 (some .int) rm_D_deliver [.ref (ad (0, 0)), .int v1, .int v2] (fun H => zV (dC, dI) zcl (zKs n) ad (zcE n cI cZ cR cA ad) st H) (fun o H => o = some (.int out.1) ∧ zV (dC, dI) zcl (zKs n) ad (zcE n cI cZ cR cA ad) out.2 H) := by
  refine zC_of (by decide) (Nat.le_of_ble_eq_true rfl) (fun p e s m args below meth c ls S hret hlk hK hP hl => ?_)
  have hS : va_S A s.heap s.heap [] := va_S.rf
  have hl : lv_has ls 4 [(0, .ref (ad (0, 0))), (1, .int v1), (2, .int v2)] := hl
  have hP : zV (dC, dI) zcl (zKs n) ad (zcE n cI cZ cR cA ad) st s.heap := hP
  unfold F_D_deliver at hF
  refine lv_aload_n S.1 S.2.1 d_D_deliver_0 rfl (lv_at hl 0 rfl) ?_
  refine lv_iload_n S.1 S.2.1 d_D_deliver_1 rfl (lv_at hl 1 rfl) ?_
  refine lv_iload_n S.1 S.2.1 d_D_deliver_2 rfl (lv_at hl 2 rfl) ?_
  cases hc3 : F_D_isLink n v1 v2 st with
  | none => rw [hc3] at hF; cases hF
  | some u3 =>
    obtain ⟨r3, st3⟩ := u3
    rw [hc3] at hF
    replace hF := zbind hF
    refine zr_callV (rest := []) S zT_good (C_D_isLink hn hD l v1 v2 st (r3, st3) hc3) zn_D_isLink zx_82 ⟨rfl, rfl⟩ ⟨Nat.le_of_ble_eq_true rfl, Nat.le_of_ble_eq_true rfl⟩ ⟨Nat.zero_le _, Nat.zero_le _⟩ hK (zr_recv hK hP zk_0 rfl rfl) hP hl.1 (Nat.le_of_ble_eq_true rfl) hS (fun _ h => h) d_D_deliver_3 rfl (fun o H locs hpo _ _ hS => ?_)
    obtain ⟨rfl, hP⟩ := hpo
    refine W.eq (g2 := F0 m 6 ls [.int r3]) rfl ?_
    replace hF : F_D_deliver_s1 n v1 v2 r3 st3 = some out := hF
    replace hP : zV (dC, dI) zcl (zKs n) ad (zcE n cI cZ cR cA ad) st3 H := hP
    unfold F_D_deliver_s1 at hF
    refine lv_if_ne (tgt := 11) S.1 S.2.1 d_D_deliver_6 (by decide) (fun h6 => ?_) (fun h6 => ?_)
    · rw [if_neg h6] at hF
      refine lv_aload_n S.1 S.2.1 d_D_deliver_11 rfl (lv_at hl 0 rfl) ?_
      refine zr_get (v := .ref (ad (3, 0))) S zi_D hK hP zk_0 rfl rfl 3 (by decide) zx_11 rfl d_D_deliver_12 ?_
      cases hc15 : F_L_size n st3 with
      | none => rw [hc15] at hF; cases hF
      | some u15 =>
        obtain ⟨r15, st15⟩ := u15
        rw [hc15] at hF
        replace hF := zbind hF
        refine zr_callV (rest := []) S zT_good (C_L_size hn hD l st3 (r15, st15) hc15) zn_L_size zx_79 ⟨rfl, rfl⟩ ⟨Nat.le_of_ble_eq_true rfl, Nat.le_of_ble_eq_true rfl⟩ ⟨Nat.zero_le _, Nat.zero_le _⟩ hK (zr_recv hK hP zk_3 rfl rfl) hP hl.1 (Nat.le_of_ble_eq_true rfl) hS (fun _ h => h) d_D_deliver_15 rfl (fun o H locs hpo _ _ hS => ?_)
        obtain ⟨rfl, hP⟩ := hpo
        refine W.eq (g2 := F0 m 18 ls [.int r15]) rfl ?_
        replace hF : F_D_deliver_s2 n v1 v2 r15 st15 = some out := hF
        replace hP : zV (dC, dI) zcl (zKs n) ad (zcE n cI cZ cR cA ad) st15 H := hP
        unfold F_D_deliver_s2 at hF
        refine lv_sipush (v := 400) S.1 S.2.1 d_D_deliver_18 (by decide) ?_
        refine lv_icmp_le (tgt := 27) S.1 S.2.1 d_D_deliver_21 (by decide) (fun h21 => ?_) (fun h21 => ?_)
        · rw [if_pos h21] at hF
          refine lv_aload_n S.1 S.2.1 d_D_deliver_27 rfl (lv_at hl 0 rfl) ?_
          refine zr_get (v := .ref (ad (3, 0))) S zi_D hK hP zk_0 rfl rfl 3 (by decide) zx_11 rfl d_D_deliver_28 ?_
          refine lv_iload_n S.1 S.2.1 d_D_deliver_31 rfl (lv_at hl 1 rfl) ?_
          refine lv_iload_n S.1 S.2.1 d_D_deliver_32 rfl (lv_at hl 2 rfl) ?_
          refine lv_iconst (v := 0) S.1 S.2.1 d_D_deliver_33 (by decide) ?_
          cases hc34 : F_L_find n v1 v2 0 st15 with
          | none => rw [hc34] at hF; cases hF
          | some u34 =>
            obtain ⟨r34, st34⟩ := u34
            rw [hc34] at hF
            replace hF := zbind hF
            refine zr_callV (rest := []) S zT_good (C_L_find hn hD l v1 v2 0 st15 (r34, st34) hc34) zn_L_find zx_85 ⟨rfl, rfl⟩ ⟨Nat.le_of_ble_eq_true rfl, Nat.le_of_ble_eq_true rfl⟩ ⟨Nat.zero_le _, Nat.zero_le _⟩ hK (zr_recv hK hP zk_3 rfl rfl) hP hl.1 (Nat.le_of_ble_eq_true rfl) hS (fun _ h => h) d_D_deliver_34 rfl (fun o H locs hpo _ _ hS => ?_)
            obtain ⟨rfl, hP⟩ := hpo
            refine W.eq (g2 := F0 m 37 ls [.int r34]) rfl ?_
            replace hF : F_D_deliver_s3 n r34 st34 = some out := hF
            replace hP : zV (dC, dI) zcl (zKs n) ad (zcE n cI cZ cR cA ad) st34 H := hP
            unfold F_D_deliver_s3 at hF
            refine lv_istore_n S.1 S.2.1 d_D_deliver_37 rfl hl (by decide) rfl (fun ls hl => ?_)
            have hl : lv_has ls 4 [(3, .int r34), (0, .ref (ad (0, 0))), (1, .int v1), (2, .int v2)] := hl
            refine lv_iload_n S.1 S.2.1 d_D_deliver_38 rfl (lv_at hl 0 rfl) ?_
            refine lv_iconst (v := (-1)) S.1 S.2.1 d_D_deliver_39 (by decide) ?_
            refine lv_icmp_ne (tgt := 47) S.1 S.2.1 d_D_deliver_40 (by decide) (fun h40 => ?_) (fun h40 => ?_)
            · rw [if_neg h40] at hF
              refine lv_aload_n S.1 S.2.1 d_D_deliver_47 rfl (lv_at hl 1 rfl) ?_
              refine lv_iload_n S.1 S.2.1 d_D_deliver_48 rfl (lv_at hl 0 rfl) ?_
              cases hc49 : F_D_bring n r34 st34 with
              | none => rw [hc49] at hF; cases hF
              | some u49 =>
                obtain ⟨r49, st49⟩ := u49
                rw [hc49] at hF
                replace hF := zbind hF
                refine zr_callV (rest := []) S zT_good (C_D_bring hn hD l r34 st34 (r49, st49) hc49) zn_D_bring zx_86 ⟨rfl, rfl⟩ ⟨Nat.le_of_ble_eq_true rfl, Nat.le_of_ble_eq_true rfl⟩ ⟨Nat.zero_le _, Nat.zero_le _⟩ hK (zr_recv hK hP zk_0 rfl rfl) hP hl.1 (Nat.le_of_ble_eq_true rfl) hS (fun _ h => h) d_D_deliver_49 rfl (fun o H locs hpo _ _ hS => ?_)
                obtain ⟨rfl, hP⟩ := hpo
                refine W.eq (g2 := F0 m 52 ls [.int r49]) rfl ?_
                replace hF : F_D_deliver_s4 n r49 st49 = some out := hF
                replace hP : zV (dC, dI) zcl (zKs n) ad (zcE n cI cZ cR cA ad) st49 H := hP
                unfold F_D_deliver_s4 at hF
                refine lv_iconst (v := 1) S.1 S.2.1 d_D_deliver_52 (by decide) ?_
                refine lv_iadd S.1 S.2.1 d_D_deliver_53 ?_
                cases hF
                exact zr_iret S hret hlk hS d_D_deliver_54 ⟨rfl, hP⟩
            · rw [if_pos h40] at hF
              refine lv_iconst (v := 0) S.1 S.2.1 d_D_deliver_43 (by decide) ?_
              refine lv_goto (tgt := 54) S.1 S.2.1 d_D_deliver_44 (by decide) ?_
              cases hF
              exact zr_iret S hret hlk hS d_D_deliver_54 ⟨rfl, hP⟩
        · rw [if_neg h21] at hF
          refine lv_bipush (v := (-2)) S.1 S.2.1 d_D_deliver_24 (by decide) ?_
          cases hF
          exact zr_iret S hret hlk hS d_D_deliver_26 ⟨rfl, hP⟩
    · rw [if_pos h6] at hF
      refine lv_iconst (v := (-1)) S.1 S.2.1 d_D_deliver_9 (by decide) ?_
      cases hF
      exact zr_iret S hret hlk hS d_D_deliver_10 ⟨rfl, hP⟩

theorem d_D_run_0 : decode b_D_run 0 = .ok (.iload_n 1, 1) := by decide +kernel
theorem d_D_run_1 : decode b_D_run 1 = .ok (.ifCond .lt 10, 3) := by decide +kernel
theorem d_D_run_4 : decode b_D_run 4 = .ok (.iload_n 1, 1) := by decide +kernel
theorem d_D_run_5 : decode b_D_run 5 = .ok (.sipush 200, 3) := by decide +kernel
theorem d_D_run_8 : decode b_D_run 8 = .ok (.if_icmp .le 5, 3) := by decide +kernel
theorem d_D_run_11 : decode b_D_run 11 = .ok (.iconst (-1), 1) := by decide +kernel
theorem d_D_run_12 : decode b_D_run 12 = .ok (.ireturn, 1) := by decide +kernel
theorem d_D_run_13 : decode b_D_run 13 = .ok (.iconst 0, 1) := by decide +kernel
theorem d_D_run_14 : decode b_D_run 14 = .ok (.istore_n 2, 1) := by decide +kernel
theorem d_D_run_15 : decode b_D_run 15 = .ok (.iload_n 2, 1) := by decide +kernel
theorem d_D_run_16 : decode b_D_run 16 = .ok (.iload_n 1, 1) := by decide +kernel
theorem d_D_run_17 : decode b_D_run 17 = .ok (.if_icmp .ge 44, 3) := by decide +kernel
theorem d_D_run_20 : decode b_D_run 20 = .ok (.aload_n 0, 1) := by decide +kernel
theorem d_D_run_21 : decode b_D_run 21 = .ok (.getfield 39, 3) := by decide +kernel
theorem d_D_run_24 : decode b_D_run 24 = .ok (.invokevirtual 47, 3) := by decide +kernel
theorem d_D_run_27 : decode b_D_run 27 = .ok (.ifCond .le 34, 3) := by decide +kernel
theorem d_D_run_30 : decode b_D_run 30 = .ok (.aload_n 0, 1) := by decide +kernel
theorem d_D_run_31 : decode b_D_run 31 = .ok (.getfield 39, 3) := by decide +kernel
theorem d_D_run_34 : decode b_D_run 34 = .ok (.invokevirtual 47, 3) := by decide +kernel
theorem d_D_run_37 : decode b_D_run 37 = .ok (.sipush 400, 3) := by decide +kernel
theorem d_D_run_40 : decode b_D_run 40 = .ok (.if_icmp .gt 21, 3) := by decide +kernel
theorem d_D_run_43 : decode b_D_run 43 = .ok (.aload_n 0, 1) := by decide +kernel
theorem d_D_run_44 : decode b_D_run 44 = .ok (.aload_n 0, 1) := by decide +kernel
theorem d_D_run_45 : decode b_D_run 45 = .ok (.getfield 39, 3) := by decide +kernel
theorem d_D_run_48 : decode b_D_run 48 = .ok (.getfield 79, 3) := by decide +kernel
theorem d_D_run_51 : decode b_D_run 51 = .ok (.invokevirtual 75, 3) := by decide +kernel
theorem d_D_run_54 : decode b_D_run 54 = .ok (.pop, 1) := by decide +kernel
theorem d_D_run_55 : decode b_D_run 55 = .ok (.iinc 2 1, 3) := by decide +kernel
theorem d_D_run_58 : decode b_D_run 58 = .ok (.goto (-43), 3) := by decide +kernel
theorem d_D_run_61 : decode b_D_run 61 = .ok (.iload_n 2, 1) := by decide +kernel
theorem d_D_run_62 : decode b_D_run 62 = .ok (.ireturn, 1) := by decide +kernel
def F_D_run_L15_s3 (n : Nat) (c15 : Int32 → Int32 → zS → Option (Int32 × zS)) (v1 : Int32) (v2 : Int32) (t0 : Int32) (st : zS) : Option (Int32 × zS) :=
    c15 v1 (v2 + 1) st

def F_D_run_L15_s2 (n : Nat) (c15 : Int32 → Int32 → zS → Option (Int32 × zS)) (v1 : Int32) (v2 : Int32) (t0 : Int32) (st : zS) : Option (Int32 × zS) :=
    if 400 < t0 then (some (v2, st)) else ((F_D_bring n (st 3 0 0) st).bind (fun u => F_D_run_L15_s3 n c15 v1 v2 u.1 u.2))

def F_D_run_L15_s1 (n : Nat) (c15 : Int32 → Int32 → zS → Option (Int32 × zS)) (v1 : Int32) (v2 : Int32) (t0 : Int32) (st : zS) : Option (Int32 × zS) :=
    if t0 ≤ 0 then (some (v2, st)) else ((F_L_size n st).bind (fun u => F_D_run_L15_s2 n c15 v1 v2 u.1 u.2))

def F_D_run_L15 (n : Nat) : Nat → Int32 → Int32 → zS → Option (Int32 × zS)
  | 0, _, _, _ => none
  | f + 1, v1, v2, st =>
    if v1 ≤ v2 then (some (v2, st)) else ((F_L_size n st).bind (fun u => F_D_run_L15_s1 n (F_D_run_L15 n f) v1 v2 u.1 u.2))

def F_D_run (n : Nat) (v1 : Int32) (st : zS) : Option (Int32 × zS) :=
    if v1 < 0 then (some ((-1), st)) else (if v1 ≤ 200 then (F_D_run_L15 n zFuel v1 0 st) else (some ((-1), st)))

set_option maxHeartbeats 4000000 in
set_option maxRecDepth 1000000 in
theorem T_D_run_L15 {dC : Nat → ClassId} {dI : Nat → Nat → Nat} {cI cZ cR cA : ClassId} {n : Nat} {ad : zK → Nat} {A : Nat → Prop} (hn : 2 ≤ n ∧ n ≤ 6) (hD : zD A (zKs n) ad) {p : Program} {l : Launch} {e : Env} {s : State} {m : MethodId} {args : Array Value} {below : List Frame} {meth : Method} {c : Code} (S : CallFix p m c b_D_run 3 s args zT N_D) (hret : meth.sig.returnType = some .int) (hlk : meth.locks = false) (hK : va_K (dC, dI) zcl (zty cI cZ cR cA) s) (out : Int32 × zS) : ∀ (fu : Nat) (v1 : Int32) (v2 : Int32) (st : zS) (H : Heap) (locs : List Loc) (ls : Array Slot) (hP : zV (dC, dI) zcl (zKs n) ad (zcE n cI cZ cR cA ad) st H) (hS : va_S A s.heap H locs) (hl : lv_has ls 3 [(0, .ref (ad (0, 0))), (1, .int v1), (2, .int v2)]) (hF : F_D_run_L15 n fu v1 v2 st = some out), W p l e rm_D_run s m args below meth c H locs 0 0 (zQ below A (fun o H => o = some (.int out.1) ∧ zV (dC, dI) zcl (zKs n) ad (zcE n cI cZ cR cA ad) out.2 H) args s) (F0 m 15 ls []) := by
  intro fu
  induction fu with
  | zero => intro v1 v2 st H locs ls hP hS hl hF; rw [F_D_run_L15] at hF; cases hF
  | succ f ih =>
    intro v1 v2 st H locs ls hP hS hl hF
    rw [F_D_run_L15] at hF
    refine lv_iload_n S.1 S.2.1 d_D_run_15 rfl (lv_at hl 2 rfl) ?_
    refine lv_iload_n S.1 S.2.1 d_D_run_16 rfl (lv_at hl 1 rfl) ?_
    refine lv_icmp_ge (tgt := 61) S.1 S.2.1 d_D_run_17 (by decide) (fun h17 => ?_) (fun h17 => ?_)
    · rw [if_pos h17] at hF
      refine lv_iload_n S.1 S.2.1 d_D_run_61 rfl (lv_at hl 2 rfl) ?_
      cases hF
      exact zr_iret S hret hlk hS d_D_run_62 ⟨rfl, hP⟩
    · rw [if_neg h17] at hF
      refine lv_aload_n S.1 S.2.1 d_D_run_20 rfl (lv_at hl 0 rfl) ?_
      refine zr_get (v := .ref (ad (3, 0))) S zi_D hK hP zk_0 rfl rfl 3 (by decide) zx_11 rfl d_D_run_21 ?_
      cases hc24 : F_L_size n st with
      | none => rw [hc24] at hF; cases hF
      | some u24 =>
        obtain ⟨r24, st24⟩ := u24
        rw [hc24] at hF
        replace hF := zbind hF
        refine zr_callV (rest := []) S zT_good (C_L_size hn hD l st (r24, st24) hc24) zn_L_size zx_79 ⟨rfl, rfl⟩ ⟨Nat.le_of_ble_eq_true rfl, Nat.le_of_ble_eq_true rfl⟩ ⟨Nat.zero_le _, Nat.zero_le _⟩ hK (zr_recv hK hP zk_3 rfl rfl) hP hl.1 (Nat.le_of_ble_eq_true rfl) hS (fun _ h => h) d_D_run_24 rfl (fun o H locs hpo _ _ hS => ?_)
        obtain ⟨rfl, hP⟩ := hpo
        refine W.eq (g2 := F0 m 27 ls [.int r24]) rfl ?_
        replace hF : F_D_run_L15_s1 n (F_D_run_L15 n f) v1 v2 r24 st24 = some out := hF
        replace hP : zV (dC, dI) zcl (zKs n) ad (zcE n cI cZ cR cA ad) st24 H := hP
        unfold F_D_run_L15_s1 at hF
        refine lv_if_le (tgt := 61) S.1 S.2.1 d_D_run_27 (by decide) (fun h27 => ?_) (fun h27 => ?_)
        · rw [if_pos h27] at hF
          refine lv_iload_n S.1 S.2.1 d_D_run_61 rfl (lv_at hl 2 rfl) ?_
          cases hF
          exact zr_iret S hret hlk hS d_D_run_62 ⟨rfl, hP⟩
        · rw [if_neg h27] at hF
          refine lv_aload_n S.1 S.2.1 d_D_run_30 rfl (lv_at hl 0 rfl) ?_
          refine zr_get (v := .ref (ad (3, 0))) S zi_D hK hP zk_0 rfl rfl 3 (by decide) zx_11 rfl d_D_run_31 ?_
          cases hc34 : F_L_size n st24 with
          | none => rw [hc34] at hF; cases hF
          | some u34 =>
            obtain ⟨r34, st34⟩ := u34
            rw [hc34] at hF
            replace hF := zbind hF
            refine zr_callV (rest := []) S zT_good (C_L_size hn hD l st24 (r34, st34) hc34) zn_L_size zx_79 ⟨rfl, rfl⟩ ⟨Nat.le_of_ble_eq_true rfl, Nat.le_of_ble_eq_true rfl⟩ ⟨Nat.zero_le _, Nat.zero_le _⟩ hK (zr_recv hK hP zk_3 rfl rfl) hP hl.1 (Nat.le_of_ble_eq_true rfl) hS (fun _ h => h) d_D_run_34 rfl (fun o H locs hpo _ _ hS => ?_)
            obtain ⟨rfl, hP⟩ := hpo
            refine W.eq (g2 := F0 m 37 ls [.int r34]) rfl ?_
            replace hF : F_D_run_L15_s2 n (F_D_run_L15 n f) v1 v2 r34 st34 = some out := hF
            replace hP : zV (dC, dI) zcl (zKs n) ad (zcE n cI cZ cR cA ad) st34 H := hP
            unfold F_D_run_L15_s2 at hF
            refine lv_sipush (v := 400) S.1 S.2.1 d_D_run_37 (by decide) ?_
            refine lv_icmp_gt (tgt := 61) S.1 S.2.1 d_D_run_40 (by decide) (fun h40 => ?_) (fun h40 => ?_)
            · rw [if_pos h40] at hF
              refine lv_iload_n S.1 S.2.1 d_D_run_61 rfl (lv_at hl 2 rfl) ?_
              cases hF
              exact zr_iret S hret hlk hS d_D_run_62 ⟨rfl, hP⟩
            · rw [if_neg h40] at hF
              refine lv_aload_n S.1 S.2.1 d_D_run_43 rfl (lv_at hl 0 rfl) ?_
              refine lv_aload_n S.1 S.2.1 d_D_run_44 rfl (lv_at hl 0 rfl) ?_
              refine zr_get (v := .ref (ad (3, 0))) S zi_D hK hP zk_0 rfl rfl 3 (by decide) zx_11 rfl d_D_run_45 ?_
              refine zr_get (v := .int (st34 3 0 0)) S zi_L hK hP zk_3 rfl rfl 2 (by decide) zx_13 rfl d_D_run_48 ?_
              cases hc51 : F_D_bring n (st34 3 0 0) st34 with
              | none => rw [hc51] at hF; cases hF
              | some u51 =>
                obtain ⟨r51, st51⟩ := u51
                rw [hc51] at hF
                replace hF := zbind hF
                refine zr_callV (rest := []) S zT_good (C_D_bring hn hD l (st34 3 0 0) st34 (r51, st51) hc51) zn_D_bring zx_86 ⟨rfl, rfl⟩ ⟨Nat.le_of_ble_eq_true rfl, Nat.le_of_ble_eq_true rfl⟩ ⟨Nat.zero_le _, Nat.zero_le _⟩ hK (zr_recv hK hP zk_0 rfl rfl) hP hl.1 (Nat.le_of_ble_eq_true rfl) hS (fun _ h => h) d_D_run_51 rfl (fun o H locs hpo _ _ hS => ?_)
                obtain ⟨rfl, hP⟩ := hpo
                refine W.eq (g2 := F0 m 54 ls [.int r51]) rfl ?_
                replace hF : F_D_run_L15_s3 n (F_D_run_L15 n f) v1 v2 r51 st51 = some out := hF
                replace hP : zV (dC, dI) zcl (zKs n) ad (zcE n cI cZ cR cA ad) st51 H := hP
                unfold F_D_run_L15_s3 at hF
                refine lv_pop S.1 S.2.1 d_D_run_54 rfl ?_
                refine lv_iinc (k := 2) (v := v2 + 1) S.1 S.2.1 d_D_run_55 hl rfl rfl (by decide) rfl (fun ls hl => ?_)
                have hl : lv_has ls 3 [(2, .int (v2 + 1)), (0, .ref (ad (0, 0))), (1, .int v1)] := hl
                refine lv_goto (tgt := 15) S.1 S.2.1 d_D_run_58 (by decide) ?_
                exact ih v1 (v2 + 1) st51 _ _ _ hP hS (lv_sub hl [1, 2, 0] rfl) hF

set_option maxHeartbeats 4000000 in
set_option maxRecDepth 1000000 in
theorem C_D_run {dC : Nat → ClassId} {dI : Nat → Nat → Nat} {cI cZ cR cA : ClassId} {n : Nat} {ad : zK → Nat} {A : Nat → Prop} (hn : 2 ≤ n ∧ n ≤ 6) (hD : zD A (zKs n) ad) (l : Launch) (v1 : Int32) (st : zS) (out : Int32 × zS) (hF : F_D_run n v1 st = some out) : zC zT (dC, dI) zcl (zty cI cZ cR cA) A l y_D_run b_D_run 3 (some .int) rm_D_run [.ref (ad (0, 0)), .int v1] (fun H => zV (dC, dI) zcl (zKs n) ad (zcE n cI cZ cR cA ad) st H) (fun o H => o = some (.int out.1) ∧ zV (dC, dI) zcl (zKs n) ad (zcE n cI cZ cR cA ad) out.2 H) := by
  refine zC_of (by decide) (Nat.le_of_ble_eq_true rfl) (fun p e s m args below meth c ls S hret hlk hK hP hl => ?_)
  have hS : va_S A s.heap s.heap [] := va_S.rf
  have hl : lv_has ls 3 [(0, .ref (ad (0, 0))), (1, .int v1)] := hl
  have hP : zV (dC, dI) zcl (zKs n) ad (zcE n cI cZ cR cA ad) st s.heap := hP
  unfold F_D_run at hF
  refine lv_iload_n S.1 S.2.1 d_D_run_0 rfl (lv_at hl 1 rfl) ?_
  refine lv_if_lt (tgt := 11) S.1 S.2.1 d_D_run_1 (by decide) (fun h1 => ?_) (fun h1 => ?_)
  · rw [if_pos h1] at hF
    refine lv_iconst (v := (-1)) S.1 S.2.1 d_D_run_11 (by decide) ?_
    cases hF
    exact zr_iret S hret hlk hS d_D_run_12 ⟨rfl, hP⟩
  · rw [if_neg h1] at hF
    refine lv_iload_n S.1 S.2.1 d_D_run_4 rfl (lv_at hl 1 rfl) ?_
    refine lv_sipush (v := 200) S.1 S.2.1 d_D_run_5 (by decide) ?_
    refine lv_icmp_le (tgt := 13) S.1 S.2.1 d_D_run_8 (by decide) (fun h8 => ?_) (fun h8 => ?_)
    · rw [if_pos h8] at hF
      refine lv_iconst (v := 0) S.1 S.2.1 d_D_run_13 (by decide) ?_
      refine lv_istore_n S.1 S.2.1 d_D_run_14 rfl hl (by decide) rfl (fun ls hl => ?_)
      have hl : lv_has ls 3 [(2, .int 0), (0, .ref (ad (0, 0))), (1, .int v1)] := hl
      exact T_D_run_L15 hn hD S hret hlk hK out zFuel v1 0 st _ _ _ hP hS (lv_sub hl [1, 2, 0] rfl) hF
    · rw [if_neg h8] at hF
      refine lv_iconst (v := (-1)) S.1 S.2.1 d_D_run_11 (by decide) ?_
      cases hF
      exact zr_iret S hret hlk hS d_D_run_12 ⟨rfl, hP⟩
end
