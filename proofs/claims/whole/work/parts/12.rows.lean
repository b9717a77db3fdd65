/-! Rows over a world by keys: a key is a kind and a number; ad: where its cell lies, ct: what it holds. Contracts zC with one list of words Ts for all methods. -/
abbrev zK : Type := Nat × Nat
abbrev zW (ks : List zK) (ad : zK → Nat) (ct : zK → va_E) : va_W := ks.map (fun k => (ad k, ct k))
def zGood (Ts : List Cond) : Prop := ∀ w ∈ Ts, ((w.onTables && w.keeps) = true ∨ ∃ ty, w = .arrayClass ty)
theorem zW_at {ks : List zK} {ad : zK → Nat} {ct : zK → va_E} {k : zK} (hk : k ∈ ks) : ∃ q : Nat, ks[q]? = some k ∧ (zW ks ad ct)[q]? = some (ad k, ct k) := by
  obtain ⟨q, hq⟩ := List.getElem?_of_mem hk
  exact ⟨q, hq, by rw [List.getElem?_map, hq]; rfl⟩
theorem zW_set {ks : List zK} {ad : zK → Nat} {ct ct' : zK → va_E} {A : Nat → Prop} {k0 : zK} {q : Nat} {e : va_E} (hD : va_D A (zW ks ad ct)) (hq : ks[q]? = some k0) (he : ct' k0 = e) (ho : ∀ k, k ∈ ks → k ≠ k0 → ct' k = ct k) : (zW ks ad ct).set q (ad k0, e) = zW ks ad ct' := by
  apply List.ext_getElem?
  intro i
  have hq' : (zW ks ad ct)[q]? = some (ad k0, ct k0) := by rw [List.getElem?_map, hq]; rfl
  by_cases hi : i = q
  · subst hi
    rw [List.getElem?_set_self (List.getElem?_eq_some_iff.mp hq').1, List.getElem?_map, hq, ← he]
    rfl
  · rw [List.getElem?_set_ne (Ne.symm hi), List.getElem?_map, List.getElem?_map]
    cases hk : ks[i]? with
    | none => rfl
    | some k =>
      have hne : k ≠ k0 := fun h => hi (hD.1 i q (ad k, ct k) (ad k0, ct k0) (by rw [List.getElem?_map, hk]; rfl) hq' (by rw [h]))
      show some (ad k, ct k) = some (ad k, ct' k)
      rw [ho k (List.mem_of_getElem? hk) hne]
theorem zW_to {ks : List zK} {ad : zK → Nat} {ct ct' : zK → va_E} (h : ∀ k, k ∈ ks → ct k = ct' k) : zW ks ad ct = zW ks ad ct' := by
  apply List.map_congr_left
  intro k hk
  rw [h k hk]
theorem zD_to {ks : List zK} {ad : zK → Nat} {ct ct' : zK → va_E} {A : Nat → Prop} (hD : va_D A (zW ks ad ct)) : va_D A (zW ks ad ct') := by
  have key : ∀ (i : Nat) (x : Nat × va_E), (zW ks ad ct')[i]? = some x → ∃ y, (zW ks ad ct)[i]? = some y ∧ y.1 = x.1 := by
    intro i x hx
    rw [List.getElem?_map] at hx
    cases hk : ks[i]? with
    | none => rw [hk] at hx; cases hx
    | some k =>
      rw [hk] at hx
      cases hx
      exact ⟨(ad k, ct k), by rw [List.getElem?_map, hk]; rfl, rfl⟩
  refine ⟨fun i j x y hi hj hxy => ?_, fun k x hx => ?_⟩
  · obtain ⟨x0, h1, h2⟩ := key i x hi
    obtain ⟨y0, h3, h4⟩ := key j y hj
    exact hD.1 i j x0 y0 h1 h3 (h2.trans (hxy.trans h4.symm))
  · obtain ⟨x0, h1, h2⟩ := key k x hx
    rw [← h2]
    exact hD.2 k x0 h1
/-- the world: the cell of key j holds E j of its own row of numbers -/
abbrev zS : Type := Nat → Nat → Nat → Int32
def zs (s : zS) (a k i : Nat) (v : Int32) : zS := fun a' k' i' => if a' = a ∧ k' = k ∧ i' = i then v else s a' k' i'
def zV (D : va_G) (cl : List vw_C) (ks : List zK) (ad : zK → Nat) (E : zK → (Nat → Int32) → va_E) (st : zS) (H : Heap) : Prop := va_P D cl (zW ks ad (fun j => E j (st j.1 j.2))) H
def zD (A : Nat → Prop) (ks : List zK) (ad : zK → Nat) : Prop := ∀ ct, va_D A (zW ks ad ct)
abbrev zOut (x : Int32) (n : Nat) : Prop := x < 0 ∨ n ≤ x.toNatClampNeg
theorem zs_row (st : zS) (a k i : Nat) (v : Int32) : zs st a k i v a k = va_up (st a k) i v := by
  funext j
  unfold zs va_up
  by_cases h : j = i
  · rw [if_pos ⟨rfl, rfl, h⟩, if_pos h]
  · rw [if_neg (fun c => h c.2.2), if_neg h]
theorem zs_off (st : zS) (a k i : Nat) (v : Int32) {a' k' : Nat} (h : (a', k') ≠ (a, k)) : zs st a k i v a' k' = st a' k' := by
  funext j
  unfold zs
  rw [if_neg (fun c => h (by rw [c.1, c.2.1]))]
section ZRA
variable {p : Program} {l : Launch} {e : Env} {R : Room} {s : State} {m : MethodId} {args : Array Value} {below : List Frame} {meth : Method} {c : Code} {H : Heap} {locs : List Loc} {cells slots : Nat} {Q : State → Prop}
variable {cc : ByteArray} {pc nL : Nat} {ls : Array Slot} {rest : List Value} {D : va_G} {cl : List vw_C} {A : Nat → Prop} {tys : List (ClassId × FieldType)} {H0 : Heap} {Ts : List Cond} {own : String} {ks : List zK} {ad : zK → Nat} {E : zK → (Nat → Int32) → va_E} {st : zS}
theorem zV_at (hP : zV D cl ks ad E st H) {a k : Nat} (hk0 : (a, k) ∈ ks) {x : va_E} (he : E (a, k) (st a k) = x) : ∃ q : Nat, ks[q]? = some (a, k) ∧ (zW ks ad (fun j => E j (st j.1 j.2)))[q]? = some (ad (a, k), x) := by
  obtain ⟨q, h1, h2⟩ := zW_at (ad := ad) (ct := fun j => E j (st j.1 j.2)) hk0
  refine ⟨q, h1, ?_⟩
  rw [h2]
  show some (ad (a, k), E (a, k) (st a k)) = _
  rw [he]
theorem zV_set (hD : zD A ks ad) {a k i : Nat} {v : Int32} {q : Nat} {x : va_E} (hq : ks[q]? = some (a, k)) (he : E (a, k) (va_up (st a k) i v) = x) (hP : va_P D cl ((zW ks ad (fun j => E j (st j.1 j.2))).set q (ad (a, k), x)) H) : zV D cl ks ad E (zs st a k i v) H := by
  rw [zW_set (ct' := fun j => E j (zs st a k i v j.1 j.2)) (hD _) hq (by show E (a, k) (zs st a k i v a k) = x; rw [zs_row]; exact he) (fun j _ hne => by
    show E j (zs st a k i v j.1 j.2) = E j (st j.1 j.2)
    rw [zs_off st a k i v (a' := j.1) (k' := j.2) hne])] at hP
  exact hP
theorem zr_top {x y : Int32} (h : x = y) (k : W p l e R s m args below meth c H locs cells slots Q (F0 m pc ls (.int y :: rest))) : W p l e R s m args below meth c H locs cells slots Q (F0 m pc ls (.int x :: rest)) := by rw [h]; exact k
theorem zr_get (S : CallFix p m c cc nL s args Ts own) {C : String} {T : u_T} {N ci index : Nat} (hin : ∀ w ∈ u_ws C T N, w ∈ Ts) (hK : va_K D cl tys s) (hP : zV D cl ks ad E st H) {a kn : Nat} (hk0 : (a, kn) ∈ ks) {fs : List Value} (he : E (a, kn) (st a kn) = .inr (ci, fs)) (hc : cl[ci]? = some (C, T, N)) (k : Nat) (hk : k < N) (hlink : Cond.fieldLink own index (T k).1 (T k).2.1 (T k).2.2.1 ∈ Ts) {v : Value} (hv : fs[k]? = some v) (hdg : decode cc pc = .ok (.getfield index, 3))
    (kk : W p l e R s m args below meth c H locs cells slots Q (F0 m (pc + 3) ls (v :: rest))) : W p l e R s m args below meth c H locs cells slots Q (F0 m pc ls (.ref (ad (a, kn)) :: rest)) := by
  obtain ⟨q, -, hq⟩ := zV_at hP hk0 he
  exact va_get S.1 S.2.1 S.2.2.2.2 hin S.2.2.2.1 hK hP q hq hc k hk (S.2.2.2.2 _ hlink) (fun _ h => h) hv hdg kk
theorem zr_put (S : CallFix p m c cc nL s args Ts own) {C : String} {T : u_T} {N ci index : Nat} (hin : ∀ w ∈ u_ws C T N, w ∈ Ts) (ty0 : Nat → FieldType) (hty : ∀ k, k < N → parseFieldDescriptor (T k).2.2.1 = some (ty0 k)) (hnm : ∀ a, a < N → ∀ b, b < N → a ≠ b → (T a).2.1 ≠ (T b).2.1) (hK : va_K D cl tys s) (hP : zV D cl ks ad E st H) (hD : zD A ks ad) (hS : va_S A H0 H locs) {a kn : Nat} (hk0 : (a, kn) ∈ ks) {fs : List Value} (he : E (a, kn) (st a kn) = .inr (ci, fs)) (hc : cl[ci]? = some (C, T, N)) (k : Nat) (hk : k < N) (hlink : Cond.fieldLink own index (T k).1 (T k).2.1 (T k).2.2.1 ∈ Ts) (hfin : (T k).2.2.2 = false) {v : Int32} (hn : narrow (ty0 k) (.int v) = .int v) (hfit : fits (ty0 k) (.int v) = true) (hl : k < fs.length) (i : Nat) (he' : E (a, kn) (va_up (st a kn) i v) = .inr (ci, fs.set k (.int v)))
    (hdg : decode cc pc = .ok (.putfield index, 3)) (kk : ∀ (H1 : Heap) (locs1 : List Loc), zV D cl ks ad E (zs st a kn i v) H1 → va_S A H0 H1 locs1 → W p l e R s m args below meth c H1 locs1 cells slots Q (F0 m (pc + 3) ls rest)) : W p l e R s m args below meth c H locs cells slots Q (F0 m pc ls (.int v :: .ref (ad (a, kn)) :: rest)) := by
  obtain ⟨q, hq0, hq⟩ := zV_at hP hk0 he
  refine va_put S.1 S.2.1 S.2.2.2.2 hin ty0 hty hnm S.2.2.2.1 hK hP (hD _) hS q hq hc k hk (S.2.2.2.2 _ hlink) (fun _ h => h) hfin (hty k hk) hn hfit hl hdg (fun H1 locs1 hP1 hD1 hS1 => ?_)
  exact kk H1 locs1 (zV_set hD hq0 he' hP1) hS1
theorem zr_iald (S : CallFix p m c cc nL s args Ts own) (hK : va_K D cl tys s) (hP : zV D cl ks ad E st H) {a kn : Nat} (hk0 : (a, kn) ∈ ks) {cA : ClassId} {n : Nat} {f : Nat → Int32} (he : E (a, kn) (st a kn) = .inl (cA, n, .inl f)) (t0 : Nat) (ht : tys[t0]? = some (cA, .int)) {x : Int32} (hx : ¬ zOut x n) (hdg : decode cc pc = .ok (.iaload, 1))
    (kk : W p l e R s m args below meth c H locs cells slots Q (F0 m (pc + 1) ls (.int (f x.toNatClampNeg) :: rest))) : W p l e R s m args below meth c H locs cells slots Q (F0 m pc ls (.int x :: .ref (ad (a, kn)) :: rest)) := by
  obtain ⟨q, -, hq⟩ := zV_at hP hk0 he
  exact va_iald S.1 S.2.1 hK hP q t0 hq ht hx hdg kk
theorem zr_zald (S : CallFix p m c cc nL s args Ts own) (hK : va_K D cl tys s) (hP : zV D cl ks ad E st H) {a kn : Nat} (hk0 : (a, kn) ∈ ks) {cA : ClassId} {n : Nat} {f : Nat → Int32} (he : E (a, kn) (st a kn) = .inl (cA, n, .inl f)) (t0 : Nat) (ht : tys[t0]? = some (cA, .boolean)) {x : Int32} (hx : ¬ zOut x n) (hdg : decode cc pc = .ok (.baload, 1))
    (kk : W p l e R s m args below meth c H locs cells slots Q (F0 m (pc + 1) ls (.int (f x.toNatClampNeg) :: rest))) : W p l e R s m args below meth c H locs cells slots Q (F0 m pc ls (.int x :: .ref (ad (a, kn)) :: rest)) := by
  obtain ⟨q, -, hq⟩ := zV_at hP hk0 he
  exact va_zald S.1 S.2.1 hK hP q t0 hq ht hx hdg kk
theorem zr_alen (S : CallFix p m c cc nL s args Ts own) (hK : va_K D cl tys s) (hP : zV D cl ks ad E st H) {a kn : Nat} (hk0 : (a, kn) ∈ ks) {cA : ClassId} {x : vp_A} (he : E (a, kn) (st a kn) = .inl (cA, x)) (t0 : Nat) {ty : FieldType} (ht : tys[t0]? = some (cA, ty)) {n : Nat} (hn : x.1 = n) (hdg : decode cc pc = .ok (.arraylength, 1))
    (kk : W p l e R s m args below meth c H locs cells slots Q (F0 m (pc + 1) ls (.int (nI n) :: rest))) : W p l e R s m args below meth c H locs cells slots Q (F0 m pc ls (.ref (ad (a, kn)) :: rest)) := by
  obtain ⟨q, -, hq⟩ := zV_at hP hk0 he
  exact va_alen S.1 S.2.1 hK hP q t0 hq ht (v := nI n) (by rw [hn]; rfl) hdg kk
theorem zr_aald (S : CallFix p m c cc nL s args Ts own) (hK : va_K D cl tys s) (hP : zV D cl ks ad E st H) {a kn : Nat} (hk0 : (a, kn) ∈ ks) {cA : ClassId} {n : Nat} {f : Nat → Option Nat} (he : E (a, kn) (st a kn) = .inl (cA, n, .inr (.inr (.inr (.inr f))))) (t0 : Nat) {ty : FieldType} (ht : tys[t0]? = some (cA, ty)) (hty : ty.isReference = true) {b : Nat} {x : Int32} (hx : ¬ zOut x n) (hv : f x.toNatClampNeg = some b) (hdg : decode cc pc = .ok (.aaload, 1))
    (kk : W p l e R s m args below meth c H locs cells slots Q (F0 m (pc + 1) ls (.ref b :: rest))) : W p l e R s m args below meth c H locs cells slots Q (F0 m pc ls (.int x :: .ref (ad (a, kn)) :: rest)) := by
  obtain ⟨q, -, hq⟩ := zV_at hP hk0 he
  have hlt : x.toNatClampNeg < n := Nat.not_le.mp fun q => hx (Or.inr q)
  exact W.aald (v := .ref b) (ty := ty) S.1 S.2.1 (hP q _ hq) ((hK.2 t0 _ ht).1 n (fun j => va_rf (f j))) hty (fun q => by cases q) (by show ¬ (x < 0 ∨ (arrV _ _ _).slots.size ≤ _); rw [arrV_size]; exact hx) (by show (arrV _ _ _).slots[_]? = _; rw [arrV_read _ _ hlt, hv]; rfl) rfl rfl hdg kk
theorem zr_iast (S : CallFix p m c cc nL s args Ts own) (hK : va_K D cl tys s) (hP : zV D cl ks ad E st H) (hD : zD A ks ad) (hS : va_S A H0 H locs) {a kn : Nat} (hk0 : (a, kn) ∈ ks) {cA : ClassId} {n : Nat} (he : ∀ f, E (a, kn) f = .inl (cA, n, .inl f)) (t0 : Nat) (ht : tys[t0]? = some (cA, .int)) {x y : Int32} (hx : ¬ zOut x n) (hdg : decode cc pc = .ok (.iastore, 1))
    (kk : ∀ (H1 : Heap) (locs1 : List Loc), zV D cl ks ad E (zs st a kn x.toNatClampNeg y) H1 → va_S A H0 H1 locs1 → W p l e R s m args below meth c H1 locs1 cells slots Q (F0 m (pc + 1) ls rest)) : W p l e R s m args below meth c H locs cells slots Q (F0 m pc ls (.int y :: .int x :: .ref (ad (a, kn)) :: rest)) := by
  obtain ⟨q, hq0, hq⟩ := zV_at hP hk0 (he _)
  refine va_iast S.1 S.2.1 hK hP (hD _) hS q t0 hq ht hx hdg (fun H1 locs1 hP1 hD1 hS1 => ?_)
  exact kk H1 locs1 (zV_set hD hq0 (he _) hP1) hS1
theorem zr_zast (S : CallFix p m c cc nL s args Ts own) (hK : va_K D cl tys s) (hP : zV D cl ks ad E st H) (hD : zD A ks ad) (hS : va_S A H0 H locs) {a kn : Nat} (hk0 : (a, kn) ∈ ks) {cA : ClassId} {n : Nat} (he : ∀ f, E (a, kn) f = .inl (cA, n, .inl f)) (t0 : Nat) (ht : tys[t0]? = some (cA, .boolean)) {x y : Int32} (hx : ¬ zOut x n) (hy : y = 0 ∨ y = 1) (hdg : decode cc pc = .ok (.bastore, 1))
    (kk : ∀ (H1 : Heap) (locs1 : List Loc), zV D cl ks ad E (zs st a kn x.toNatClampNeg y) H1 → va_S A H0 H1 locs1 → W p l e R s m args below meth c H1 locs1 cells slots Q (F0 m (pc + 1) ls rest)) : W p l e R s m args below meth c H locs cells slots Q (F0 m pc ls (.int y :: .int x :: .ref (ad (a, kn)) :: rest)) := by
  obtain ⟨q, hq0, hq⟩ := zV_at hP hk0 (he _)
  have hnar : vp_nar .boolean y = y := by rcases hy with rfl | rfl <;> rfl
  refine va_zast S.1 S.2.1 hK hP (hD _) hS q t0 hq ht hx hdg (fun H1 locs1 hP1 hD1 hS1 => ?_)
  rw [hnar] at hP1
  exact kk H1 locs1 (zV_set hD hq0 (he _) hP1) hS1
theorem zr_recv {a kn ci : Nat} {fs : List Value} {q : vw_C} (hK : va_K D cl tys s) (hP : zV D cl ks ad E st H) (hk0 : (a, kn) ∈ ks) (he : E (a, kn) (st a kn) = .inr (ci, fs)) (hc : cl[ci]? = some q) : ∃ cell : Cell, H[ad (a, kn)]? = some cell ∧ cell.vm.isStatics = false ∧ s.vm.findClass q.1 = some cell.cls := by
  obtain ⟨i, -, hi⟩ := zV_at hP hk0 he
  exact va_recv hK hP hc hi
/-- a method's contract, with no cell made: from a heap with P it returns r and a heap with Po r; nothing old outside A is changed -/
def zC (Ts : List Cond) (D : va_G) (cl : List vw_C) (tys : List (ClassId × FieldType)) (A : Nat → Prop) (l : Launch) (y : MethodName) (b : ByteArray) (nM : Nat) (ret : Option FieldType) (rm : Room) (av : List Value) (P : Heap → Prop) (Po : Option Value → Heap → Prop) : Prop :=
  Met l y (.code y b nM ret :: Ts) rm (fun v U => v = av.toArray ∧ va_K D cl tys U ∧ P U.heap) (fun _ st oc t => (∃ r, oc = .returned r ∧ Po r t.heap) ∧ va_F A st t) 0 0 A
/-- the state that a method's walk must come to -/
abbrev zQ (below : List Frame) (A : Nat → Prop) (Po : Option Value → Heap → Prop) (args : Array Value) (s : State) : State → Prop := MQ below (fun _ st oc t => (∃ r, oc = .returned r ∧ Po r t.heap) ∧ va_F A st t) args s 0 0 A
theorem zC_of {y : MethodName} {b : ByteArray} {nM : Nat} {ret : Option FieldType} {rm : Room} {av : List Value} {P : Heap → Prop} {Po : Option Value → Heap → Prop} (hy : plainName y.cls = true) (hle : (lg_sl av).length ≤ nM)
    (body : ∀ (p : Program) (e : Env) (s : State) (m : MethodId) (args : Array Value) (below : List Frame) (meth : Method) (c : Code) (ls : Array Slot), CallFix p m c b nM s args Ts y.cls → meth.sig.returnType = ret → meth.locks = false → va_K D cl tys s → P s.heap → lv_has ls nM (lv_args 0 av) → W p l e rm s m args below meth c s.heap [] 0 0 (zQ below A Po args s) (F0 m 0 ls [])) : zC Ts D cl tys A l y b nM ret rm av P Po := by
  refine Met.ofW (cc := b) (maxL := nM) (ret := ret) hy rfl ?_
  intro p e s m args below meth c s₁ B hml hv
  obtain ⟨rfl, hK, hP⟩ := hv
  have hts := atoms_spec (ws := .code y b nM ret :: Ts) B.pre
  rw [lg_entry_eq]
  exact body p e s m _ below meth c _ ⟨B.exec, B.bytes, hml, findClass_of_methodNamed B.named, fun w h => hts w (List.mem_cons_of_mem _ h)⟩ B.returns B.notSynchronized hK hP (lv_entry av hle)
theorem zr_iret {Po : Option Value → Heap → Prop} {v : Int32} (S : CallFix p m c cc nL s args Ts own) (hr : meth.sig.returnType = some .int) (hlk : meth.locks = false) (hS : va_S A s.heap H locs) (hdg : decode cc pc = .ok (.ireturn, 1)) (hPo : Po (some (.int v)) H) : W p l e R s m args below meth c H locs 0 0 (zQ below A Po args s) (F0 m pc ls [.int v]) :=
  W.iret (v := v) S.1 S.2.1 hr (fun t ht _ => ⟨⟨_, rfl, by rw [ht]; exact hPo⟩, hS.F ht⟩) hS.2.2 hdg hlk
theorem zr_zret {Po : Option Value → Heap → Prop} {v : Int32} (S : CallFix p m c cc nL s args Ts own) (hr : meth.sig.returnType = some .boolean) (hlk : meth.locks = false) (hv : v = 0 ∨ v = 1) (hS : va_S A s.heap H locs) (hdg : decode cc pc = .ok (.ireturn, 1)) (hPo : Po (some (.int v)) H) : W p l e R s m args below meth c H locs 0 0 (zQ below A Po args s) (F0 m pc ls [.int v]) :=
  W.zret (v := v) S.1 S.2.1 hr (by rcases hv with rfl | rfl <;> rfl) (fun t ht _ => ⟨⟨_, rfl, by rw [ht]; exact hPo⟩, hS.F ht⟩) hS.2.2 hdg hlk
theorem zr_vret {Po : Option Value → Heap → Prop} (S : CallFix p m c cc nL s args Ts own) (hr : meth.sig.returnType = none) (hlk : meth.locks = false) (hS : va_S A s.heap H locs) (hdg : decode cc pc = .ok (.return_, 1)) (hPo : Po none H) : W p l e R s m args below meth c H locs 0 0 (zQ below A Po args s) (F0 m pc ls []) :=
  W.vret S.1 S.2.1 hr (fun t ht _ => ⟨⟨_, rfl, by rw [ht]; exact hPo⟩, hS.F ht⟩) hS.2.2 hdg hlk
/-- behind a call -/
theorem zr_back {A0 A1 : Nat → Prop} {Po : Option Value → Heap → Prop} {st0 : List Value} {free : Addr → Prop} (hr : va_Run p l e R s m args below meth c H locs cells slots 0 0 (F0 m pc ls st0) rest (fun st oc t => (∃ r, oc = .returned r ∧ Po r t.heap) ∧ va_F A1 st t) free) (hS : va_S A0 H0 H locs) (hA : ∀ q, A1 q → A0 q) (hf : ∀ q, free q → A0 q)
    (kk : ∀ (r : Option Value) (H1 : Heap) (locs1 : List Loc), Po r H1 → H.size ≤ H1.size → (∀ q : Nat, q < H.size → ¬ A1 q → H1[q]? = H[q]?) → va_S A0 H0 H1 locs1 → W p l e R s m args below meth c H1 locs1 cells slots Q (F0 m (pc + 3) ls (r.toList ++ rest))) : W p l e R s m args below meth c H locs cells slots Q (F0 m pc ls st0) := by
  intro T hT X
  obtain ⟨v, st₀, t, T', L, h0, X', hL, e1, e2, ⟨⟨r, hv, hp⟩, hz, hk⟩, st⟩ := hr T hT X
  cases hv
  rw [h0] at hz hk
  obtain ⟨t2, a1, b1⟩ := kk v T'.heap (locs ++ L) (by rw [e1]; exact hp) (by rw [e1]; exact hz) (fun q h1 h2 => by rw [e1]; exact hk q h1 h2)
    ⟨Nat.le_trans hS.1 (by rw [e1]; exact hz), fun q h1 h2 => by rw [e1, hk q (Nat.lt_of_lt_of_le h1 hS.1) (fun z => h2 (hA q z))]; exact hS.2.1 q h1 h2, fun q hq => by
      rcases List.mem_append.mp hq with h | h
      · exact hS.2.2 q h
      · exact hf _ (hL q h)⟩ T' rfl X'
  exact ⟨t2, st t2 a1, b1⟩
/-- what a call asks of the callee's name, once a callee -/
def zN (Ts : List Cond) (y : MethodName) (b : ByteArray) (nM : Nat) (ret : Option FieldType) (n : Nat) : Prop :=
  Cond.initialized y.cls ∈ Ts ∧ Cond.code y b nM ret ∈ Ts ∧ y.cls ≠ "java/lang/invoke/MethodHandle" ∧ y.cls ≠ "java/lang/invoke/VarHandle" ∧ (parseMethodDescriptor y.desc).map (fun d => d.parameters.length) = some n
def zNV (Ts : List Cond) (y : MethodName) (b : ByteArray) (nM : Nat) (ret : Option FieldType) (n : Nat) : Prop := zN Ts y b nM ret n ∧ Cond.instanceMethod y ∈ Ts ∧ Cond.selects y.cls y y ∈ Ts
theorem zr_callB {y : MethodName} {b : ByteArray} {nM n index : Nat} {ret : Option FieldType} {rm : Room} (hG : zGood Ts) (hts : ∀ w ∈ Ts, w.before args s = true) (hN : zN Ts y b nM ret n) (hlink : Cond.methodLink own index y ∈ Ts) (hrm : rm.cells = 0 ∧ rm.slots = 0) (hR : rm.frames + 1 ≤ R.frames ∧ 8 + (nM + 11) + rm.locals ≤ R.locals) : CallB R s args own index y b nM ret (.code y b nM ret :: Ts) rm 0 0 n := by
  obtain ⟨h1, h2, h3, h4, h5⟩ := hN
  refine callB_of n hts (fun w hw => ?_) rfl hrm.1 hrm.2 (hts _ h1) (hts _ hlink) ⟨h3, h4, h5⟩ hR
  rcases List.mem_cons.mp hw with rfl | hw
  · exact ⟨h2, hG _ h2⟩
  · exact ⟨hw, hG _ hw⟩
theorem zr_blind {av : List Value} {P : Heap → Prop} : FrameBlind (fun v U => v = av.toArray ∧ va_K D cl tys U ∧ P U.heap) := fun _ U g mk q => ⟨q.1, va_K.moved (u := U) (U := U.calling g mk _) (Vm.Alike.refl U.vm) q.2.1, q.2.2⟩
theorem zr_callV {A1 : Nat → Prop} {y : MethodName} {b : ByteArray} {nM index a : Nat} {ret : Option FieldType} {rm : Room} {As : List Value} {P : Heap → Prop} {Po : Option Value → Heap → Prop} (S : CallFix p m c cc nL s args Ts own) (hG : zGood Ts) (hM : zC Ts D cl tys A1 l y b nM ret rm (.ref a :: As) P Po) (hN : zNV Ts y b nM ret As.length) (hlink : Cond.methodLink own index y ∈ Ts) (hrm : rm.cells = 0 ∧ rm.slots = 0) (hR : rm.frames + 1 ≤ R.frames ∧ 8 + (nM + 11) + rm.locals ≤ R.locals) (hcs : cells ≤ R.cells ∧ slots ≤ R.slots) (hK : va_K D cl tys s) (hrecv : ∃ cell : Cell, H[a]? = some cell ∧ cell.vm.isStatics = false ∧ s.vm.findClass y.cls = some cell.cls) (hP : P H) (hsize : ls.size = nL) (hrest : (rest.map fun v => v.category).sum ≤ 8) {A0 : Nat → Prop} (hS : va_S A0 H0 H locs) (hA : ∀ q, A1 q → A0 q) (hdg : decode cc pc = .ok (.invokevirtual index, 3)) {st0 : List Value} (hst : st0 = As.reverse ++ .ref a :: rest)
    (kk : ∀ (r : Option Value) (H1 : Heap) (locs1 : List Loc), Po r H1 → H.size ≤ H1.size → (∀ q : Nat, q < H.size → ¬ A1 q → H1[q]? = H[q]?) → va_S A0 H0 H1 locs1 → W p l e R s m args below meth c H1 locs1 cells slots Q (F0 m (pc + 3) ls (r.toList ++ rest))) : W p l e R s m args below meth c H locs cells slots Q (F0 m pc ls st0) := by
  refine zr_back (rest := rest) (A1 := A1) (free := A1) (Po := Po) ?_ hS hA hA kk
  exact va_runV (C := y.cls) (As := As) (b := a) S hM ⟨zr_callB hG S.2.2.2.2 hN.1 hlink hrm hR, S.2.2.2.2 _ hN.2.1, S.2.2.2.2 _ hN.2.2⟩ ⟨zr_blind, hrecv, fun U hU hW => ⟨rfl, va_K.moved hW.alike hK, by rw [hU]; exact hP⟩⟩ rfl rfl hsize hst (lv_room hrest) hdg hcs
theorem zr_callS {A1 : Nat → Prop} {y : MethodName} {b : ByteArray} {nM index : Nat} {ret : Option FieldType} {rm : Room} {As : List Value} {P : Heap → Prop} {Po : Option Value → Heap → Prop} (S : CallFix p m c cc nL s args Ts own) (hG : zGood Ts) (hM : zC Ts D cl tys A1 l y b nM ret rm As P Po) (hN : zN Ts y b nM ret As.length ∧ Cond.static y ∈ Ts) (hlink : Cond.methodLink own index y ∈ Ts) (hrm : rm.cells = 0 ∧ rm.slots = 0) (hR : rm.frames + 1 ≤ R.frames ∧ 8 + (nM + 11) + rm.locals ≤ R.locals) (hcs : cells ≤ R.cells ∧ slots ≤ R.slots) (hK : va_K D cl tys s) (hP : P H) (hsize : ls.size = nL) (hrest : (rest.map fun v => v.category).sum ≤ 8) {A0 : Nat → Prop} (hS : va_S A0 H0 H locs) (hA : ∀ q, A1 q → A0 q) (hdg : decode cc pc = .ok (.invokestatic index, 3)) {st0 : List Value} (hst : st0 = As.reverse ++ rest)
    (kk : ∀ (r : Option Value) (H1 : Heap) (locs1 : List Loc), Po r H1 → H.size ≤ H1.size → (∀ q : Nat, q < H.size → ¬ A1 q → H1[q]? = H[q]?) → va_S A0 H0 H1 locs1 → W p l e R s m args below meth c H1 locs1 cells slots Q (F0 m (pc + 3) ls (r.toList ++ rest))) : W p l e R s m args below meth c H locs cells slots Q (F0 m pc ls st0) := by
  refine zr_back (rest := rest) (A1 := A1) (free := A1) (Po := Po) ?_ hS hA hA kk
  exact va_runS (As := As) S hM ⟨zr_callB hG S.2.2.2.2 hN.1 hlink hrm hR, S.2.2.2.2 _ hN.2⟩ ⟨zr_blind, fun U hU hW => ⟨rfl, va_K.moved hW.alike hK, by rw [hU]; exact hP⟩⟩ rfl rfl hsize hst (lv_room hrest) hdg hcs
end ZRA
