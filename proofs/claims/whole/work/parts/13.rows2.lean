/-! More rows: a copy within one array, a reference handed back, switches, booleans. -/
def zFuel : Nat := 3000
theorem zbind {α β : Type} {u : α} {f : α → Option β} {o : Option β} (h : (some u).bind f = o) : f u = o := h
def zrow (st : zS) (a k : Nat) (g : Nat → Int32) : zS := fun a' k' => if a' = a ∧ k' = k then g else st a' k'
abbrev zCpyOut (sp dp ln : Int32) (n : Nat) : Prop := (sp < 0 ∨ dp < 0 ∨ ln < 0) ∨ n < sp.toNatClampNeg + ln.toNatClampNeg ∨ n < dp.toNatClampNeg + ln.toNatClampNeg
theorem zrow_s (st : zS) (a k : Nat) (g : Nat → Int32) : zrow st a k g a k = g := by
  unfold zrow
  rw [if_pos ⟨rfl, rfl⟩]
theorem zrow_n (st : zS) (a k : Nat) (g : Nat → Int32) {a' k' : Nat} (h : (a', k') ≠ (a, k)) : zrow st a k g a' k' = st a' k' := by
  unfold zrow
  rw [if_neg (fun c => h (by rw [c.1, c.2]))]
theorem zb_n {v : Int32} (h : v = 0 ∨ v = 1) : narrow .boolean (.int v) = .int v := by rcases h with rfl | rfl <;> rfl
theorem zb_f {v : Int32} (h : v = 0 ∨ v = 1) : fits .boolean (.int v) = true := by rcases h with rfl | rfl <;> rfl
theorem zsw_2 {x : Int32} (h0 : ¬ x = 0) (h1 : ¬ x = 1) (h2 : ¬ x = 2) : x.toInt < 0 ∨ 2 < x.toInt := by
  have e0 : x.toInt ≠ 0 := fun h => h0 (Int32.toInt_inj.mp h)
  have e1 : x.toInt ≠ 1 := fun h => h1 (Int32.toInt_inj.mp h)
  have e2 : x.toInt ≠ 2 := fun h => h2 (Int32.toInt_inj.mp h)
  omega
theorem zsw_5 {x : Int32} (h0 : ¬ x = 0) (h1 : ¬ x = 1) (h2 : ¬ x = 2) (h3 : ¬ x = 3) (h4 : ¬ x = 4) (h5 : ¬ x = 5) : x.toInt < 0 ∨ 5 < x.toInt := by
  have e0 : x.toInt ≠ 0 := fun h => h0 (Int32.toInt_inj.mp h)
  have e1 : x.toInt ≠ 1 := fun h => h1 (Int32.toInt_inj.mp h)
  have e2 : x.toInt ≠ 2 := fun h => h2 (Int32.toInt_inj.mp h)
  have e3 : x.toInt ≠ 3 := fun h => h3 (Int32.toInt_inj.mp h)
  have e4 : x.toInt ≠ 4 := fun h => h4 (Int32.toInt_inj.mp h)
  have e5 : x.toInt ≠ 5 := fun h => h5 (Int32.toInt_inj.mp h)
  omega
section ZRB
variable {p : Program} {l : Launch} {e : Env} {R : Room} {s : State} {m : MethodId} {args : Array Value} {below : List Frame} {meth : Method} {c : Code} {H : Heap} {locs : List Loc} {cells slots : Nat} {Q : State → Prop}
variable {cc : ByteArray} {pc nL : Nat} {ls : Array Slot} {rest : List Value} {D : va_G} {cl : List vw_C} {A : Nat → Prop} {tys : List (ClassId × FieldType)} {H0 : Heap} {Ts : List Cond} {own : String} {ks : List zK} {ad : zK → Nat} {E : zK → (Nat → Int32) → va_E} {st : zS}
theorem zr_aret {Po : Option Value → Heap → Prop} {a : Nat} {C : String} (S : CallFix p m c cc nL s args Ts own) (hr : meth.sig.returnType = some (.object C)) (hlk : meth.locks = false) (hS : va_S A s.heap H locs) (hdg : decode cc pc = .ok (.areturn, 1)) (hPo : Po (some (.ref a)) H) : W p l e R s m args below meth c H locs 0 0 (zQ below A Po args s) (F0 m pc ls [.ref a]) :=
  W.aret (v := .ref a) (rt := .object C) S.1 S.2.1 hr (Or.inl ⟨_, rfl⟩) (Or.inr ⟨_, rfl⟩) (fun t ht _ => ⟨⟨_, rfl, by rw [ht]; exact hPo⟩, hS.F ht⟩) hS.2.2 hdg hlk
theorem zr_copy (S : CallFix p m c cc nL s args Ts own) (hsz : ls.size = nL) {index : Nat} (hlink : Cond.methodLink own index arraycopyName ∈ Ts) (hnat : Cond.native arraycopyName ∈ Ts) (hstat : Cond.static arraycopyName ∈ Ts) (hini : Cond.initialized "java/lang/System" ∈ Ts) (hK : va_K D cl tys s) (hP : zV D cl ks ad E st H) (hD : zD A ks ad) (hS : va_S A H0 H locs) {a kn : Nat} (hk0 : (a, kn) ∈ ks) {cA : ClassId} {n : Nat} (he : ∀ f, E (a, kn) f = .inl (cA, n, .inl f)) (t0 : Nat) (ht : tys[t0]? = some (cA, .int)) {sp dp ln : Int32} (hx : ¬ zCpyOut sp dp ln n)
    (hframes : 1 ≤ R.frames) (hlocals : (rest.map fun v => v.category).sum + (nativeFrameWords "java/lang/System" "arraycopy" 5 + 11) ≤ R.locals) (hdg : decode cc pc = .ok (.invokestatic index, 3))
    (kk : ∀ (H1 : Heap) (locs1 : List Loc), zV D cl ks ad E (zrow st a kn (va_cpy (st a kn) (st a kn) sp.toNatClampNeg dp.toNatClampNeg ln.toNatClampNeg)) H1 → va_S A H0 H1 locs1 → W p l e R s m args below meth c H1 locs1 cells slots Q (F0 m (pc + 3) ls rest)) : W p l e R s m args below meth c H locs cells slots Q (F0 m pc ls (.int ln :: .int dp :: .ref (ad (a, kn)) :: .int sp :: .ref (ad (a, kn)) :: rest)) := by
  obtain ⟨q, hq0, hq⟩ := zV_at hP hk0 (he _)
  have h1 : ¬ sp < 0 := fun h => hx (Or.inl (Or.inl h))
  have h2 : ¬ dp < 0 := fun h => hx (Or.inl (Or.inr (Or.inl h)))
  have h3 : ¬ ln < 0 := fun h => hx (Or.inl (Or.inr (Or.inr h)))
  have h4 : sp.toNatClampNeg + ln.toNatClampNeg ≤ n := Nat.not_lt.mp fun h => hx (Or.inr (Or.inl h))
  have h5 : dp.toNatClampNeg + ln.toNatClampNeg ≤ n := Nat.not_lt.mp fun h => hx (Or.inr (Or.inr h))
  refine va_copyi S.1 S.2.1 (S.2.2.1.trans hsz.symm) S.2.2.2.1 (S.2.2.2.2 _ hlink) (S.2.2.2.2 _ hnat) (S.2.2.2.2 _ hstat) (S.2.2.2.2 _ hini) hK hP (hD _) hS q q t0 t0 hq hq ht ht rfl h1 h2 h3 h4 h5 (fun _ _ => rfl) hframes hlocals hdg (fun H1 locs1 hP1 hD1 hS1 => ?_)
  refine kk H1 locs1 ?_ hS1
  rw [zW_set (ct' := fun j => E j (zrow st a kn (va_cpy (st a kn) (st a kn) sp.toNatClampNeg dp.toNatClampNeg ln.toNatClampNeg) j.1 j.2)) (hD _) hq0 (by show E (a, kn) (zrow st a kn _ a kn) = _; rw [zrow_s, he]) (fun j _ hne => by
    show E j (zrow st a kn _ j.1 j.2) = E j (st j.1 j.2)
    rw [zrow_n st a kn _ (a' := j.1) (k' := j.2) hne])] at hP1
  exact hP1
end ZRB
