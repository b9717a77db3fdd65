/-! Contracts that make cells, and the rows to call them. -/
theorem zAOA_moved {u U : State} (hvm : u.vm.Alike U.vm) (h : (Cond.arrayOver (.array .int)).before #[] u = true) : (Cond.arrayOver (.array .int)).before #[] U = true := by
  obtain ⟨comp, c, k, h1, h2, h3, h4, h5⟩ := arrayOverA_spec h
  obtain ⟨k', hk', he⟩ := hvm.2.2 _ _ h3
  have hb1 := va_idx_bare u.vm comp
  have hb2 := va_idx_bare U.vm comp
  first | rw [hvm.bare_eq] at hb2 | rw [← hvm.bare_eq] at hb2
  have hi := hb2.symm.trans (hb1.trans h2)
  have hkind : k'.kind = .array comp (.array .int) := by rw [he]; exact h4
  have f1 : U.vm.findClass (FieldType.array .int).toString = some comp := by rw [hvm.findClass]; exact h1
  have f2 : U.vm.findClass ("[" ++ (FieldType.array .int).toString) = some c := by rw [hvm.findClass]; exact h5
  unfold Cond.before Cond.holds
  simp only [Cond.value]
  rw [f1, Option.bind_some]
  refine (congrArg (fun o : Option Nat => (o.bind (fun c => (U.vm.classes[c]?).map fun (k : Class) => match k.kind with | .array _ ty => decide (ty = FieldType.array .int) && decide (U.vm.findClass ("[" ++ (FieldType.array .int).toString) = some c) | _ => false) == some true)) hi).trans ?_
  simp [hk', hkind, f2]
/-- what a constructor needs of the tables, beside the words -/
def zNs (U : State) : Prop := va_AO N_R U ∧ (Cond.arrayOver (.array .int)).before #[] U = true ∧ va_Nw (.methodLinkNest N_D 38 y_L_init N_D) U
def zKq (D : va_G) (tys : List (ClassId × FieldType)) (U : State) : Prop := va_K D zcl tys U ∧ zNs U
theorem zKq_warm {D : va_G} {tys : List (ClassId × FieldType)} {s U : State} (hW : s.WarmedH U.vm) (h : zKq D tys s) : zKq D tys U := ⟨va_K.moved hW.alike h.1, va_AO.moved hW.alike h.2.1, zAOA_moved hW.alike h.2.2.1, va_Nw.warmM hW h.2.2.2⟩
/-- the array class of a name is one -/
theorem zty_one {D : va_G} {tys t : List (ClassId × FieldType)} {s : State} {cX cY : ClassId} {ty : FieldType} (hK : va_K D zcl tys s) {i : Nat} (hi : tys[i]? = some (cX, ty)) (h : va_K D zcl (t ++ [(cY, ty)]) s) : cY = cX := by
  have h1 := (hK.2 i _ hi).2
  have h2 := (h.2 t.length (cY, ty) (by simp)).2
  cases ty with
  | object C =>
    obtain ⟨_, _, _, _, _, a⟩ := h1
    obtain ⟨_, _, _, _, _, b⟩ := h2
    exact Option.some.inj (b.symm.trans a)
  | _ => exact Option.some.inj (h2.symm.trans h1)
theorem zarrV_to (c : ClassId) (n : Nat) {f g : Nat → Value} (h : ∀ j, j < n → f j = g j) : arrV c n f = arrV c n g := by
  unfold arrV
  have e : (Array.ofFn (n := n) fun j => f j.val) = Array.ofFn (n := n) fun j => g j.val := by
    congr 1
    funext j
    exact h j.val j.isLt
  rw [e]
theorem zat_i {D : va_G} {q n : Nat} {c : ClassId} {f g : Nat → Int32} {H : Heap} (hP : va_at D zcl (q, .inl (c, n, .inl f)) H) (h : ∀ j, j < n → f j = g j) : va_at D zcl (q, .inl (c, n, .inl g)) H := by
  have hP : H[q]? = some (arrV c n (fun j => .int (f j))) := hP
  show H[q]? = some (arrV c n (fun j => .int (g j)))
  rw [hP, zarrV_to c n (fun j hj => by show Value.int (f j) = Value.int (g j); rw [h j hj])]
theorem zat_q {D : va_G} {q n : Nat} {c : ClassId} {f g : Nat → Option Nat} {H : Heap} (hP : va_at D zcl (q, .inl (c, n, zrefs f)) H) (h : ∀ j, j < n → f j = g j) : va_at D zcl (q, .inl (c, n, zrefs g)) H := by
  have hP : H[q]? = some (arrV c n (fun j => va_rf (f j))) := hP
  show H[q]? = some (arrV c n (fun j => va_rf (g j)))
  rw [hP, zarrV_to c n (fun j hj => by show va_rf (f j) = va_rf (g j); rw [h j hj])]
theorem zP_1 {D : va_G} {a : Nat × va_E} {H : Heap} (h : va_at D zcl a H) : va_P D zcl [a] H := fun k q hq => by
  rcases List.mem_singleton.mp (List.mem_of_getElem? hq) with rfl
  exact h
theorem zP_c {D : va_G} {a : Nat × va_E} {ws : va_W} {H : Heap} (h : va_at D zcl a H) (h2 : va_P D zcl ws H) : va_P D zcl (a :: ws) H := fun k q hq => by
  cases k with
  | zero => cases hq; exact h
  | succ k => exact h2 k q hq
theorem zD_1 {A : Nat → Prop} {a : Nat × va_E} (h : A a.1) : va_D A [a] := ⟨fun i j p q hi hj _ => by
    have a := (List.getElem?_eq_some_iff.mp hi).1
    have b := (List.getElem?_eq_some_iff.mp hj).1
    simp only [List.length_cons, List.length_nil] at a b
    omega, fun k q hq => by
    rcases List.mem_singleton.mp (List.mem_of_getElem? hq) with rfl
    exact h⟩
theorem zD_ne {A : Nat → Prop} {ws : va_W} (h : va_D A ws) (i j : Nat) {p q : Nat × va_E} (hi : ws[i]? = some p) (hj : ws[j]? = some q) (hij : i ≠ j) : p.1 ≠ q.1 := fun e => hij (h.1 i j p q hi hj e)
def zCi (D : va_G) (tys : List (ClassId × FieldType)) (A : Nat → Prop) (l : Launch) (y : MethodName) (b : ByteArray) (nM : Nat) (rm : Room) (av : List Value) (P : Heap → Prop) (Po : Heap → Prop) (mc ms : Nat) : Prop :=
  Met l y (.code y b nM none :: zTi) rm (fun v U => v = av.toArray ∧ zKq D tys U ∧ P U.heap) (fun _ st oc t => (oc = .returned none ∧ Po t.heap) ∧ va_F A st t) mc ms A
abbrev zQi (below : List Frame) (A : Nat → Prop) (Po : Heap → Prop) (args : Array Value) (s : State) (mc ms : Nat) : State → Prop := MQ below (fun _ st oc t => (oc = .returned none ∧ Po t.heap) ∧ va_F A st t) args s mc ms A
section ZI
variable {p : Program} {l : Launch} {e : Env} {R : Room} {s : State} {m : MethodId} {args : Array Value} {below : List Frame} {meth : Method} {c : Code} {H : Heap} {locs : List Loc} {cells slots : Nat} {Q : State → Prop}
variable {cc : ByteArray} {pc nL : Nat} {ls : Array Slot} {rest : List Value} {D : va_G} {A : Nat → Prop} {tys : List (ClassId × FieldType)} {H0 : Heap} {Ts : List Cond} {own : String}
theorem zCi_of {y : MethodName} {b : ByteArray} {nM mc ms : Nat} {rm : Room} {av : List Value} {P Po : Heap → Prop} (hy : plainName y.cls = true) (hle : (lg_sl av).length ≤ nM)
    (body : ∀ (p : Program) (e : Env) (s : State) (m : MethodId) (args : Array Value) (below : List Frame) (meth : Method) (c : Code) (ls : Array Slot), CallFix p m c b nM s args zTi y.cls → meth.sig.returnType = none → meth.locks = false → meth.name = y.name → zKq D tys s → P s.heap → lv_has ls nM (lv_args 0 av) → W p l e rm s m args below meth c s.heap [] 0 0 (zQi below A Po args s mc ms) (F0 m 0 ls [])) : zCi D tys A l y b nM rm av P Po mc ms := by
  refine Met.ofW (cc := b) (maxL := nM) (ret := none) hy rfl ?_
  intro p e s m args below meth c s₁ B hml hv
  obtain ⟨rfl, hK, hP⟩ := hv
  have hts := atoms_spec (ws := .code y b nM none :: zTi) B.pre
  rw [lg_entry_eq]
  exact body p e s m _ below meth c _ ⟨B.exec, B.bytes, hml, findClass_of_methodNamed B.named, fun w h => hts w (List.mem_cons_of_mem _ h)⟩ B.returns B.notSynchronized (name_of_methodNamed B.named B.method).1 hK hP (lv_entry av hle)
theorem zi_ret {Po : Heap → Prop} {mc ms : Nat} (S : CallFix p m c cc nL s args Ts own) (hr : meth.sig.returnType = none) (hlk : meth.locks = false) (hS : va_S A s.heap H locs) (hc : cells ≤ mc) (hs : slots ≤ ms) (hdg : decode cc pc = .ok (.return_, 1)) (hPo : Po H) : W p l e R s m args below meth c H locs cells slots (zQi below A Po args s mc ms) (F0 m pc ls []) :=
  W.widen hc hs (W.vret S.1 S.2.1 hr (fun t ht _ => ⟨⟨rfl, by rw [ht]; exact hPo⟩, hS.F ht⟩) hS.2.2 hdg hlk)
theorem zi_back {A0 A1 : Nat → Prop} {Po : Heap → Prop} {st0 : List Value} {free : Addr → Prop} {mc ms : Nat} (hr : va_Run p l e R s m args below meth c H locs cells slots mc ms (F0 m pc ls st0) rest (fun st oc t => (oc = .returned none ∧ Po t.heap) ∧ va_F A1 st t) free) (hS : va_S A0 H0 H locs) (hA : ∀ q, q < H.size → A1 q → A0 q) (hf : ∀ q, free q → A0 q)
    (kk : ∀ (H1 : Heap) (locs1 : List Loc), Po H1 → H.size ≤ H1.size → (∀ q : Nat, q < H.size → ¬ A1 q → H1[q]? = H[q]?) → va_S A0 H0 H1 locs1 → W p l e R s m args below meth c H1 locs1 (cells + mc) (slots + ms) Q (F0 m (pc + 3) ls rest)) : W p l e R s m args below meth c H locs cells slots Q (F0 m pc ls st0) := by
  intro T hT X
  obtain ⟨v, st₀, t, T', L, h0, X', hL, e1, e2, ⟨⟨hv, hp⟩, hz, hk⟩, st⟩ := hr T hT X
  cases hv
  rw [h0] at hz hk
  obtain ⟨t2, a1, b1⟩ := kk T'.heap (locs ++ L) (by rw [e1]; exact hp) (by rw [e1]; exact hz) (fun q h1 h2 => by rw [e1]; exact hk q h1 h2)
    ⟨Nat.le_trans hS.1 (by rw [e1]; exact hz), fun q h1 h2 => by rw [e1, hk q (Nat.lt_of_lt_of_le h1 hS.1) (fun z => h2 (hA q (Nat.lt_of_lt_of_le h1 hS.1) z))]; exact hS.2.1 q h1 h2, fun q hq => by
      rcases List.mem_append.mp hq with h | h
      · exact hS.2.2 q h
      · exact hf _ (hL q h)⟩ T' rfl X'
  exact ⟨t2, st t2 a1, b1⟩
theorem zi_blind {av : List Value} {P : Heap → Prop} : FrameBlind (fun v U => v = av.toArray ∧ zKq D tys U ∧ P U.heap) := fun _ U g mk q => ⟨q.1, ⟨va_K.moved (u := U) (U := U.calling g mk _) (Vm.Alike.refl U.vm) q.2.1.1, va_AO.moved (u := U) (U := U.calling g mk _) (Vm.Alike.refl U.vm) q.2.1.2.1, zAOA_moved (u := U) (U := U.calling g mk _) (Vm.Alike.refl U.vm) q.2.1.2.2.1, va_Nw.same (u := U) (U := U.calling g mk _) rfl rfl q.2.1.2.2.2⟩, q.2.2⟩
theorem zi_good {y : MethodName} {b : ByteArray} {nM : Nat} {ret : Option FieldType} (h2 : Cond.code y b nM ret ∈ zTi) : GoodIn zTi (.code y b nM ret :: zTi) := fun w hw => by
  rcases List.mem_cons.mp hw with rfl | hw
  · exact ⟨h2, zTi_good _ h2⟩
  · exact ⟨hw, zTi_good _ hw⟩
theorem zi_callI {A0 A1 : Nat → Prop} {y : MethodName} {b : ByteArray} {nM index a mc ms : Nat} {rm : Room} {As : List Value} {P Po : Heap → Prop} (S : CallFix p m c cc nL s args Ts own) (hti : ∀ w ∈ zTi, w.before args s = true) (hM : zCi D tys A1 l y b nM rm (.ref a :: As) P Po mc ms) (hN : zN zTi y b nM none As.length) (hy : y.name = "<init>") (him : Cond.instanceMethod y ∈ zTi) (hlink : (Cond.methodLink own index y).before args s = true) (hrm : rm.cells = mc ∧ rm.slots = ms) (hR : rm.frames + 1 ≤ R.frames ∧ 8 + (nM + 11) + rm.locals ≤ R.locals) (hcs : cells + mc ≤ R.cells ∧ slots + ms ≤ R.slots) (hK : zKq D tys s) (hP : P H) (hsize : ls.size = nL) (hrest : (rest.map fun v => v.category).sum ≤ 8) (hS : va_S A0 H0 H locs) (hA : ∀ q, A1 q → A0 q) (hdg : decode cc pc = .ok (.invokespecial index, 3)) {st0 : List Value} (hst : st0 = As.reverse ++ .ref a :: rest)
    (kk : ∀ (H1 : Heap) (locs1 : List Loc), Po H1 → H.size ≤ H1.size → (∀ q : Nat, q < H.size → ¬ A1 q → H1[q]? = H[q]?) → va_S A0 H0 H1 locs1 → W p l e R s m args below meth c H1 locs1 (cells + mc) (slots + ms) Q (F0 m (pc + 3) ls rest)) : W p l e R s m args below meth c H locs cells slots Q (F0 m pc ls st0) := by
  obtain ⟨h1, h2, h3, h4, h5⟩ := hN
  refine zi_back (rest := rest) (A1 := A1) (free := A1) (Po := Po) ?_ hS (fun q _ h => hA q h) hA kk
  exact va_runI (As := As) (b := a) S hM ⟨callB_of As.length hti (zi_good h2) rfl hrm.1 hrm.2 (hti _ h1) hlink ⟨h3, h4, h5⟩ hR, hy, hti _ him⟩ ⟨zi_blind, fun U hU hW => ⟨rfl, zKq_warm hW hK, by rw [hU]; exact hP⟩⟩ rfl rfl hsize hst (lv_room hrest) hdg hcs
theorem zi_callN {A0 A1 : Nat → Prop} {y : MethodName} {b : ByteArray} {nM index a mc ms : Nat} {host : String} {rm : Room} {As : List Value} {P Po : Heap → Prop} (S : CallFix p m c cc nL s args Ts own) (hti : ∀ w ∈ zTi, w.before args s = true) (hM : zCi D tys A1 l y b nM rm (.ref a :: As) P Po mc ms) (hN : zN zTi y b nM none As.length) (hy : y.name = "<init>") (him : Cond.instanceMethod y ∈ zTi) (hlink : va_Nw (.methodLinkNest own index y host) s) (hrm : rm.cells = mc ∧ rm.slots = ms) (hR : rm.frames + 1 ≤ R.frames ∧ 8 + (nM + 11) + rm.locals ≤ R.locals) (hcs : cells + mc ≤ R.cells ∧ slots + ms ≤ R.slots) (hK : zKq D tys s) (hP : P H) (hsize : ls.size = nL) (hrest : (rest.map fun v => v.category).sum ≤ 8) (hS : va_S A0 H0 H locs) (hA : ∀ q, A1 q → A0 q) (hdg : decode cc pc = .ok (.invokespecial index, 3)) {st0 : List Value} (hst : st0 = As.reverse ++ .ref a :: rest)
    (kk : ∀ (H1 : Heap) (locs1 : List Loc), Po H1 → H.size ≤ H1.size → (∀ q : Nat, q < H.size → ¬ A1 q → H1[q]? = H[q]?) → va_S A0 H0 H1 locs1 → W p l e R s m args below meth c H1 locs1 (cells + mc) (slots + ms) Q (F0 m (pc + 3) ls rest)) : W p l e R s m args below meth c H locs cells slots Q (F0 m pc ls st0) := by
  obtain ⟨h1, h2, h3, h4, h5⟩ := hN
  refine zi_back (rest := rest) (A1 := A1) (free := A1) (Po := Po) ?_ hS (fun q _ h => hA q h) hA kk
  exact va_runIN (As := As) (b := a) S hM ⟨va_cnB As.length hti (zi_good h2) rfl hrm.1 hrm.2 hlink (hti _ h1) ⟨h3, h4, h5⟩ hR, hy, hti _ him⟩ ⟨zi_blind, fun U hU hW => ⟨rfl, zKq_warm hW hK, by rw [hU]; exact hP⟩⟩ rfl rfl hsize hst (lv_room hrest) hdg hcs
/-- new Object's own constructor -/
theorem zi_obj {a idx : Nat} (S : CallFix p m c cc nL s args zTi own) (hlink : Cond.methodLink own idx objectInit ∈ zTi) (hsize : ls.size = nL) (hframes : 1 ≤ R.frames) (hlocals : (rest.map fun v => v.category).sum + 12 ≤ R.locals) (hdg : decode cc pc = .ok (.invokespecial idx, 3)) (kk : W p l e R s m args below meth c H locs cells slots Q (F0 m (pc + 3) ls rest)) : W p l e R s m args below meth c H locs cells slots Q (F0 m pc ls (.ref a :: rest)) :=
  W.objInit (rest := rest) S.1 S.2.1 S.2.2.2.1 (S.2.2.2.2 _ hlink) (S.2.2.2.2 _ (zwi 1 rfl)) (S.2.2.2.2 _ (zwi 2 rfl)) rfl (by show ls.size = _; rw [hsize]; exact S.2.2.1.symm) rfl hdg hframes (by show 2 * 0 + _ + 12 ≤ _; omega) kk
end ZI
