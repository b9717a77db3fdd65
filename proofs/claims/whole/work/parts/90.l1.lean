/-! The law: a call of each side, with the two worlds apart. -/
def lwA (ks : List zK) (ad : zK → Nat) : Nat → Prop := fun q => ∃ k, k ∈ ks ∧ q = ad k
abbrev lwN (s : State) : Nat → Prop := fun q => s.heap.size ≤ q
def lwF (n : Nat) (ad1 ad2 : zK → Nat) (s : State) : Prop := zD (lwN s) (zKs n) ad1 ∧ zD (lwN s) zKm ad2 ∧ ∀ k1, k1 ∈ zKs n → ∀ k2, k2 ∈ zKm → ad1 k1 ≠ ad2 k2
theorem lwA_D {A : Nat → Prop} {ks : List zK} {ad : zK → Nat} (h : zD A ks ad) : zD (lwA ks ad) ks ad := fun ct => ⟨(h ct).1, fun k q hq => by
  rw [List.getElem?_map] at hq
  cases hk : ks[k]? with
  | none => rw [hk] at hq; cases hq
  | some j =>
    rw [hk] at hq
    cases hq
    exact ⟨j, List.mem_of_getElem? hk, rfl⟩⟩
theorem lwA_in {A : Nat → Prop} {ks : List zK} {ad : zK → Nat} (h : zD A ks ad) : ∀ q, lwA ks ad q → A q := fun q ⟨k, hk, e⟩ => by
  obtain ⟨i, hi⟩ := List.getElem?_of_mem hk
  have := (h (fun _ => .inr (0, []))).2 i (ad k, .inr (0, [])) (by rw [List.getElem?_map, hi]; rfl)
  rw [e]; exact this
theorem zV_kept {D : va_G} {cl : List vw_C} {ks : List zK} {ad : zK → Nat} {E : zK → (Nat → Int32) → va_E} {st : zS} {H H1 : Heap} (hP : zV D cl ks ad E st H) (h : ∀ k, k ∈ ks → ad k < H.size → H1[ad k]? = H[ad k]?) : zV D cl ks ad E st H1 := by
  refine va_P.kept hP (fun i q hq => ?_)
  have hlt := (hP i q hq).lt
  rw [List.getElem?_map] at hq
  cases hk : ks[i]? with
  | none => rw [hk] at hq; cases hq
  | some j =>
    rw [hk] at hq
    cases hq
    exact h j (List.mem_of_getElem? hk) hlt
section LW
variable {p : Program} {l : Launch} {e : Env} {R : Room} {s : State} {m : MethodId} {args : Array Value} {below : List Frame} {meth : Method} {c : Code} {H : Heap} {cells slots : Nat} {Q : State → Prop}
variable {cc : ByteArray} {pc nL : Nat} {ls : Array Slot} {rest : List Value} {dC : Nat → ClassId} {dI : Nat → Nat → Nat} {cI cZ cR cA : ClassId} {own : String} {n : Nat} {ad1 ad2 : zK → Nat} {sc sm : zS}
theorem lw_callB {Ts : List Cond} {y : MethodName} {b : ByteArray} {nM n index : Nat} {ret : Option FieldType} {rm : Room} (hG : zGood Ts) (hts : ∀ w ∈ Ts, w.before args s = true) (hN : zN Ts y b nM ret n) (hlink : (Cond.methodLink own index y).before args s = true) (hrm : rm.cells = 0 ∧ rm.slots = 0) (hR : rm.frames + 1 ≤ R.frames ∧ 8 + (nM + 11) + rm.locals ≤ R.locals) : CallB R s args own index y b nM ret (.code y b nM ret :: Ts) rm 0 0 n := by
  obtain ⟨h1, h2, h3, h4, h5⟩ := hN
  refine callB_of n hts (fun w hw => ?_) rfl hrm.1 hrm.2 (hts _ h1) hlink ⟨h3, h4, h5⟩ hR
  rcases List.mem_cons.mp hw with rfl | hw
  · exact ⟨h2, hG _ h2⟩
  · exact ⟨hw, hG _ hw⟩
theorem lw_c1 {y : MethodName} {b : ByteArray} {nM index : Nat} {ret : Option FieldType} {rm : Room} {As : List Value} {out : Int32 × zS} (S : CallFix p m c cc nL s args zT own) (hK : va_K (dC, dI) zcl (zty cI cZ cR cA) s) (hF : lwF n ad1 ad2 s)
    (hM : zC zT (dC, dI) zcl (zty cI cZ cR cA) (lwA (zKs n) ad1) l y b nM ret rm (.ref (ad1 (0, 0)) :: As) (fun H => zV (dC, dI) zcl (zKs n) ad1 (zcE n cI cZ cR cA ad1) sc H) (fun o H => o = some (.int out.1) ∧ zV (dC, dI) zcl (zKs n) ad1 (zcE n cI cZ cR cA ad1) out.2 H))
    (hN : zNV zT y b nM ret As.length) (hy : y.cls = N_D) (hlink : (Cond.methodLink own index y).before args s = true) (hrm : rm.cells = 0 ∧ rm.slots = 0) (hR : rm.frames + 1 ≤ R.frames ∧ 8 + (nM + 11) + rm.locals ≤ R.locals) (hcs : cells ≤ R.cells ∧ slots ≤ R.slots) (hsize : ls.size = nL) (hrest : (rest.map fun v => v.category).sum ≤ 8)
    (hS : va_S (lwN s) s.heap H []) (hP1 : zV (dC, dI) zcl (zKs n) ad1 (zcE n cI cZ cR cA ad1) sc H) (hP2 : zV (dC, dI) zcl zKm ad2 (zmE n cI cZ ad2) sm H) (hdg : decode cc pc = .ok (.invokevirtual index, 3)) {st0 : List Value} (hst : st0 = As.reverse ++ (.ref (ad1 (0, 0)) :: rest))
    (kk : ∀ H1 : Heap, va_S (lwN s) s.heap H1 [] → zV (dC, dI) zcl (zKs n) ad1 (zcE n cI cZ cR cA ad1) out.2 H1 → zV (dC, dI) zcl zKm ad2 (zmE n cI cZ ad2) sm H1 → W p l e R s m args below meth c H1 [] cells slots Q (F0 m (pc + 3) ls (.int out.1 :: rest))) : W p l e R s m args below meth c H [] cells slots Q (F0 m pc ls st0) := by
  have hrecv : ∃ cell : Cell, H[ad1 (0, 0)]? = some cell ∧ cell.vm.isStatics = false ∧ s.vm.findClass y.cls = some cell.cls := by
    rw [hy]
    exact zr_recv (q := (N_D, FT_D, 5)) hK hP1 zk_0 rfl rfl
  refine zr_back (rest := rest) (A1 := lwA (zKs n) ad1) (free := lwA (zKs n) ad1) (Po := fun o H => o = some (.int out.1) ∧ zV (dC, dI) zcl (zKs n) ad1 (zcE n cI cZ cR cA ad1) out.2 H) ?_ hS (lwA_in hF.1) (lwA_in hF.1) (fun r H1 locs1 hp hsz hk hS1 => ?_)
  · exact va_runV (C := y.cls) (As := As) (b := ad1 (0, 0)) S hM ⟨lw_callB zT_good S.2.2.2.2 hN.1 hlink hrm hR, S.2.2.2.2 _ hN.2.1, S.2.2.2.2 _ hN.2.2⟩ ⟨zr_blind, hrecv, fun U hU hW => ⟨rfl, va_K.moved hW.alike hK, by rw [hU]; exact hP1⟩⟩ rfl rfl hsize hst (lv_room hrest) hdg hcs
  · obtain ⟨rfl, hp⟩ := hp
    refine va_forget (fun q hq => hS1.2.2 q hq) ?_
    exact kk H1 ⟨hS1.1, hS1.2.1, fun q hq => by cases hq⟩ hp (zV_kept hP2 (fun k hk2 hlt => hk _ hlt (fun ⟨k1, h1, e1⟩ => hF.2.2 k1 h1 k hk2 e1.symm)))
theorem lw_c2 {y : MethodName} {b : ByteArray} {nM index : Nat} {ret : Option FieldType} {rm : Room} {As : List Value} {out : Int32 × zS} (S : CallFix p m c cc nL s args zT own) (hK : va_K (dC, dI) zcl (zty cI cZ cR cA) s) (hF : lwF n ad1 ad2 s)
    (hM : zC zT (dC, dI) zcl (zty cI cZ cR cA) (lwA zKm ad2) l y b nM ret rm (.ref (ad2 (0, 0)) :: As) (fun H => zV (dC, dI) zcl zKm ad2 (zmE n cI cZ ad2) sm H) (fun o H => o = some (.int out.1) ∧ zV (dC, dI) zcl zKm ad2 (zmE n cI cZ ad2) out.2 H))
    (hN : zNV zT y b nM ret As.length) (hy : y.cls = N_M) (hlink : (Cond.methodLink own index y).before args s = true) (hrm : rm.cells = 0 ∧ rm.slots = 0) (hR : rm.frames + 1 ≤ R.frames ∧ 8 + (nM + 11) + rm.locals ≤ R.locals) (hcs : cells ≤ R.cells ∧ slots ≤ R.slots) (hsize : ls.size = nL) (hrest : (rest.map fun v => v.category).sum ≤ 8)
    (hS : va_S (lwN s) s.heap H []) (hP1 : zV (dC, dI) zcl (zKs n) ad1 (zcE n cI cZ cR cA ad1) sc H) (hP2 : zV (dC, dI) zcl zKm ad2 (zmE n cI cZ ad2) sm H) (hdg : decode cc pc = .ok (.invokevirtual index, 3)) {st0 : List Value} (hst : st0 = As.reverse ++ (.ref (ad2 (0, 0)) :: rest))
    (kk : ∀ H1 : Heap, va_S (lwN s) s.heap H1 [] → zV (dC, dI) zcl (zKs n) ad1 (zcE n cI cZ cR cA ad1) sc H1 → zV (dC, dI) zcl zKm ad2 (zmE n cI cZ ad2) out.2 H1 → W p l e R s m args below meth c H1 [] cells slots Q (F0 m (pc + 3) ls (.int out.1 :: rest))) : W p l e R s m args below meth c H [] cells slots Q (F0 m pc ls st0) := by
  have hrecv : ∃ cell : Cell, H[ad2 (0, 0)]? = some cell ∧ cell.vm.isStatics = false ∧ s.vm.findClass y.cls = some cell.cls := by
    rw [hy]
    exact zr_recv (q := (N_M, FT_M, 17)) hK hP2 zkm_0 rfl rfl
  refine zr_back (rest := rest) (A1 := lwA zKm ad2) (free := lwA zKm ad2) (Po := fun o H => o = some (.int out.1) ∧ zV (dC, dI) zcl zKm ad2 (zmE n cI cZ ad2) out.2 H) ?_ hS (lwA_in hF.2.1) (lwA_in hF.2.1) (fun r H1 locs1 hp hsz hk hS1 => ?_)
  · exact va_runV (C := y.cls) (As := As) (b := ad2 (0, 0)) S hM ⟨lw_callB zT_good S.2.2.2.2 hN.1 hlink hrm hR, S.2.2.2.2 _ hN.2.1, S.2.2.2.2 _ hN.2.2⟩ ⟨zr_blind, hrecv, fun U hU hW => ⟨rfl, va_K.moved hW.alike hK, by rw [hU]; exact hP2⟩⟩ rfl rfl hsize hst (lv_room hrest) hdg hcs
  · obtain ⟨rfl, hp⟩ := hp
    refine va_forget (fun q hq => hS1.2.2 q hq) ?_
    exact kk H1 ⟨hS1.1, hS1.2.1, fun q hq => by cases hq⟩ (zV_kept hP1 (fun k hk1 hlt => hk _ hlt (fun ⟨k2, h2, e2⟩ => hF.2.2 k hk1 k2 h2 e2))) hp
end LW
