/-! The law's own method, its start: the tables, the two objects. -/
abbrev b_cell : ByteArray := method_2_code
def y_cell : MethodName := ⟨"DiffusingRoutesLaw", "cell", "([II)I"⟩
theorem d_cell_0 : decode b_cell 0 = .ok (.iload_n 1, 1) := by decide +kernel
theorem d_cell_1 : decode b_cell 1 = .ok (.aload_n 0, 1) := by decide +kernel
theorem d_cell_2 : decode b_cell 2 = .ok (.arraylength, 1) := by decide +kernel
theorem d_cell_3 : decode b_cell 3 = .ok (.if_icmp .ge 9, 3) := by decide +kernel
theorem d_cell_6 : decode b_cell 6 = .ok (.aload_n 0, 1) := by decide +kernel
theorem d_cell_7 : decode b_cell 7 = .ok (.iload_n 1, 1) := by decide +kernel
theorem d_cell_8 : decode b_cell 8 = .ok (.iaload, 1) := by decide +kernel
theorem d_cell_9 : decode b_cell 9 = .ok (.goto 4, 3) := by decide +kernel
theorem d_cell_12 : decode b_cell 12 = .ok (.iconst 0, 1) := by decide +kernel
theorem d_cell_13 : decode b_cell 13 = .ok (.ireturn, 1) := by decide +kernel
def zc0 (L : Nat) (xs : Nat → Int32) : Int32 := if 0 < L then xs 0 else 0
def w_cell : List Cond := [.code y_cell b_cell 2 (some .int)]
set_option maxHeartbeats 4000000 in
set_option maxRecDepth 100000 in
theorem C_cell (l : Launch) (b L : Nat) (xs : Nat → Int32) (hL : L ≤ 2561) : Met l y_cell w_cell { frames := 0, cells := 0, slots := 0, locals := 0 } (fun v U => v = ([.ref b, .int 0] : List Value).toArray ∧ va_X b L xs U U.heap ∧ b < U.heap.size) (fun _ st oc t => (∃ r, oc = .returned r ∧ (fun r _ => r = some (.int (zc0 L xs))) r t.heap) ∧ va_F (fun _ => False) st t) 0 0 (fun _ => False) := by
  refine Met.ofW (cc := b_cell) (maxL := 2) (ret := some .int) (by decide) rfl ?_
  intro p e s m args below meth c s₁ B hml hv
  obtain ⟨rfl, hX, hbl⟩ := hv
  have hts := atoms_spec (ws := w_cell) B.pre
  have S : CallFix p m c b_cell 2 s ([.ref b, .int 0] : List Value).toArray w_cell y_cell.cls := ⟨B.exec, B.bytes, hml, findClass_of_methodNamed B.named, hts⟩
  have hr := B.returns
  have hlk := B.notSynchronized
  have hl := lv_entry ([.ref b, .int 0]) (n := 2) (Nat.le_of_ble_eq_true rfl)
  rw [lg_entry_eq]
  generalize (lg_sl ([.ref b, .int 0]) ++ List.replicate (2 - (lg_sl ([.ref b, .int 0])).length) Slot.unset).toArray = ls at hl ⊢
  have hl : lv_has ls 2 [(0, .ref b), (1, .int 0)] := hl
  have hS : va_S (fun _ => False) s.heap s.heap [] := va_S.rf
  refine lv_iload_n S.1 S.2.1 d_cell_0 rfl (lv_at hl 1 rfl) ?_
  refine lv_aload_n S.1 S.2.1 d_cell_1 rfl (lv_at hl 0 rfl) ?_
  refine va_slen S.1 S.2.1 hX hbl (fun h => h) hS d_cell_2 ?_
  refine lv_icmp_ge (tgt := 12) S.1 S.2.1 d_cell_3 (by decide) (fun h => ?_) (fun h => ?_)
  · have h0 : ¬ 0 < L := fun q => nI_ge (a := 0) (b := L) q (by omega) h
    refine lv_iconst (v := 0) S.1 S.2.1 d_cell_12 (by decide) ?_
    have ez : zc0 L xs = 0 := by unfold zc0; rw [if_neg h0]
    exact zr_iret (Po := fun r _ => r = some (.int (zc0 L xs))) S hr hlk hS d_cell_13 (by rw [ez])
  · have h0 : 0 < L := Nat.pos_of_ne_zero (fun q => h (by subst q; exact nI_le (a := 0) (b := 0) (by omega) (by omega)))
    refine lv_aload_n S.1 S.2.1 d_cell_6 rfl (lv_at hl 0 rfl) ?_
    refine lv_iload_n S.1 S.2.1 d_cell_7 rfl (lv_at hl 1 rfl) ?_
    refine va_sld S.1 S.2.1 hX hbl (fun h => h) hS (zo_in (j := 0) h0 (by omega)) d_cell_8 ?_
    refine lv_goto (tgt := 13) S.1 S.2.1 d_cell_9 (by decide) ?_
    have ez : zc0 L xs = xs 0 := by unfold zc0; rw [if_pos h0]
    exact zr_iret (Po := fun r _ => r = some (.int (zc0 L xs))) S hr hlk hS d_cell_13 (by rw [ez]; rfl)
theorem lwt (i : Nat) {w : Cond} (h : tables_1[i]? = some w) : w ∈ lw_tbl := List.mem_append_right _ (List.mem_of_getElem? h)
theorem lw_i0 : Cond.initialized "DiffusingRoutesLaw" ∈ lw_tbl := lwt 0 (by decide +kernel)
theorem lw_i8 : Cond.classLink "DiffusingRoutesLaw" 7 N_D ∈ lw_tbl := lwt 8 (by decide +kernel)
theorem lw_i10 : Cond.methodLink "DiffusingRoutesLaw" 15 y_D_init ∈ lw_tbl := lwt 10 (by decide +kernel)
theorem lw_i23 : Cond.arrayOver (.array .int) ∈ lw_tbl := lwt 23 (by decide +kernel)
theorem lw_i25 : Cond.arrayOver (.object N_R) ∈ lw_tbl := lwt 25 (by decide +kernel)
theorem lw_i83 : Cond.methodLinkNest N_D 38 y_L_init N_D ∈ lw_tbl := lwt 83 (by decide +kernel)
theorem lw_i329 : Cond.methodLink "DiffusingRoutesLaw" 9 y_cell ∈ lw_tbl := lwt 329 (by decide +kernel)
theorem lw_i330 : Cond.static y_cell ∈ lw_tbl := lwt 330 (by decide +kernel)
theorem lw_i331 : Cond.code y_cell b_cell 2 (some .int) ∈ lw_tbl := lwt 331 (by decide +kernel)
theorem lw_i332 : Cond.classLink "DiffusingRoutesLaw" 18 N_M ∈ lw_tbl := lwt 332 (by decide +kernel)
theorem lw_i334 : Cond.methodLink "DiffusingRoutesLaw" 20 y_M_init ∈ lw_tbl := lwt 334 (by decide +kernel)
theorem zD_def : ∀ j, j < 5 → defaultValue (t_D j) = vp_V [.int 0, .null, .null, .null, .int 0] j := fun j hj => by
  match j, hj with
  | 0, _ => rfl
  | 1, _ => rfl
  | 2, _ => rfl
  | 3, _ => rfl
  | 4, _ => rfl
  | j + 5, h => exact absurd h (by omega)
theorem zM_def : ∀ j, j < 17 → defaultValue (t_M j) = vp_V [.int 0, .null, .null, .null, .null, .null, .null, .null, .null, .null, .int 0, .null, .null, .null, .null, .null, .null] j := fun j hj => by
  match j, hj with
  | 0, _ => rfl
  | 1, _ => rfl
  | 2, _ => rfl
  | 3, _ => rfl
  | 4, _ => rfl
  | 5, _ => rfl
  | 6, _ => rfl
  | 7, _ => rfl
  | 8, _ => rfl
  | 9, _ => rfl
  | 10, _ => rfl
  | 11, _ => rfl
  | 12, _ => rfl
  | 13, _ => rfl
  | 14, _ => rfl
  | 15, _ => rfl
  | 16, _ => rfl
  | j + 17, h => exact absurd h (by omega)
theorem zN_D : zN zTi y_D_init b_D_init 4 none 1 := ⟨zwi 56 rfl, zwi 54 rfl, by decide, by decide, by decide +kernel⟩
theorem zN_M : zN zTi y_M_init b_M_init 3 none 1 := ⟨zwi 59 rfl, zwi 57 rfl, by decide, by decide, by decide +kernel⟩
/-- the tables at the law's start -/
theorem lw_K {s : State} {args : Array Value} (hts : ∀ w ∈ lw_tbl, w.before args s = true) : ∃ (dC : Nat → ClassId) (dI : Nat → Nat → Nat) (cI cZ cR cA : ClassId), zKq (dC, dI) (zty cI cZ cR cA) s := by
  have hti : ∀ w ∈ zTi, w.before args s = true := fun w h => hts w (zTi_sub w h)
  obtain ⟨c0, i0, k0⟩ := u_known (C := N_D) (T := FT_D) (N := 5) hti (fun w h => zwT (zi_D w h)) (hti (.instantiable N_D 5) (zwi 60 rfl))
  obtain ⟨c1, i1, k1⟩ := u_known (C := N_R) (T := FT_R) (N := 11) hti (fun w h => zwT (zi_R w h)) (hti (.instantiable N_R 11) (zwi 14 rfl))
  obtain ⟨c2, i2, k2⟩ := u_known (C := N_L) (T := FT_L) (N := 4) hti (fun w h => zwT (zi_L w h)) (hti (.instantiable N_L 4) (zwi 20 rfl))
  obtain ⟨c3, i3, k3⟩ := u_known (C := N_M) (T := FT_M) (N := 17) hti (fun w h => zwT (zi_M w h)) (hti (.instantiable N_M 17) (zwi 61 rfl))
  obtain ⟨cI, kI, mI, f1, f2, f3⟩ := Cond.arrayClass_spec (hti (.arrayClass .int) (zwi 3 rfl))
  obtain ⟨cZ, kZ, mZ, g1, g2, g3⟩ := Cond.arrayClass_spec (hti (.arrayClass .boolean) (zwi 4 rfl))
  obtain ⟨mR, cR, kR, r1, r2, r3, r4, r5⟩ := Cond.arrayOver_spec (hts _ lw_i25)
  obtain ⟨mA, cA, kA, a1, a2, a3, a4, a5⟩ := arrayOverA_spec (hts _ lw_i23)
  refine ⟨fun c => match c with | 0 => c0 | 1 => c1 | 2 => c2 | _ => c3, fun c => match c with | 0 => i0 | 1 => i1 | 2 => i2 | _ => i3, cI, cZ, cR, cA, ⟨fun k q hq => ?_, fun k q hq => ?_⟩, va_AO.of (hts _ lw_i25), hts _ lw_i23, va_Nw.of rfl (hts _ lw_i83)⟩
  · match k, hq with
    | 0, hq => cases hq; exact k0
    | 1, hq => cases hq; exact k1
    | 2, hq => cases hq; exact k2
    | 3, hq => cases hq; exact k3
    | k + 4, hq => cases hq
  · match k, hq with
    | 0, hq => cases hq; exact ⟨fun n z => ⟨fun k h => (by cases h), kI, f2, mI, f3⟩, f1⟩
    | 1, hq => cases hq; exact ⟨fun n z => ⟨fun k h => (by cases h), kZ, g2, mZ, g3⟩, g1⟩
    | 2, hq => cases hq; exact ⟨fun n z => ⟨fun k h => (by cases h), kR, r3, mR, r4⟩, kR, mR, r3, r4, r1, r5⟩
    | 3, hq => cases hq; exact ⟨fun n z => ⟨fun k h => (by cases h), kA, a3, mA, a4⟩, a5⟩
    | k + 4, hq => cases hq
section LC
variable {p : Program} {l : Launch} {e : Env} {s : State} {m : MethodId} {below : List Frame} {meth : Method} {c : Code} {H : Heap} {locs : List Loc} {cells slots : Nat} {Q : State → Prop}
variable {pc b L : Nat} {ls : Array Slot} {rest : List Value} {xs : Nat → Int32}
theorem lw_cell (S : CallFix p m c code 4 s #[Value.ref b] lw_tbl "DiffusingRoutesLaw") (hX : va_X b L xs s s.heap) (hbl : b < s.heap.size) (hL : L ≤ 2561) (hcs : cells ≤ room_1.cells ∧ slots ≤ room_1.slots) (hsize : ls.size = 4) (hrest : (rest.map fun v => v.category).sum ≤ 8) (hS : va_S (lwN s) s.heap H locs) (hdg : decode code pc = .ok (.invokestatic 9, 3))
    (kk : ∀ (H1 : Heap) (locs1 : List Loc), H.size ≤ H1.size → (∀ q : Nat, q < H.size → H1[q]? = H[q]?) → va_S (lwN s) s.heap H1 locs1 → W p l e room_1 s m #[Value.ref b] below meth c H1 locs1 cells slots Q (F0 m (pc + 3) ls (.int (zc0 L xs) :: rest))) : W p l e room_1 s m #[Value.ref b] below meth c H locs cells slots Q (F0 m pc ls (.int 0 :: .ref b :: rest)) := by
  have hbA : ¬ lwN s b := fun h => absurd hbl (Nat.not_lt.mpr h)
  have hXH : va_X b L xs s H := hX.kept (hS.2.1 b hbl hbA)
  refine zr_back (rest := rest) (A1 := fun _ => False) (free := fun _ => False) (Po := fun r _ => r = some (.int (zc0 L xs))) ?_ hS (fun q h => h.elim) (fun q h => h.elim) (fun r H1 locs1 hp hsz hk hS1 => ?_)
  · refine va_runS (As := [.ref b, .int 0]) S (C_cell l b L xs hL) ⟨callB_of 2 S.2.2.2.2 (fun w hw => ?_) rfl rfl rfl (S.2.2.2.2 _ lw_i0) (S.2.2.2.2 _ lw_i329) ⟨by decide, by decide, by decide +kernel⟩ ⟨Nat.le_of_ble_eq_true rfl, Nat.le_of_ble_eq_true rfl⟩, S.2.2.2.2 _ lw_i330⟩ ⟨fun a U g mk q => ⟨q.1, va_X.moved (u := U) (U := U.calling g mk a) (Vm.Alike.refl U.vm) q.2.1, q.2.2⟩, fun U hU hW => ⟨rfl, by rw [hU]; exact va_X.moved hW.alike hXH, by rw [hU]; exact Nat.lt_of_lt_of_le hbl hS.1⟩⟩ rfl rfl hsize rfl (lv_room hrest) hdg hcs
    rcases List.mem_singleton.mp hw with rfl
    exact ⟨lw_i331, good_of_word rfl⟩
  · subst hp
    exact kk H1 locs1 hsz (fun q h => hk q h (fun h => h)) hS1
end LC
