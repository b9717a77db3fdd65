theorem d_D_next_0 : decode b_D_next 0 = .ok (.aload_n 0, 1) := by decide +kernel
theorem d_D_next_1 : decode b_D_next 1 = .ok (.iload_n 1, 1) := by decide +kernel
theorem d_D_next_2 : decode b_D_next 2 = .ok (.iload_n 2, 1) := by decide +kernel
theorem d_D_next_3 : decode b_D_next 3 = .ok (.invokevirtual 82, 3) := by decide +kernel
theorem d_D_next_6 : decode b_D_next 6 = .ok (.ifCond .eq 15, 3) := by decide +kernel
theorem d_D_next_9 : decode b_D_next 9 = .ok (.aload_n 0, 1) := by decide +kernel
theorem d_D_next_10 : decode b_D_next 10 = .ok (.iload_n 1, 1) := by decide +kernel
theorem d_D_next_11 : decode b_D_next 11 = .ok (.iload_n 2, 1) := by decide +kernel
theorem d_D_next_12 : decode b_D_next 12 = .ok (.invokevirtual 85, 3) := by decide +kernel
theorem d_D_next_15 : decode b_D_next 15 = .ok (.getfield 95, 3) := by decide +kernel
theorem d_D_next_18 : decode b_D_next 18 = .ok (.goto 4, 3) := by decide +kernel
theorem d_D_next_21 : decode b_D_next 21 = .ok (.iconst (-1), 1) := by decide +kernel
theorem d_D_next_22 : decode b_D_next 22 = .ok (.ireturn, 1) := by decide +kernel
def F_D_next_s2 (n : Nat) (u0 : Nat) (st : zS) : Option (Int32 × zS) :=
    some (st 7 u0 2, st)

def F_D_next_s1 (n : Nat) (v1 : Int32) (v2 : Int32) (t0 : Int32) (st : zS) : Option (Int32 × zS) :=
    if t0 = 0 then (some ((-1), st)) else ((F_D_route n v1 v2 st).bind (fun u => F_D_next_s2 n u.1 u.2))

def F_D_next (n : Nat) (v1 : Int32) (v2 : Int32) (st : zS) : Option (Int32 × zS) :=
    (F_D_isRoute n v1 v2 st).bind (fun u => F_D_next_s1 n v1 v2 u.1 u.2)

set_option maxHeartbeats 4000000 in
set_option maxRecDepth 1000000 in
theorem C_D_next {dC : Nat → ClassId} {dI : Nat → Nat → Nat} {cI cZ cR cA : ClassId} {n : Nat} {ad : zK → Nat} {A : Nat → Prop} (hn : 2 ≤ n ∧ n ≤ 6) (hD : zD A (zKs n) ad) (l : Launch) (v1 : Int32) (v2 : Int32) (st : zS) (out : Int32 × zS) (hF : F_D_next n v1 v2 st = some out) : zC zT (dC, dI) zcl (zty cI cZ cR cA) A l y_D_next b_D_next 3 (some .int) rm_D_next [.ref (ad (0, 0)), .int v1, .int v2] (fun H => zV (dC, dI) zcl (zKs n) ad (zcE n cI cZ cR cA ad) st H) (fun o H => o = some (.int out.1) ∧ zV (dC, dI) zcl (zKs n) ad (zcE n cI cZ cR cA ad) out.2 H) := by
  refine zC_of (by decide) (Nat.le_of_ble_eq_true rfl) (fun p e s m args below meth c ls S hret hlk hK hP hl => ?_)
  have hS : va_S A s.heap s.heap [] := va_S.rf
  have hl : lv_has ls 3 [(0, .ref (ad (0, 0))), (1, .int v1), (2, .int v2)] := hl
  have hP : zV (dC, dI) zcl (zKs n) ad (zcE n cI cZ cR cA ad) st s.heap := hP
  unfold F_D_next at hF
  refine lv_aload_n S.1 S.2.1 d_D_next_0 rfl (lv_at hl 0 rfl) ?_
  refine lv_iload_n S.1 S.2.1 d_D_next_1 rfl (lv_at hl 1 rfl) ?_
  refine lv_iload_n S.1 S.2.1 d_D_next_2 rfl (lv_at hl 2 rfl) ?_
  cases hc3 : F_D_isRoute n v1 v2 st with
  | none => rw [hc3] at hF; cases hF
  | some u3 =>
    obtain ⟨r3, st3⟩ := u3
    rw [hc3] at hF
    replace hF := zbind hF
    refine zr_callV (rest := []) S zT_good (C_D_isRoute hn hD l v1 v2 st (r3, st3) hc3) zn_D_isRoute zx_87 ⟨rfl, rfl⟩ ⟨Nat.le_of_ble_eq_true rfl, Nat.le_of_ble_eq_true rfl⟩ ⟨Nat.zero_le _, Nat.zero_le _⟩ hK (zr_recv hK hP zk_0 rfl rfl) hP hl.1 (Nat.le_of_ble_eq_true rfl) hS (fun _ h => h) d_D_next_3 rfl (fun o H locs hpo _ _ hS => ?_)
    obtain ⟨rfl, hP⟩ := hpo
    refine W.eq (g2 := F0 m 6 ls [.int r3]) rfl ?_
    replace hF : F_D_next_s1 n v1 v2 r3 st3 = some out := hF
    replace hP : zV (dC, dI) zcl (zKs n) ad (zcE n cI cZ cR cA ad) st3 H := hP
    unfold F_D_next_s1 at hF
    refine lv_if_eq (tgt := 21) S.1 S.2.1 d_D_next_6 (by decide) (fun h6 => ?_) (fun h6 => ?_)
    · rw [if_pos h6] at hF
      refine lv_iconst (v := (-1)) S.1 S.2.1 d_D_next_21 (by decide) ?_
      cases hF
      exact zr_iret S hret hlk hS d_D_next_22 ⟨rfl, hP⟩
    · rw [if_neg h6] at hF
      refine lv_aload_n S.1 S.2.1 d_D_next_9 rfl (lv_at hl 0 rfl) ?_
      refine lv_iload_n S.1 S.2.1 d_D_next_10 rfl (lv_at hl 1 rfl) ?_
      refine lv_iload_n S.1 S.2.1 d_D_next_11 rfl (lv_at hl 2 rfl) ?_
      cases hc12 : F_D_route n v1 v2 st3 with
      | none => rw [hc12] at hF; cases hF
      | some u12 =>
        obtain ⟨r12, st12⟩ := u12
        rw [hc12] at hF
        replace hF := zbind hF
        refine zr_callV (rest := []) S zT_good (C_D_route hn hD l v1 v2 st3 (r12, st12) hc12) zn_D_route zx_88 ⟨rfl, rfl⟩ ⟨Nat.le_of_ble_eq_true rfl, Nat.le_of_ble_eq_true rfl⟩ ⟨Nat.zero_le _, Nat.zero_le _⟩ hK (zr_recv hK hP zk_0 rfl rfl) hP hl.1 (Nat.le_of_ble_eq_true rfl) hS (fun _ h => h) d_D_next_12 rfl (fun o H locs hpo _ _ hS => ?_)
        obtain ⟨rfl, hP⟩ := hpo
        refine W.eq (g2 := F0 m 15 ls [.ref (ad (7, r12))]) rfl ?_
        have hk_r12 := zk_D_route hn hc12
        replace hF : F_D_next_s2 n r12 st12 = some out := hF
        replace hP : zV (dC, dI) zcl (zKs n) ad (zcE n cI cZ cR cA ad) st12 H := hP
        unfold F_D_next_s2 at hF
        refine zr_get (v := .int (st12 7 r12 2)) S zi_R hK hP hk_r12 rfl rfl 7 (by decide) zx_16 rfl d_D_next_15 ?_
        refine lv_goto (tgt := 22) S.1 S.2.1 d_D_next_18 (by decide) ?_
        cases hF
        exact zr_iret S hret hlk hS d_D_next_22 ⟨rfl, hP⟩

theorem d_D_state_0 : decode b_D_state 0 = .ok (.aload_n 0, 1) := by decide +kernel
theorem d_D_state_1 : decode b_D_state 1 = .ok (.iload_n 1, 1) := by decide +kernel
theorem d_D_state_2 : decode b_D_state 2 = .ok (.iload_n 2, 1) := by decide +kernel
theorem d_D_state_3 : decode b_D_state 3 = .ok (.invokevirtual 82, 3) := by decide +kernel
theorem d_D_state_6 : decode b_D_state 6 = .ok (.ifCond .ne 5, 3) := by decide +kernel
theorem d_D_state_9 : decode b_D_state 9 = .ok (.iconst (-1), 1) := by decide +kernel
theorem d_D_state_10 : decode b_D_state 10 = .ok (.ireturn, 1) := by decide +kernel
theorem d_D_state_11 : decode b_D_state 11 = .ok (.aload_n 0, 1) := by decide +kernel
theorem d_D_state_12 : decode b_D_state 12 = .ok (.iload_n 1, 1) := by decide +kernel
theorem d_D_state_13 : decode b_D_state 13 = .ok (.iload_n 2, 1) := by decide +kernel
theorem d_D_state_14 : decode b_D_state 14 = .ok (.invokevirtual 85, 3) := by decide +kernel
theorem d_D_state_17 : decode b_D_state 17 = .ok (.astore_n 3, 1) := by decide +kernel
theorem d_D_state_18 : decode b_D_state 18 = .ok (.aload_n 3, 1) := by decide +kernel
theorem d_D_state_19 : decode b_D_state 19 = .ok (.getfield 98, 3) := by decide +kernel
theorem d_D_state_22 : decode b_D_state 22 = .ok (.ifCond .ne 5, 3) := by decide +kernel
theorem d_D_state_25 : decode b_D_state 25 = .ok (.iconst 0, 1) := by decide +kernel
theorem d_D_state_26 : decode b_D_state 26 = .ok (.ireturn, 1) := by decide +kernel
theorem d_D_state_27 : decode b_D_state 27 = .ok (.iconst 1, 1) := by decide +kernel
theorem d_D_state_28 : decode b_D_state 28 = .ok (.aload_n 3, 1) := by decide +kernel
theorem d_D_state_29 : decode b_D_state 29 = .ok (.getfield 102, 3) := by decide +kernel
theorem d_D_state_32 : decode b_D_state 32 = .ok (.ifCond .eq 7, 3) := by decide +kernel
theorem d_D_state_35 : decode b_D_state 35 = .ok (.iconst 1, 1) := by decide +kernel
theorem d_D_state_36 : decode b_D_state 36 = .ok (.goto 4, 3) := by decide +kernel
theorem d_D_state_39 : decode b_D_state 39 = .ok (.iconst 0, 1) := by decide +kernel
theorem d_D_state_40 : decode b_D_state 40 = .ok (.iadd, 1) := by decide +kernel
theorem d_D_state_41 : decode b_D_state 41 = .ok (.aload_n 3, 1) := by decide +kernel
theorem d_D_state_42 : decode b_D_state 42 = .ok (.getfield 105, 3) := by decide +kernel
theorem d_D_state_45 : decode b_D_state 45 = .ok (.ifCond .eq 7, 3) := by decide +kernel
theorem d_D_state_48 : decode b_D_state 48 = .ok (.iconst 2, 1) := by decide +kernel
theorem d_D_state_49 : decode b_D_state 49 = .ok (.goto 4, 3) := by decide +kernel
theorem d_D_state_52 : decode b_D_state 52 = .ok (.iconst 0, 1) := by decide +kernel
theorem d_D_state_53 : decode b_D_state 53 = .ok (.iadd, 1) := by decide +kernel
theorem d_D_state_54 : decode b_D_state 54 = .ok (.ireturn, 1) := by decide +kernel
def F_D_state_L40 (n : Nat) (k3 : Nat) (t0 : Int32) (t1 : Int32) (st : zS) : Option (Int32 × zS) :=
    if (st 7 k3 4) = 0 then (some ((t0 + t1) + 0, st)) else (some ((t0 + t1) + 2, st))

def F_D_state_s2 (n : Nat) (u0 : Nat) (st : zS) : Option (Int32 × zS) :=
    if (st 7 u0 3) = 0 then (some (0, st)) else (if (st 7 u0 5) = 0 then (F_D_state_L40 n u0 1 0 st) else (F_D_state_L40 n u0 1 1 st))

def F_D_state_s1 (n : Nat) (v1 : Int32) (v2 : Int32) (t0 : Int32) (st : zS) : Option (Int32 × zS) :=
    if t0 = 0 then (some ((-1), st)) else ((F_D_route n v1 v2 st).bind (fun u => F_D_state_s2 n u.1 u.2))

def F_D_state (n : Nat) (v1 : Int32) (v2 : Int32) (st : zS) : Option (Int32 × zS) :=
    (F_D_isRoute n v1 v2 st).bind (fun u => F_D_state_s1 n v1 v2 u.1 u.2)

set_option maxHeartbeats 4000000 in
set_option maxRecDepth 1000000 in
theorem T_D_state_L40 {dC : Nat → ClassId} {dI : Nat → Nat → Nat} {cI cZ cR cA : ClassId} {n : Nat} {ad : zK → Nat} {A : Nat → Prop} (hn : 2 ≤ n ∧ n ≤ 6) (hD : zD A (zKs n) ad) {p : Program} {l : Launch} {e : Env} {s : State} {m : MethodId} {args : Array Value} {below : List Frame} {meth : Method} {c : Code} (S : CallFix p m c b_D_state 4 s args zT N_D) (hret : meth.sig.returnType = some .int) (hlk : meth.locks = false) (hK : va_K (dC, dI) zcl (zty cI cZ cR cA) s) (out : Int32 × zS) (k3 : Nat) (t0 : Int32) (t1 : Int32) (hk3 : (7, k3) ∈ zKs n) (st : zS) (H : Heap) (locs : List Loc) (ls : Array Slot) (hP : zV (dC, dI) zcl (zKs n) ad (zcE n cI cZ cR cA ad) st H) (hS : va_S A s.heap H locs) (hl : lv_has ls 4 [(3, .ref (ad (7, k3)))]) (hF : F_D_state_L40 n k3 t0 t1 st = some out) : W p l e rm_D_state s m args below meth c H locs 0 0 (zQ below A (fun o H => o = some (.int out.1) ∧ zV (dC, dI) zcl (zKs n) ad (zcE n cI cZ cR cA ad) out.2 H) args s) (F0 m 40 ls [.int t1, .int t0]) := by
  unfold F_D_state_L40 at hF
  refine lv_iadd S.1 S.2.1 d_D_state_40 ?_
  refine lv_aload_n S.1 S.2.1 d_D_state_41 rfl (lv_at hl 0 rfl) ?_
  refine zr_get (v := .int (st 7 k3 4)) S zi_R hK hP hk3 rfl rfl 9 (by decide) zx_3 rfl d_D_state_42 ?_
  refine lv_if_eq (tgt := 52) S.1 S.2.1 d_D_state_45 (by decide) (fun h45 => ?_) (fun h45 => ?_)
  · rw [if_pos h45] at hF
    refine lv_iconst (v := 0) S.1 S.2.1 d_D_state_52 (by decide) ?_
    refine lv_iadd S.1 S.2.1 d_D_state_53 ?_
    cases hF
    exact zr_iret S hret hlk hS d_D_state_54 ⟨rfl, hP⟩
  · rw [if_neg h45] at hF
    refine lv_iconst (v := 2) S.1 S.2.1 d_D_state_48 (by decide) ?_
    refine lv_goto (tgt := 53) S.1 S.2.1 d_D_state_49 (by decide) ?_
    refine lv_iadd S.1 S.2.1 d_D_state_53 ?_
    cases hF
    exact zr_iret S hret hlk hS d_D_state_54 ⟨rfl, hP⟩

set_option maxHeartbeats 4000000 in
set_option maxRecDepth 1000000 in
theorem C_D_state {dC : Nat → ClassId} {dI : Nat → Nat → Nat} {cI cZ cR cA : ClassId} {n : Nat} {ad : zK → Nat} {A : Nat → Prop} (hn : 2 ≤ n ∧ n ≤ 6) (hD : zD A (zKs n) ad) (l : Launch) (v1 : Int32) (v2 : Int32) (st : zS) (out : Int32 × zS) (hF : F_D_state n v1 v2 st = some out) : zC zT (dC, dI) zcl (zty cI cZ cR cA) A l y_D_state b_D_state 4 (some .int) rm_D_state [.ref (ad (0, 0)), .int v1, .int v2] (fun H => zV (dC, dI) zcl (zKs n) ad (zcE n cI cZ cR cA ad) st H) (fun o H => o = some (.int out.1) ∧ zV (dC, dI) zcl (zKs n) ad (zcE n cI cZ cR cA ad) out.2 H) := by
  refine zC_of (by decide) (Nat.le_of_ble_eq_true rfl) (fun p e s m args below meth c ls S hret hlk hK hP hl => ?_)
  have hS : va_S A s.heap s.heap [] := va_S.rf
  have hl : lv_has ls 4 [(0, .ref (ad (0, 0))), (1, .int v1), (2, .int v2)] := hl
  have hP : zV (dC, dI) zcl (zKs n) ad (zcE n cI cZ cR cA ad) st s.heap := hP
  unfold F_D_state at hF
  refine lv_aload_n S.1 S.2.1 d_D_state_0 rfl (lv_at hl 0 rfl) ?_
  refine lv_iload_n S.1 S.2.1 d_D_state_1 rfl (lv_at hl 1 rfl) ?_
  refine lv_iload_n S.1 S.2.1 d_D_state_2 rfl (lv_at hl 2 rfl) ?_
  cases hc3 : F_D_isRoute n v1 v2 st with
  | none => rw [hc3] at hF; cases hF
  | some u3 =>
    obtain ⟨r3, st3⟩ := u3
    rw [hc3] at hF
    replace hF := zbind hF
    refine zr_callV (rest := []) S zT_good (C_D_isRoute hn hD l v1 v2 st (r3, st3) hc3) zn_D_isRoute zx_87 ⟨rfl, rfl⟩ ⟨Nat.le_of_ble_eq_true rfl, Nat.le_of_ble_eq_true rfl⟩ ⟨Nat.zero_le _, Nat.zero_le _⟩ hK (zr_recv hK hP zk_0 rfl rfl) hP hl.1 (Nat.le_of_ble_eq_true rfl) hS (fun _ h => h) d_D_state_3 rfl (fun o H locs hpo _ _ hS => ?_)
    obtain ⟨rfl, hP⟩ := hpo
    refine W.eq (g2 := F0 m 6 ls [.int r3]) rfl ?_
    replace hF : F_D_state_s1 n v1 v2 r3 st3 = some out := hF
    replace hP : zV (dC, dI) zcl (zKs n) ad (zcE n cI cZ cR cA ad) st3 H := hP
    unfold F_D_state_s1 at hF
    refine lv_if_ne (tgt := 11) S.1 S.2.1 d_D_state_6 (by decide) (fun h6 => ?_) (fun h6 => ?_)
    · rw [if_neg h6] at hF
      refine lv_aload_n S.1 S.2.1 d_D_state_11 rfl (lv_at hl 0 rfl) ?_
      refine lv_iload_n S.1 S.2.1 d_D_state_12 rfl (lv_at hl 1 rfl) ?_
      refine lv_iload_n S.1 S.2.1 d_D_state_13 rfl (lv_at hl 2 rfl) ?_
      cases hc14 : F_D_route n v1 v2 st3 with
      | none => rw [hc14] at hF; cases hF
      | some u14 =>
        obtain ⟨r14, st14⟩ := u14
        rw [hc14] at hF
        replace hF := zbind hF
        refine zr_callV (rest := []) S zT_good (C_D_route hn hD l v1 v2 st3 (r14, st14) hc14) zn_D_route zx_88 ⟨rfl, rfl⟩ ⟨Nat.le_of_ble_eq_true rfl, Nat.le_of_ble_eq_true rfl⟩ ⟨Nat.zero_le _, Nat.zero_le _⟩ hK (zr_recv hK hP zk_0 rfl rfl) hP hl.1 (Nat.le_of_ble_eq_true rfl) hS (fun _ h => h) d_D_state_14 rfl (fun o H locs hpo _ _ hS => ?_)
        obtain ⟨rfl, hP⟩ := hpo
        refine W.eq (g2 := F0 m 17 ls [.ref (ad (7, r14))]) rfl ?_
        have hk_r14 := zk_D_route hn hc14
        replace hF : F_D_state_s2 n r14 st14 = some out := hF
        replace hP : zV (dC, dI) zcl (zKs n) ad (zcE n cI cZ cR cA ad) st14 H := hP
        unfold F_D_state_s2 at hF
        refine lv_astore_n S.1 S.2.1 d_D_state_17 rfl hl (by decide) rfl (fun ls hl => ?_)
        have hl : lv_has ls 4 [(3, .ref (ad (7, r14))), (0, .ref (ad (0, 0))), (1, .int v1), (2, .int v2)] := hl
        refine lv_aload_n S.1 S.2.1 d_D_state_18 rfl (lv_at hl 0 rfl) ?_
        refine zr_get (v := .int (st14 7 r14 3)) S zi_R hK hP hk_r14 rfl rfl 8 (by decide) zx_17 rfl d_D_state_19 ?_
        refine lv_if_ne (tgt := 27) S.1 S.2.1 d_D_state_22 (by decide) (fun h22 => ?_) (fun h22 => ?_)
        · rw [if_neg h22] at hF
          refine lv_iconst (v := 1) S.1 S.2.1 d_D_state_27 (by decide) ?_
          refine lv_aload_n S.1 S.2.1 d_D_state_28 rfl (lv_at hl 0 rfl) ?_
          refine zr_get (v := .int (st14 7 r14 5)) S zi_R hK hP hk_r14 rfl rfl 10 (by decide) zx_2 rfl d_D_state_29 ?_
          refine lv_if_eq (tgt := 39) S.1 S.2.1 d_D_state_32 (by decide) (fun h32 => ?_) (fun h32 => ?_)
          · rw [if_pos h32] at hF
            refine lv_iconst (v := 0) S.1 S.2.1 d_D_state_39 (by decide) ?_
            exact T_D_state_L40 hn hD S hret hlk hK out r14 1 0 hk_r14 st14 _ _ _ hP hS (lv_sub hl [0] rfl) hF
          · rw [if_neg h32] at hF
            refine lv_iconst (v := 1) S.1 S.2.1 d_D_state_35 (by decide) ?_
            refine lv_goto (tgt := 40) S.1 S.2.1 d_D_state_36 (by decide) ?_
            exact T_D_state_L40 hn hD S hret hlk hK out r14 1 1 hk_r14 st14 _ _ _ hP hS (lv_sub hl [0] rfl) hF
        · rw [if_pos h22] at hF
          refine lv_iconst (v := 0) S.1 S.2.1 d_D_state_25 (by decide) ?_
          cases hF
          exact zr_iret S hret hlk hS d_D_state_26 ⟨rfl, hP⟩
    · rw [if_pos h6] at hF
      refine lv_iconst (v := (-1)) S.1 S.2.1 d_D_state_9 (by decide) ?_
      cases hF
      exact zr_iret S hret hlk hS d_D_state_10 ⟨rfl, hP⟩

theorem d_D_told_0 : decode b_D_told 0 = .ok (.aload_n 0, 1) := by decide +kernel
theorem d_D_told_1 : decode b_D_told 1 = .ok (.iload_n 1, 1) := by decide +kernel
theorem d_D_told_2 : decode b_D_told 2 = .ok (.iload_n 3, 1) := by decide +kernel
theorem d_D_told_3 : decode b_D_told 3 = .ok (.invokevirtual 82, 3) := by decide +kernel
theorem d_D_told_6 : decode b_D_told 6 = .ok (.ifCond .eq 17, 3) := by decide +kernel
theorem d_D_told_9 : decode b_D_told 9 = .ok (.iload_n 1, 1) := by decide +kernel
theorem d_D_told_10 : decode b_D_told 10 = .ok (.iload_n 3, 1) := by decide +kernel
theorem d_D_told_11 : decode b_D_told 11 = .ok (.if_icmp .eq 12, 3) := by decide +kernel
theorem d_D_told_14 : decode b_D_told 14 = .ok (.aload_n 0, 1) := by decide +kernel
theorem d_D_told_15 : decode b_D_told 15 = .ok (.iload_n 1, 1) := by decide +kernel
theorem d_D_told_16 : decode b_D_told 16 = .ok (.iload_n 2, 1) := by decide +kernel
theorem d_D_told_17 : decode b_D_told 17 = .ok (.invokevirtual 61, 3) := by decide +kernel
theorem d_D_told_20 : decode b_D_told 20 = .ok (.ifCond .ne 5, 3) := by decide +kernel
theorem d_D_told_23 : decode b_D_told 23 = .ok (.iconst (-1), 1) := by decide +kernel
theorem d_D_told_24 : decode b_D_told 24 = .ok (.ireturn, 1) := by decide +kernel
theorem d_D_told_25 : decode b_D_told 25 = .ok (.aload_n 0, 1) := by decide +kernel
theorem d_D_told_26 : decode b_D_told 26 = .ok (.iload_n 1, 1) := by decide +kernel
theorem d_D_told_27 : decode b_D_told 27 = .ok (.iload_n 3, 1) := by decide +kernel
theorem d_D_told_28 : decode b_D_told 28 = .ok (.invokevirtual 85, 3) := by decide +kernel
theorem d_D_told_31 : decode b_D_told 31 = .ok (.getfield 108, 3) := by decide +kernel
theorem d_D_told_34 : decode b_D_told 34 = .ok (.iload_n 2, 1) := by decide +kernel
theorem d_D_told_35 : decode b_D_told 35 = .ok (.iaload, 1) := by decide +kernel
theorem d_D_told_36 : decode b_D_told 36 = .ok (.ireturn, 1) := by decide +kernel
def F_D_told_s3 (n : Nat) (v2 : Int32) (u0 : Nat) (st : zS) : Option (Int32 × zS) :=
    if zOut v2 n then none else some (st 8 u0 (Int32.toNatClampNeg v2), st)

def F_D_told_s2 (n : Nat) (v1 : Int32) (v2 : Int32) (v3 : Int32) (t0 : Int32) (st : zS) : Option (Int32 × zS) :=
    if t0 = 0 then (some ((-1), st)) else ((F_D_route n v1 v3 st).bind (fun u => F_D_told_s3 n v2 u.1 u.2))

def F_D_told_s1 (n : Nat) (v1 : Int32) (v2 : Int32) (v3 : Int32) (t0 : Int32) (st : zS) : Option (Int32 × zS) :=
    if t0 = 0 then (some ((-1), st)) else (if v1 = v3 then (some ((-1), st)) else ((F_D_isLink n v1 v2 st).bind (fun u => F_D_told_s2 n v1 v2 v3 u.1 u.2)))

def F_D_told (n : Nat) (v1 : Int32) (v2 : Int32) (v3 : Int32) (st : zS) : Option (Int32 × zS) :=
    (F_D_isRoute n v1 v3 st).bind (fun u => F_D_told_s1 n v1 v2 v3 u.1 u.2)

set_option maxHeartbeats 4000000 in
set_option maxRecDepth 1000000 in
theorem C_D_told {dC : Nat → ClassId} {dI : Nat → Nat → Nat} {cI cZ cR cA : ClassId} {n : Nat} {ad : zK → Nat} {A : Nat → Prop} (hn : 2 ≤ n ∧ n ≤ 6) (hD : zD A (zKs n) ad) (l : Launch) (v1 : Int32) (v2 : Int32) (v3 : Int32) (st : zS) (out : Int32 × zS) (hF : F_D_told n v1 v2 v3 st = some out) : zC zT (dC, dI) zcl (zty cI cZ cR cA) A l y_D_told b_D_told 4 (some .int) rm_D_told [.ref (ad (0, 0)), .int v1, .int v2, .int v3] (fun H => zV (dC, dI) zcl (zKs n) ad (zcE n cI cZ cR cA ad) st H) (fun o H => o = some (.int out.1) ∧ zV (dC, dI) zcl (zKs n) ad (zcE n cI cZ cR cA ad) out.2 H) := by
  refine zC_of (by decide) (Nat.le_of_ble_eq_true rfl) (fun p e s m args below meth c ls S hret hlk hK hP hl => ?_)
  have hS : va_S A s.heap s.heap [] := va_S.rf
  have hl : lv_has ls 4 [(0, .ref (ad (0, 0))), (1, .int v1), (2, .int v2), (3, .int v3)] := hl
  have hP : zV (dC, dI) zcl (zKs n) ad (zcE n cI cZ cR cA ad) st s.heap := hP
  unfold F_D_told at hF
  refine lv_aload_n S.1 S.2.1 d_D_told_0 rfl (lv_at hl 0 rfl) ?_
  refine lv_iload_n S.1 S.2.1 d_D_told_1 rfl (lv_at hl 1 rfl) ?_
  refine lv_iload_n S.1 S.2.1 d_D_told_2 rfl (lv_at hl 3 rfl) ?_
  cases hc3 : F_D_isRoute n v1 v3 st with
  | none => rw [hc3] at hF; cases hF
  | some u3 =>
    obtain ⟨r3, st3⟩ := u3
    rw [hc3] at hF
    replace hF := zbind hF
    refine zr_callV (rest := []) S zT_good (C_D_isRoute hn hD l v1 v3 st (r3, st3) hc3) zn_D_isRoute zx_87 ⟨rfl, rfl⟩ ⟨Nat.le_of_ble_eq_true rfl, Nat.le_of_ble_eq_true rfl⟩ ⟨Nat.zero_le _, Nat.zero_le _⟩ hK (zr_recv hK hP zk_0 rfl rfl) hP hl.1 (Nat.le_of_ble_eq_true rfl) hS (fun _ h => h) d_D_told_3 rfl (fun o H locs hpo _ _ hS => ?_)
    obtain ⟨rfl, hP⟩ := hpo
    refine W.eq (g2 := F0 m 6 ls [.int r3]) rfl ?_
    replace hF : F_D_told_s1 n v1 v2 v3 r3 st3 = some out := hF
    replace hP : zV (dC, dI) zcl (zKs n) ad (zcE n cI cZ cR cA ad) st3 H := hP
    unfold F_D_told_s1 at hF
    refine lv_if_eq (tgt := 23) S.1 S.2.1 d_D_told_6 (by decide) (fun h6 => ?_) (fun h6 => ?_)
    · rw [if_pos h6] at hF
      refine lv_iconst (v := (-1)) S.1 S.2.1 d_D_told_23 (by decide) ?_
      cases hF
      exact zr_iret S hret hlk hS d_D_told_24 ⟨rfl, hP⟩
    · rw [if_neg h6] at hF
      refine lv_iload_n S.1 S.2.1 d_D_told_9 rfl (lv_at hl 1 rfl) ?_
      refine lv_iload_n S.1 S.2.1 d_D_told_10 rfl (lv_at hl 3 rfl) ?_
      refine lv_icmp_eq (tgt := 23) S.1 S.2.1 d_D_told_11 (by decide) (fun h11 => ?_) (fun h11 => ?_)
      · rw [if_pos h11] at hF
        refine lv_iconst (v := (-1)) S.1 S.2.1 d_D_told_23 (by decide) ?_
        cases hF
        exact zr_iret S hret hlk hS d_D_told_24 ⟨rfl, hP⟩
      · rw [if_neg h11] at hF
        refine lv_aload_n S.1 S.2.1 d_D_told_14 rfl (lv_at hl 0 rfl) ?_
        refine lv_iload_n S.1 S.2.1 d_D_told_15 rfl (lv_at hl 1 rfl) ?_
        refine lv_iload_n S.1 S.2.1 d_D_told_16 rfl (lv_at hl 2 rfl) ?_
        cases hc17 : F_D_isLink n v1 v2 st3 with
        | none => rw [hc17] at hF; cases hF
        | some u17 =>
          obtain ⟨r17, st17⟩ := u17
          rw [hc17] at hF
          replace hF := zbind hF
          refine zr_callV (rest := []) S zT_good (C_D_isLink hn hD l v1 v2 st3 (r17, st17) hc17) zn_D_isLink zx_82 ⟨rfl, rfl⟩ ⟨Nat.le_of_ble_eq_true rfl, Nat.le_of_ble_eq_true rfl⟩ ⟨Nat.zero_le _, Nat.zero_le _⟩ hK (zr_recv hK hP zk_0 rfl rfl) hP hl.1 (Nat.le_of_ble_eq_true rfl) hS (fun _ h => h) d_D_told_17 rfl (fun o H locs hpo _ _ hS => ?_)
          obtain ⟨rfl, hP⟩ := hpo
          refine W.eq (g2 := F0 m 20 ls [.int r17]) rfl ?_
          replace hF : F_D_told_s2 n v1 v2 v3 r17 st17 = some out := hF
          replace hP : zV (dC, dI) zcl (zKs n) ad (zcE n cI cZ cR cA ad) st17 H := hP
          unfold F_D_told_s2 at hF
          refine lv_if_ne (tgt := 25) S.1 S.2.1 d_D_told_20 (by decide) (fun h20 => ?_) (fun h20 => ?_)
          · rw [if_neg h20] at hF
            refine lv_aload_n S.1 S.2.1 d_D_told_25 rfl (lv_at hl 0 rfl) ?_
            refine lv_iload_n S.1 S.2.1 d_D_told_26 rfl (lv_at hl 1 rfl) ?_
            refine lv_iload_n S.1 S.2.1 d_D_told_27 rfl (lv_at hl 3 rfl) ?_
            cases hc28 : F_D_route n v1 v3 st17 with
            | none => rw [hc28] at hF; cases hF
            | some u28 =>
              obtain ⟨r28, st28⟩ := u28
              rw [hc28] at hF
              replace hF := zbind hF
              refine zr_callV (rest := []) S zT_good (C_D_route hn hD l v1 v3 st17 (r28, st28) hc28) zn_D_route zx_88 ⟨rfl, rfl⟩ ⟨Nat.le_of_ble_eq_true rfl, Nat.le_of_ble_eq_true rfl⟩ ⟨Nat.zero_le _, Nat.zero_le _⟩ hK (zr_recv hK hP zk_0 rfl rfl) hP hl.1 (Nat.le_of_ble_eq_true rfl) hS (fun _ h => h) d_D_told_28 rfl (fun o H locs hpo _ _ hS => ?_)
              obtain ⟨rfl, hP⟩ := hpo
              refine W.eq (g2 := F0 m 31 ls [.ref (ad (7, r28))]) rfl ?_
              have hk_r28 := zk_D_route hn hc28
              replace hF : F_D_told_s3 n v2 r28 st28 = some out := hF
              replace hP : zV (dC, dI) zcl (zKs n) ad (zcE n cI cZ cR cA ad) st28 H := hP
              unfold F_D_told_s3 at hF
              refine zr_get (v := .ref (ad (8, r28))) S zi_R hK hP hk_r28 rfl rfl 3 (by decide) zx_4 rfl d_D_told_31 ?_
              refine lv_iload_n S.1 S.2.1 d_D_told_34 rfl (lv_at hl 2 rfl) ?_
              by_cases g35 : zOut v2 n
              · rw [if_pos g35] at hF; cases hF
              rw [if_neg g35] at hF
              refine zr_iald S hK hP (zk_87 hk_r28) rfl 0 rfl g35 d_D_told_35 ?_
              cases hF
              exact zr_iret S hret hlk hS d_D_told_36 ⟨rfl, hP⟩
          · rw [if_pos h20] at hF
            refine lv_iconst (v := (-1)) S.1 S.2.1 d_D_told_23 (by decide) ?_
            cases hF
            exact zr_iret S hret hlk hS d_D_told_24 ⟨rfl, hP⟩

theorem d_D_waits_0 : decode b_D_waits 0 = .ok (.aload_n 0, 1) := by decide +kernel
theorem d_D_waits_1 : decode b_D_waits 1 = .ok (.iload_n 1, 1) := by decide +kernel
theorem d_D_waits_2 : decode b_D_waits 2 = .ok (.iload_n 3, 1) := by decide +kernel
theorem d_D_waits_3 : decode b_D_waits 3 = .ok (.invokevirtual 82, 3) := by decide +kernel
theorem d_D_waits_6 : decode b_D_waits 6 = .ok (.ifCond .eq 29, 3) := by decide +kernel
theorem d_D_waits_9 : decode b_D_waits 9 = .ok (.aload_n 0, 1) := by decide +kernel
theorem d_D_waits_10 : decode b_D_waits 10 = .ok (.iload_n 2, 1) := by decide +kernel
theorem d_D_waits_11 : decode b_D_waits 11 = .ok (.invokevirtual 43, 3) := by decide +kernel
theorem d_D_waits_14 : decode b_D_waits 14 = .ok (.ifCond .eq 21, 3) := by decide +kernel
theorem d_D_waits_17 : decode b_D_waits 17 = .ok (.aload_n 0, 1) := by decide +kernel
theorem d_D_waits_18 : decode b_D_waits 18 = .ok (.iload_n 1, 1) := by decide +kernel
theorem d_D_waits_19 : decode b_D_waits 19 = .ok (.iload_n 3, 1) := by decide +kernel
theorem d_D_waits_20 : decode b_D_waits 20 = .ok (.invokevirtual 85, 3) := by decide +kernel
theorem d_D_waits_23 : decode b_D_waits 23 = .ok (.getfield 112, 3) := by decide +kernel
theorem d_D_waits_26 : decode b_D_waits 26 = .ok (.iload_n 2, 1) := by decide +kernel
theorem d_D_waits_27 : decode b_D_waits 27 = .ok (.baload, 1) := by decide +kernel
theorem d_D_waits_28 : decode b_D_waits 28 = .ok (.ifCond .eq 7, 3) := by decide +kernel
theorem d_D_waits_31 : decode b_D_waits 31 = .ok (.iconst 1, 1) := by decide +kernel
theorem d_D_waits_32 : decode b_D_waits 32 = .ok (.goto 4, 3) := by decide +kernel
theorem d_D_waits_35 : decode b_D_waits 35 = .ok (.iconst 0, 1) := by decide +kernel
theorem d_D_waits_36 : decode b_D_waits 36 = .ok (.ireturn, 1) := by decide +kernel
def F_D_waits_s3 (n : Nat) (v2 : Int32) (u0 : Nat) (st : zS) : Option (Int32 × zS) :=
    if zOut v2 n then none else if (st 9 u0 (Int32.toNatClampNeg v2)) = 0 then (some (0, st)) else (some (1, st))

def F_D_waits_s2 (n : Nat) (v1 : Int32) (v2 : Int32) (v3 : Int32) (t0 : Int32) (st : zS) : Option (Int32 × zS) :=
    if t0 = 0 then (some (0, st)) else ((F_D_route n v1 v3 st).bind (fun u => F_D_waits_s3 n v2 u.1 u.2))

def F_D_waits_s1 (n : Nat) (v1 : Int32) (v2 : Int32) (v3 : Int32) (t0 : Int32) (st : zS) : Option (Int32 × zS) :=
    if t0 = 0 then (some (0, st)) else ((F_D_isRouter n v2 st).bind (fun u => F_D_waits_s2 n v1 v2 v3 u.1 u.2))

def F_D_waits (n : Nat) (v1 : Int32) (v2 : Int32) (v3 : Int32) (st : zS) : Option (Int32 × zS) :=
    (F_D_isRoute n v1 v3 st).bind (fun u => F_D_waits_s1 n v1 v2 v3 u.1 u.2)

set_option maxHeartbeats 4000000 in
set_option maxRecDepth 1000000 in
theorem C_D_waits {dC : Nat → ClassId} {dI : Nat → Nat → Nat} {cI cZ cR cA : ClassId} {n : Nat} {ad : zK → Nat} {A : Nat → Prop} (hn : 2 ≤ n ∧ n ≤ 6) (hD : zD A (zKs n) ad) (l : Launch) (v1 : Int32) (v2 : Int32) (v3 : Int32) (st : zS) (out : Int32 × zS) (hF : F_D_waits n v1 v2 v3 st = some out) : zC zT (dC, dI) zcl (zty cI cZ cR cA) A l y_D_waits b_D_waits 4 (some .boolean) rm_D_waits [.ref (ad (0, 0)), .int v1, .int v2, .int v3] (fun H => zV (dC, dI) zcl (zKs n) ad (zcE n cI cZ cR cA ad) st H) (fun o H => o = some (.int out.1) ∧ zV (dC, dI) zcl (zKs n) ad (zcE n cI cZ cR cA ad) out.2 H) := by
  refine zC_of (by decide) (Nat.le_of_ble_eq_true rfl) (fun p e s m args below meth c ls S hret hlk hK hP hl => ?_)
  have hS : va_S A s.heap s.heap [] := va_S.rf
  have hl : lv_has ls 4 [(0, .ref (ad (0, 0))), (1, .int v1), (2, .int v2), (3, .int v3)] := hl
  have hP : zV (dC, dI) zcl (zKs n) ad (zcE n cI cZ cR cA ad) st s.heap := hP
  unfold F_D_waits at hF
  refine lv_aload_n S.1 S.2.1 d_D_waits_0 rfl (lv_at hl 0 rfl) ?_
  refine lv_iload_n S.1 S.2.1 d_D_waits_1 rfl (lv_at hl 1 rfl) ?_
  refine lv_iload_n S.1 S.2.1 d_D_waits_2 rfl (lv_at hl 3 rfl) ?_
  cases hc3 : F_D_isRoute n v1 v3 st with
  | none => rw [hc3] at hF; cases hF
  | some u3 =>
    obtain ⟨r3, st3⟩ := u3
    rw [hc3] at hF
    replace hF := zbind hF
    refine zr_callV (rest := []) S zT_good (C_D_isRoute hn hD l v1 v3 st (r3, st3) hc3) zn_D_isRoute zx_87 ⟨rfl, rfl⟩ ⟨Nat.le_of_ble_eq_true rfl, Nat.le_of_ble_eq_true rfl⟩ ⟨Nat.zero_le _, Nat.zero_le _⟩ hK (zr_recv hK hP zk_0 rfl rfl) hP hl.1 (Nat.le_of_ble_eq_true rfl) hS (fun _ h => h) d_D_waits_3 rfl (fun o H locs hpo _ _ hS => ?_)
    obtain ⟨rfl, hP⟩ := hpo
    refine W.eq (g2 := F0 m 6 ls [.int r3]) rfl ?_
    replace hF : F_D_waits_s1 n v1 v2 v3 r3 st3 = some out := hF
    replace hP : zV (dC, dI) zcl (zKs n) ad (zcE n cI cZ cR cA ad) st3 H := hP
    unfold F_D_waits_s1 at hF
    refine lv_if_eq (tgt := 35) S.1 S.2.1 d_D_waits_6 (by decide) (fun h6 => ?_) (fun h6 => ?_)
    · rw [if_pos h6] at hF
      refine lv_iconst (v := 0) S.1 S.2.1 d_D_waits_35 (by decide) ?_
      cases hF
      exact zr_zret S hret hlk (by decide) hS d_D_waits_36 ⟨rfl, hP⟩
    · rw [if_neg h6] at hF
      refine lv_aload_n S.1 S.2.1 d_D_waits_9 rfl (lv_at hl 0 rfl) ?_
      refine lv_iload_n S.1 S.2.1 d_D_waits_10 rfl (lv_at hl 2 rfl) ?_
      cases hc11 : F_D_isRouter n v2 st3 with
      | none => rw [hc11] at hF; cases hF
      | some u11 =>
        obtain ⟨r11, st11⟩ := u11
        rw [hc11] at hF
        replace hF := zbind hF
        refine zr_callV (rest := []) S zT_good (C_D_isRouter hn hD l v2 st3 (r11, st11) hc11) zn_D_isRouter zx_78 ⟨rfl, rfl⟩ ⟨Nat.le_of_ble_eq_true rfl, Nat.le_of_ble_eq_true rfl⟩ ⟨Nat.zero_le _, Nat.zero_le _⟩ hK (zr_recv hK hP zk_0 rfl rfl) hP hl.1 (Nat.le_of_ble_eq_true rfl) hS (fun _ h => h) d_D_waits_11 rfl (fun o H locs hpo _ _ hS => ?_)
        obtain ⟨rfl, hP⟩ := hpo
        refine W.eq (g2 := F0 m 14 ls [.int r11]) rfl ?_
        replace hF : F_D_waits_s2 n v1 v2 v3 r11 st11 = some out := hF
        replace hP : zV (dC, dI) zcl (zKs n) ad (zcE n cI cZ cR cA ad) st11 H := hP
        unfold F_D_waits_s2 at hF
        refine lv_if_eq (tgt := 35) S.1 S.2.1 d_D_waits_14 (by decide) (fun h14 => ?_) (fun h14 => ?_)
        · rw [if_pos h14] at hF
          refine lv_iconst (v := 0) S.1 S.2.1 d_D_waits_35 (by decide) ?_
          cases hF
          exact zr_zret S hret hlk (by decide) hS d_D_waits_36 ⟨rfl, hP⟩
        · rw [if_neg h14] at hF
          refine lv_aload_n S.1 S.2.1 d_D_waits_17 rfl (lv_at hl 0 rfl) ?_
          refine lv_iload_n S.1 S.2.1 d_D_waits_18 rfl (lv_at hl 1 rfl) ?_
          refine lv_iload_n S.1 S.2.1 d_D_waits_19 rfl (lv_at hl 3 rfl) ?_
          cases hc20 : F_D_route n v1 v3 st11 with
          | none => rw [hc20] at hF; cases hF
          | some u20 =>
            obtain ⟨r20, st20⟩ := u20
            rw [hc20] at hF
            replace hF := zbind hF
            refine zr_callV (rest := []) S zT_good (C_D_route hn hD l v1 v3 st11 (r20, st20) hc20) zn_D_route zx_88 ⟨rfl, rfl⟩ ⟨Nat.le_of_ble_eq_true rfl, Nat.le_of_ble_eq_true rfl⟩ ⟨Nat.zero_le _, Nat.zero_le _⟩ hK (zr_recv hK hP zk_0 rfl rfl) hP hl.1 (Nat.le_of_ble_eq_true rfl) hS (fun _ h => h) d_D_waits_20 rfl (fun o H locs hpo _ _ hS => ?_)
            obtain ⟨rfl, hP⟩ := hpo
            refine W.eq (g2 := F0 m 23 ls [.ref (ad (7, r20))]) rfl ?_
            have hk_r20 := zk_D_route hn hc20
            replace hF : F_D_waits_s3 n v2 r20 st20 = some out := hF
            replace hP : zV (dC, dI) zcl (zKs n) ad (zcE n cI cZ cR cA ad) st20 H := hP
            unfold F_D_waits_s3 at hF
            refine zr_get (v := .ref (ad (9, r20))) S zi_R hK hP hk_r20 rfl rfl 4 (by decide) zx_5 rfl d_D_waits_23 ?_
            refine lv_iload_n S.1 S.2.1 d_D_waits_26 rfl (lv_at hl 2 rfl) ?_
            by_cases g27 : zOut v2 n
            · rw [if_pos g27] at hF; cases hF
            rw [if_neg g27] at hF
            refine zr_zald S hK hP (zk_97 hk_r20) rfl 1 rfl g27 d_D_waits_27 ?_
            refine lv_if_eq (tgt := 35) S.1 S.2.1 d_D_waits_28 (by decide) (fun h28 => ?_) (fun h28 => ?_)
            · rw [if_pos h28] at hF
              refine lv_iconst (v := 0) S.1 S.2.1 d_D_waits_35 (by decide) ?_
              cases hF
              exact zr_zret S hret hlk (by decide) hS d_D_waits_36 ⟨rfl, hP⟩
            · rw [if_neg h28] at hF
              refine lv_iconst (v := 1) S.1 S.2.1 d_D_waits_31 (by decide) ?_
              refine lv_goto (tgt := 36) S.1 S.2.1 d_D_waits_32 (by decide) ?_
              cases hF
              exact zr_zret S hret hlk (by decide) hS d_D_waits_36 ⟨rfl, hP⟩

theorem d_L_count_0 : decode b_L_count 0 = .ok (.iconst 0, 1) := by decide +kernel
theorem d_L_count_1 : decode b_L_count 1 = .ok (.istore_n 3, 1) := by decide +kernel
theorem d_L_count_2 : decode b_L_count 2 = .ok (.aload_n 0, 1) := by decide +kernel
theorem d_L_count_3 : decode b_L_count 3 = .ok (.getfield 22, 3) := by decide +kernel
theorem d_L_count_6 : decode b_L_count 6 = .ok (.istore 4, 2) := by decide +kernel
theorem d_L_count_8 : decode b_L_count 8 = .ok (.iload 4, 2) := by decide +kernel
theorem d_L_count_10 : decode b_L_count 10 = .ok (.aload_n 0, 1) := by decide +kernel
theorem d_L_count_11 : decode b_L_count 11 = .ok (.getfield 18, 3) := by decide +kernel
theorem d_L_count_14 : decode b_L_count 14 = .ok (.if_icmp .ge 23, 3) := by decide +kernel
theorem d_L_count_17 : decode b_L_count 17 = .ok (.aload_n 0, 1) := by decide +kernel
theorem d_L_count_18 : decode b_L_count 18 = .ok (.iload 4, 2) := by decide +kernel
theorem d_L_count_20 : decode b_L_count 20 = .ok (.iload_n 1, 1) := by decide +kernel
theorem d_L_count_21 : decode b_L_count 21 = .ok (.iload_n 2, 1) := by decide +kernel
theorem d_L_count_22 : decode b_L_count 22 = .ok (.invokevirtual 53, 3) := by decide +kernel
theorem d_L_count_25 : decode b_L_count 25 = .ok (.ifCond .eq 6, 3) := by decide +kernel
theorem d_L_count_28 : decode b_L_count 28 = .ok (.iinc 3 1, 3) := by decide +kernel
theorem d_L_count_31 : decode b_L_count 31 = .ok (.iinc 4 1, 3) := by decide +kernel
theorem d_L_count_34 : decode b_L_count 34 = .ok (.goto (-26), 3) := by decide +kernel
theorem d_L_count_37 : decode b_L_count 37 = .ok (.iload_n 3, 1) := by decide +kernel
theorem d_L_count_38 : decode b_L_count 38 = .ok (.ireturn, 1) := by decide +kernel
def F_L_count_L31 (n : Nat) (c8 : Int32 → Int32 → Int32 → Int32 → zS → Option (Int32 × zS)) (v1 : Int32) (v2 : Int32) (v3 : Int32) (v4 : Int32) (st : zS) : Option (Int32 × zS) :=
    c8 v1 v2 v3 (v4 + 1) st

def F_L_count_L8_s1 (n : Nat) (c8 : Int32 → Int32 → Int32 → Int32 → zS → Option (Int32 × zS)) (v1 : Int32) (v2 : Int32) (v3 : Int32) (v4 : Int32) (t0 : Int32) (st : zS) : Option (Int32 × zS) :=
    if t0 = 0 then (F_L_count_L31 n c8 v1 v2 v3 v4 st) else (F_L_count_L31 n c8 v1 v2 (v3 + 1) v4 st)

def F_L_count_L8 (n : Nat) : Nat → Int32 → Int32 → Int32 → Int32 → zS → Option (Int32 × zS)
  | 0, _, _, _, _, _ => none
  | f + 1, v1, v2, v3, v4, st =>
    if (st 3 0 1) ≤ v4 then (some (v3, st)) else ((F_L_isFromTo n v4 v1 v2 st).bind (fun u => F_L_count_L8_s1 n (F_L_count_L8 n f) v1 v2 v3 v4 u.1 u.2))

def F_L_count (n : Nat) (v1 : Int32) (v2 : Int32) (st : zS) : Option (Int32 × zS) :=
    F_L_count_L8 n zFuel v1 v2 0 (st 3 0 0) st

set_option maxHeartbeats 4000000 in
set_option maxRecDepth 1000000 in
theorem T_L_count_L31 {dC : Nat → ClassId} {dI : Nat → Nat → Nat} {cI cZ cR cA : ClassId} {n : Nat} {ad : zK → Nat} {A : Nat → Prop} (hn : 2 ≤ n ∧ n ≤ 6) (hD : zD A (zKs n) ad) {p : Program} {l : Launch} {e : Env} {s : State} {m : MethodId} {args : Array Value} {below : List Frame} {meth : Method} {c : Code} (S : CallFix p m c b_L_count 5 s args zT N_L) (hret : meth.sig.returnType = some .int) (hlk : meth.locks = false) (hK : va_K (dC, dI) zcl (zty cI cZ cR cA) s) (out : Int32 × zS) (c8 : Int32 → Int32 → Int32 → Int32 → zS → Option (Int32 × zS)) (hc8 : ∀ (v1 : Int32) (v2 : Int32) (v3 : Int32) (v4 : Int32) (st : zS) (H : Heap) (locs : List Loc) (ls : Array Slot), zV (dC, dI) zcl (zKs n) ad (zcE n cI cZ cR cA ad) st H → va_S A s.heap H locs → lv_has ls 5 [(0, .ref (ad (3, 0))), (1, .int v1), (2, .int v2), (3, .int v3), (4, .int v4)] → c8 v1 v2 v3 v4 st = some out → W p l e rm_L_count s m args below meth c H locs 0 0 (zQ below A (fun o H => o = some (.int out.1) ∧ zV (dC, dI) zcl (zKs n) ad (zcE n cI cZ cR cA ad) out.2 H) args s) (F0 m 8 ls [])) (v1 : Int32) (v2 : Int32) (v3 : Int32) (v4 : Int32) (st : zS) (H : Heap) (locs : List Loc) (ls : Array Slot) (hP : zV (dC, dI) zcl (zKs n) ad (zcE n cI cZ cR cA ad) st H) (hS : va_S A s.heap H locs) (hl : lv_has ls 5 [(0, .ref (ad (3, 0))), (1, .int v1), (2, .int v2), (3, .int v3), (4, .int v4)]) (hF : F_L_count_L31 n c8 v1 v2 v3 v4 st = some out) : W p l e rm_L_count s m args below meth c H locs 0 0 (zQ below A (fun o H => o = some (.int out.1) ∧ zV (dC, dI) zcl (zKs n) ad (zcE n cI cZ cR cA ad) out.2 H) args s) (F0 m 31 ls []) := by
  unfold F_L_count_L31 at hF
  refine lv_iinc (k := 4) (v := v4 + 1) S.1 S.2.1 d_L_count_31 hl rfl rfl (by decide) rfl (fun ls hl => ?_)
  have hl : lv_has ls 5 [(4, .int (v4 + 1)), (0, .ref (ad (3, 0))), (1, .int v1), (2, .int v2), (3, .int v3)] := hl
  refine lv_goto (tgt := 8) S.1 S.2.1 d_L_count_34 (by decide) ?_
  exact hc8 v1 v2 v3 (v4 + 1) st _ _ _ hP hS (lv_sub hl [1, 2, 3, 4, 0] rfl) hF

set_option maxHeartbeats 4000000 in
set_option maxRecDepth 1000000 in
theorem T_L_count_L8 {dC : Nat → ClassId} {dI : Nat → Nat → Nat} {cI cZ cR cA : ClassId} {n : Nat} {ad : zK → Nat} {A : Nat → Prop} (hn : 2 ≤ n ∧ n ≤ 6) (hD : zD A (zKs n) ad) {p : Program} {l : Launch} {e : Env} {s : State} {m : MethodId} {args : Array Value} {below : List Frame} {meth : Method} {c : Code} (S : CallFix p m c b_L_count 5 s args zT N_L) (hret : meth.sig.returnType = some .int) (hlk : meth.locks = false) (hK : va_K (dC, dI) zcl (zty cI cZ cR cA) s) (out : Int32 × zS) : ∀ (fu : Nat) (v1 : Int32) (v2 : Int32) (v3 : Int32) (v4 : Int32) (st : zS) (H : Heap) (locs : List Loc) (ls : Array Slot) (hP : zV (dC, dI) zcl (zKs n) ad (zcE n cI cZ cR cA ad) st H) (hS : va_S A s.heap H locs) (hl : lv_has ls 5 [(0, .ref (ad (3, 0))), (1, .int v1), (2, .int v2), (3, .int v3), (4, .int v4)]) (hF : F_L_count_L8 n fu v1 v2 v3 v4 st = some out), W p l e rm_L_count s m args below meth c H locs 0 0 (zQ below A (fun o H => o = some (.int out.1) ∧ zV (dC, dI) zcl (zKs n) ad (zcE n cI cZ cR cA ad) out.2 H) args s) (F0 m 8 ls []) := by
  intro fu
  induction fu with
  | zero => intro v1 v2 v3 v4 st H locs ls hP hS hl hF; rw [F_L_count_L8] at hF; cases hF
  | succ f ih =>
    intro v1 v2 v3 v4 st H locs ls hP hS hl hF
    rw [F_L_count_L8] at hF
    refine lv_iload S.1 S.2.1 d_L_count_8 (lv_at hl 4 rfl) ?_
    refine lv_aload_n S.1 S.2.1 d_L_count_10 rfl (lv_at hl 0 rfl) ?_
    refine zr_get (v := .int (st 3 0 1)) S zi_L hK hP zk_3 rfl rfl 3 (by decide) zx_20 rfl d_L_count_11 ?_
    refine lv_icmp_ge (tgt := 37) S.1 S.2.1 d_L_count_14 (by decide) (fun h14 => ?_) (fun h14 => ?_)
    · rw [if_pos h14] at hF
      refine lv_iload_n S.1 S.2.1 d_L_count_37 rfl (lv_at hl 3 rfl) ?_
      cases hF
      exact zr_iret S hret hlk hS d_L_count_38 ⟨rfl, hP⟩
    · rw [if_neg h14] at hF
      refine lv_aload_n S.1 S.2.1 d_L_count_17 rfl (lv_at hl 0 rfl) ?_
      refine lv_iload S.1 S.2.1 d_L_count_18 (lv_at hl 4 rfl) ?_
      refine lv_iload_n S.1 S.2.1 d_L_count_20 rfl (lv_at hl 1 rfl) ?_
      refine lv_iload_n S.1 S.2.1 d_L_count_21 rfl (lv_at hl 2 rfl) ?_
      cases hc22 : F_L_isFromTo n v4 v1 v2 st with
      | none => rw [hc22] at hF; cases hF
      | some u22 =>
        obtain ⟨r22, st22⟩ := u22
        rw [hc22] at hF
        replace hF := zbind hF
        refine zr_callV (rest := []) S zT_good (C_L_isFromTo hn hD l v4 v1 v2 st (r22, st22) hc22) zn_L_isFromTo zx_94 ⟨rfl, rfl⟩ ⟨Nat.le_of_ble_eq_true rfl, Nat.le_of_ble_eq_true rfl⟩ ⟨Nat.zero_le _, Nat.zero_le _⟩ hK (zr_recv hK hP zk_3 rfl rfl) hP hl.1 (Nat.le_of_ble_eq_true rfl) hS (fun _ h => h) d_L_count_22 rfl (fun o H locs hpo _ _ hS => ?_)
        obtain ⟨rfl, hP⟩ := hpo
        refine W.eq (g2 := F0 m 25 ls [.int r22]) rfl ?_
        replace hF : F_L_count_L8_s1 n (F_L_count_L8 n f) v1 v2 v3 v4 r22 st22 = some out := hF
        replace hP : zV (dC, dI) zcl (zKs n) ad (zcE n cI cZ cR cA ad) st22 H := hP
        unfold F_L_count_L8_s1 at hF
        refine lv_if_eq (tgt := 31) S.1 S.2.1 d_L_count_25 (by decide) (fun h25 => ?_) (fun h25 => ?_)
        · rw [if_pos h25] at hF
          exact T_L_count_L31 hn hD S hret hlk hK out (F_L_count_L8 n f) ih v1 v2 v3 v4 st22 _ _ _ hP hS (lv_sub hl [0, 1, 2, 3, 4] rfl) hF
        · rw [if_neg h25] at hF
          refine lv_iinc (k := 3) (v := v3 + 1) S.1 S.2.1 d_L_count_28 hl rfl rfl (by decide) rfl (fun ls hl => ?_)
          have hl : lv_has ls 5 [(3, .int (v3 + 1)), (0, .ref (ad (3, 0))), (1, .int v1), (2, .int v2), (4, .int v4)] := hl
          exact T_L_count_L31 hn hD S hret hlk hK out (F_L_count_L8 n f) ih v1 v2 (v3 + 1) v4 st22 _ _ _ hP hS (lv_sub hl [1, 2, 3, 0, 4] rfl) hF

set_option maxHeartbeats 4000000 in
set_option maxRecDepth 1000000 in
theorem C_L_count {dC : Nat → ClassId} {dI : Nat → Nat → Nat} {cI cZ cR cA : ClassId} {n : Nat} {ad : zK → Nat} {A : Nat → Prop} (hn : 2 ≤ n ∧ n ≤ 6) (hD : zD A (zKs n) ad) (l : Launch) (v1 : Int32) (v2 : Int32) (st : zS) (out : Int32 × zS) (hF : F_L_count n v1 v2 st = some out) : zC zT (dC, dI) zcl (zty cI cZ cR cA) A l y_L_count b_L_count 5 (some .int) rm_L_count [.ref (ad (3, 0)), .int v1, .int v2] (fun H => zV (dC, dI) zcl (zKs n) ad (zcE n cI cZ cR cA ad) st H) (fun o H => o = some (.int out.1) ∧ zV (dC, dI) zcl (zKs n) ad (zcE n cI cZ cR cA ad) out.2 H) := by
  refine zC_of (by decide) (Nat.le_of_ble_eq_true rfl) (fun p e s m args below meth c ls S hret hlk hK hP hl => ?_)
  have hS : va_S A s.heap s.heap [] := va_S.rf
  have hl : lv_has ls 5 [(0, .ref (ad (3, 0))), (1, .int v1), (2, .int v2)] := hl
  have hP : zV (dC, dI) zcl (zKs n) ad (zcE n cI cZ cR cA ad) st s.heap := hP
  unfold F_L_count at hF
  refine lv_iconst (v := 0) S.1 S.2.1 d_L_count_0 (by decide) ?_
  refine lv_istore_n S.1 S.2.1 d_L_count_1 rfl hl (by decide) rfl (fun ls hl => ?_)
  have hl : lv_has ls 5 [(3, .int 0), (0, .ref (ad (3, 0))), (1, .int v1), (2, .int v2)] := hl
  refine lv_aload_n S.1 S.2.1 d_L_count_2 rfl (lv_at hl 1 rfl) ?_
  refine zr_get (v := .int (st 3 0 0)) S zi_L hK hP zk_3 rfl rfl 2 (by decide) zx_21 rfl d_L_count_3 ?_
  refine lv_istore S.1 S.2.1 d_L_count_6 hl (by decide) rfl (fun ls hl => ?_)
  have hl : lv_has ls 5 [(4, .int (st 3 0 0)), (3, .int 0), (0, .ref (ad (3, 0))), (1, .int v1), (2, .int v2)] := hl
  exact T_L_count_L8 hn hD S hret hlk hK out zFuel v1 v2 0 (st 3 0 0) st _ _ _ hP hS (lv_sub hl [2, 3, 4, 1, 0] rfl) hF

theorem d_D_flight_0 : decode b_D_flight 0 = .ok (.aload_n 0, 1) := by decide +kernel
theorem d_D_flight_1 : decode b_D_flight 1 = .ok (.iload_n 1, 1) := by decide +kernel
theorem d_D_flight_2 : decode b_D_flight 2 = .ok (.iload_n 2, 1) := by decide +kernel
theorem d_D_flight_3 : decode b_D_flight 3 = .ok (.invokevirtual 61, 3) := by decide +kernel
theorem d_D_flight_6 : decode b_D_flight 6 = .ok (.ifCond .eq 15, 3) := by decide +kernel
theorem d_D_flight_9 : decode b_D_flight 9 = .ok (.aload_n 0, 1) := by decide +kernel
theorem d_D_flight_10 : decode b_D_flight 10 = .ok (.getfield 39, 3) := by decide +kernel
theorem d_D_flight_13 : decode b_D_flight 13 = .ok (.iload_n 1, 1) := by decide +kernel
theorem d_D_flight_14 : decode b_D_flight 14 = .ok (.iload_n 2, 1) := by decide +kernel
theorem d_D_flight_15 : decode b_D_flight 15 = .ok (.invokevirtual 116, 3) := by decide +kernel
theorem d_D_flight_18 : decode b_D_flight 18 = .ok (.goto 4, 3) := by decide +kernel
theorem d_D_flight_21 : decode b_D_flight 21 = .ok (.iconst (-1), 1) := by decide +kernel
theorem d_D_flight_22 : decode b_D_flight 22 = .ok (.ireturn, 1) := by decide +kernel
def F_D_flight_s2 (n : Nat) (t0 : Int32) (st : zS) : Option (Int32 × zS) :=
    some (t0, st)

def F_D_flight_s1 (n : Nat) (v1 : Int32) (v2 : Int32) (t0 : Int32) (st : zS) : Option (Int32 × zS) :=
    if t0 = 0 then (some ((-1), st)) else ((F_L_count n v1 v2 st).bind (fun u => F_D_flight_s2 n u.1 u.2))

def F_D_flight (n : Nat) (v1 : Int32) (v2 : Int32) (st : zS) : Option (Int32 × zS) :=
    (F_D_isLink n v1 v2 st).bind (fun u => F_D_flight_s1 n v1 v2 u.1 u.2)

set_option maxHeartbeats 4000000 in
set_option maxRecDepth 1000000 in
theorem C_D_flight {dC : Nat → ClassId} {dI : Nat → Nat → Nat} {cI cZ cR cA : ClassId} {n : Nat} {ad : zK → Nat} {A : Nat → Prop} (hn : 2 ≤ n ∧ n ≤ 6) (hD : zD A (zKs n) ad) (l : Launch) (v1 : Int32) (v2 : Int32) (st : zS) (out : Int32 × zS) (hF : F_D_flight n v1 v2 st = some out) : zC zT (dC, dI) zcl (zty cI cZ cR cA) A l y_D_flight b_D_flight 3 (some .int) rm_D_flight [.ref (ad (0, 0)), .int v1, .int v2] (fun H => zV (dC, dI) zcl (zKs n) ad (zcE n cI cZ cR cA ad) st H) (fun o H => o = some (.int out.1) ∧ zV (dC, dI) zcl (zKs n) ad (zcE n cI cZ cR cA ad) out.2 H) := by
  refine zC_of (by decide) (Nat.le_of_ble_eq_true rfl) (fun p e s m args below meth c ls S hret hlk hK hP hl => ?_)
  have hS : va_S A s.heap s.heap [] := va_S.rf
  have hl : lv_has ls 3 [(0, .ref (ad (0, 0))), (1, .int v1), (2, .int v2)] := hl
  have hP : zV (dC, dI) zcl (zKs n) ad (zcE n cI cZ cR cA ad) st s.heap := hP
  unfold F_D_flight at hF
  refine lv_aload_n S.1 S.2.1 d_D_flight_0 rfl (lv_at hl 0 rfl) ?_
  refine lv_iload_n S.1 S.2.1 d_D_flight_1 rfl (lv_at hl 1 rfl) ?_
  refine lv_iload_n S.1 S.2.1 d_D_flight_2 rfl (lv_at hl 2 rfl) ?_
  cases hc3 : F_D_isLink n v1 v2 st with
  | none => rw [hc3] at hF; cases hF
  | some u3 =>
    obtain ⟨r3, st3⟩ := u3
    rw [hc3] at hF
    replace hF := zbind hF
    refine zr_callV (rest := []) S zT_good (C_D_isLink hn hD l v1 v2 st (r3, st3) hc3) zn_D_isLink zx_82 ⟨rfl, rfl⟩ ⟨Nat.le_of_ble_eq_true rfl, Nat.le_of_ble_eq_true rfl⟩ ⟨Nat.zero_le _, Nat.zero_le _⟩ hK (zr_recv hK hP zk_0 rfl rfl) hP hl.1 (Nat.le_of_ble_eq_true rfl) hS (fun _ h => h) d_D_flight_3 rfl (fun o H locs hpo _ _ hS => ?_)
    obtain ⟨rfl, hP⟩ := hpo
    refine W.eq (g2 := F0 m 6 ls [.int r3]) rfl ?_
    replace hF : F_D_flight_s1 n v1 v2 r3 st3 = some out := hF
    replace hP : zV (dC, dI) zcl (zKs n) ad (zcE n cI cZ cR cA ad) st3 H := hP
    unfold F_D_flight_s1 at hF
    refine lv_if_eq (tgt := 21) S.1 S.2.1 d_D_flight_6 (by decide) (fun h6 => ?_) (fun h6 => ?_)
    · rw [if_pos h6] at hF
      refine lv_iconst (v := (-1)) S.1 S.2.1 d_D_flight_21 (by decide) ?_
      cases hF
      exact zr_iret S hret hlk hS d_D_flight_22 ⟨rfl, hP⟩
    · rw [if_neg h6] at hF
      refine lv_aload_n S.1 S.2.1 d_D_flight_9 rfl (lv_at hl 0 rfl) ?_
      refine zr_get (v := .ref (ad (3, 0))) S zi_D hK hP zk_0 rfl rfl 3 (by decide) zx_11 rfl d_D_flight_10 ?_
      refine lv_iload_n S.1 S.2.1 d_D_flight_13 rfl (lv_at hl 1 rfl) ?_
      refine lv_iload_n S.1 S.2.1 d_D_flight_14 rfl (lv_at hl 2 rfl) ?_
      cases hc15 : F_L_count n v1 v2 st3 with
      | none => rw [hc15] at hF; cases hF
      | some u15 =>
        obtain ⟨r15, st15⟩ := u15
        rw [hc15] at hF
        replace hF := zbind hF
        refine zr_callV (rest := []) S zT_good (C_L_count hn hD l v1 v2 st3 (r15, st15) hc15) zn_L_count zx_55 ⟨rfl, rfl⟩ ⟨Nat.le_of_ble_eq_true rfl, Nat.le_of_ble_eq_true rfl⟩ ⟨Nat.zero_le _, Nat.zero_le _⟩ hK (zr_recv hK hP zk_3 rfl rfl) hP hl.1 (Nat.le_of_ble_eq_true rfl) hS (fun _ h => h) d_D_flight_15 rfl (fun o H locs hpo _ _ hS => ?_)
        obtain ⟨rfl, hP⟩ := hpo
        refine W.eq (g2 := F0 m 18 ls [.int r15]) rfl ?_
        replace hF : F_D_flight_s2 n r15 st15 = some out := hF
        replace hP : zV (dC, dI) zcl (zKs n) ad (zcE n cI cZ cR cA ad) st15 H := hP
        unfold F_D_flight_s2 at hF
        refine lv_goto (tgt := 22) S.1 S.2.1 d_D_flight_18 (by decide) ?_
        cases hF
        exact zr_iret S hret hlk hS d_D_flight_22 ⟨rfl, hP⟩

theorem d_D_message_0 : decode b_D_message 0 = .ok (.aload_n 0, 1) := by decide +kernel
theorem d_D_message_1 : decode b_D_message 1 = .ok (.iload_n 1, 1) := by decide +kernel
theorem d_D_message_2 : decode b_D_message 2 = .ok (.iload_n 2, 1) := by decide +kernel
theorem d_D_message_3 : decode b_D_message 3 = .ok (.invokevirtual 61, 3) := by decide +kernel
theorem d_D_message_6 : decode b_D_message 6 = .ok (.ifCond .eq 16, 3) := by decide +kernel
theorem d_D_message_9 : decode b_D_message 9 = .ok (.aload_n 0, 1) := by decide +kernel
theorem d_D_message_10 : decode b_D_message 10 = .ok (.getfield 39, 3) := by decide +kernel
theorem d_D_message_13 : decode b_D_message 13 = .ok (.iload_n 1, 1) := by decide +kernel
theorem d_D_message_14 : decode b_D_message 14 = .ok (.iload_n 2, 1) := by decide +kernel
theorem d_D_message_15 : decode b_D_message 15 = .ok (.iload_n 3, 1) := by decide +kernel
theorem d_D_message_16 : decode b_D_message 16 = .ok (.invokevirtual 71, 3) := by decide +kernel
theorem d_D_message_19 : decode b_D_message 19 = .ok (.goto 4, 3) := by decide +kernel
theorem d_D_message_22 : decode b_D_message 22 = .ok (.iconst (-1), 1) := by decide +kernel
theorem d_D_message_23 : decode b_D_message 23 = .ok (.istore 5, 2) := by decide +kernel
theorem d_D_message_25 : decode b_D_message 25 = .ok (.iload 5, 2) := by decide +kernel
theorem d_D_message_27 : decode b_D_message 27 = .ok (.iconst (-1), 1) := by decide +kernel
theorem d_D_message_28 : decode b_D_message 28 = .ok (.if_icmp .ne 5, 3) := by decide +kernel
theorem d_D_message_31 : decode b_D_message 31 = .ok (.iconst (-1), 1) := by decide +kernel
theorem d_D_message_32 : decode b_D_message 32 = .ok (.ireturn, 1) := by decide +kernel
theorem d_D_message_33 : decode b_D_message 33 = .ok (.aload_n 0, 1) := by decide +kernel
theorem d_D_message_34 : decode b_D_message 34 = .ok (.getfield 39, 3) := by decide +kernel
theorem d_D_message_37 : decode b_D_message 37 = .ok (.getfield 119, 3) := by decide +kernel
theorem d_D_message_40 : decode b_D_message 40 = .ok (.iload 5, 2) := by decide +kernel
theorem d_D_message_42 : decode b_D_message 42 = .ok (.iaload, 1) := by decide +kernel
theorem d_D_message_43 : decode b_D_message 43 = .ok (.istore 6, 2) := by decide +kernel
theorem d_D_message_45 : decode b_D_message 45 = .ok (.iload 4, 2) := by decide +kernel
theorem d_D_message_47 : decode b_D_message 47 = .ok (.tableswitch 43 0 2 #[25, 31, 37], 25) := by decide +kernel
theorem d_D_message_72 : decode b_D_message 72 = .ok (.iload 6, 2) := by decide +kernel
theorem d_D_message_74 : decode b_D_message 74 = .ok (.invokestatic 122, 3) := by decide +kernel
theorem d_D_message_77 : decode b_D_message 77 = .ok (.ireturn, 1) := by decide +kernel
theorem d_D_message_78 : decode b_D_message 78 = .ok (.iload 6, 2) := by decide +kernel
theorem d_D_message_80 : decode b_D_message 80 = .ok (.invokestatic 125, 3) := by decide +kernel
theorem d_D_message_83 : decode b_D_message 83 = .ok (.ireturn, 1) := by decide +kernel
theorem d_D_message_84 : decode b_D_message 84 = .ok (.iload 6, 2) := by decide +kernel
theorem d_D_message_86 : decode b_D_message 86 = .ok (.invokestatic 128, 3) := by decide +kernel
theorem d_D_message_89 : decode b_D_message 89 = .ok (.ireturn, 1) := by decide +kernel
theorem d_D_message_90 : decode b_D_message 90 = .ok (.iconst (-1), 1) := by decide +kernel
theorem d_D_message_91 : decode b_D_message 91 = .ok (.ireturn, 1) := by decide +kernel
def F_D_message_L23_s1 (n : Nat) (t0 : Int32) (st : zS) : Option (Int32 × zS) :=
    some (t0, st)

def F_D_message_L23_s2 (n : Nat) (t0 : Int32) (st : zS) : Option (Int32 × zS) :=
    some (t0, st)

def F_D_message_L23_s3 (n : Nat) (t0 : Int32) (st : zS) : Option (Int32 × zS) :=
    some (t0, st)

def F_D_message_L23 (n : Nat) (v4 : Int32) (t0 : Int32) (st : zS) : Option (Int32 × zS) :=
    if t0 = (-1) then (some ((-1), st)) else (if zOut t0 1024 then none else if v4 = 0 then ((F_L_kindOf n (st 4 0 (Int32.toNatClampNeg t0)) st).bind (fun u => F_D_message_L23_s1 n u.1 u.2)) else if v4 = 1 then ((F_L_targetOf n (st 4 0 (Int32.toNatClampNeg t0)) st).bind (fun u => F_D_message_L23_s2 n u.1 u.2)) else if v4 = 2 then ((F_L_distanceOf n (st 4 0 (Int32.toNatClampNeg t0)) st).bind (fun u => F_D_message_L23_s3 n u.1 u.2)) else (some ((-1), st)))

def F_D_message_s2 (n : Nat) (v4 : Int32) (t0 : Int32) (st : zS) : Option (Int32 × zS) :=
    F_D_message_L23 n v4 t0 st

def F_D_message_s1 (n : Nat) (v1 : Int32) (v2 : Int32) (v3 : Int32) (v4 : Int32) (t0 : Int32) (st : zS) : Option (Int32 × zS) :=
    if t0 = 0 then (F_D_message_L23 n v4 (-1) st) else ((F_L_find n v1 v2 v3 st).bind (fun u => F_D_message_s2 n v4 u.1 u.2))

def F_D_message (n : Nat) (v1 : Int32) (v2 : Int32) (v3 : Int32) (v4 : Int32) (st : zS) : Option (Int32 × zS) :=
    (F_D_isLink n v1 v2 st).bind (fun u => F_D_message_s1 n v1 v2 v3 v4 u.1 u.2)

set_option maxHeartbeats 4000000 in
set_option maxRecDepth 1000000 in
theorem T_D_message_L23 {dC : Nat → ClassId} {dI : Nat → Nat → Nat} {cI cZ cR cA : ClassId} {n : Nat} {ad : zK → Nat} {A : Nat → Prop} (hn : 2 ≤ n ∧ n ≤ 6) (hD : zD A (zKs n) ad) {p : Program} {l : Launch} {e : Env} {s : State} {m : MethodId} {args : Array Value} {below : List Frame} {meth : Method} {c : Code} (S : CallFix p m c b_D_message 7 s args zT N_D) (hret : meth.sig.returnType = some .int) (hlk : meth.locks = false) (hK : va_K (dC, dI) zcl (zty cI cZ cR cA) s) (out : Int32 × zS) (v4 : Int32) (t0 : Int32) (st : zS) (H : Heap) (locs : List Loc) (ls : Array Slot) (hP : zV (dC, dI) zcl (zKs n) ad (zcE n cI cZ cR cA ad) st H) (hS : va_S A s.heap H locs) (hl : lv_has ls 7 [(0, .ref (ad (0, 0))), (4, .int v4)]) (hF : F_D_message_L23 n v4 t0 st = some out) : W p l e rm_D_message s m args below meth c H locs 0 0 (zQ below A (fun o H => o = some (.int out.1) ∧ zV (dC, dI) zcl (zKs n) ad (zcE n cI cZ cR cA ad) out.2 H) args s) (F0 m 23 ls [.int t0]) := by
  unfold F_D_message_L23 at hF
  refine lv_istore S.1 S.2.1 d_D_message_23 hl (by decide) rfl (fun ls hl => ?_)
  have hl : lv_has ls 7 [(5, .int t0), (0, .ref (ad (0, 0))), (4, .int v4)] := hl
  refine lv_iload S.1 S.2.1 d_D_message_25 (lv_at hl 0 rfl) ?_
  refine lv_iconst (v := (-1)) S.1 S.2.1 d_D_message_27 (by decide) ?_
  refine lv_icmp_ne (tgt := 33) S.1 S.2.1 d_D_message_28 (by decide) (fun h28 => ?_) (fun h28 => ?_)
  · rw [if_neg h28] at hF
    refine lv_aload_n S.1 S.2.1 d_D_message_33 rfl (lv_at hl 1 rfl) ?_
    refine zr_get (v := .ref (ad (3, 0))) S zi_D hK hP zk_0 rfl rfl 3 (by decide) zx_11 rfl d_D_message_34 ?_
    refine zr_get (v := .ref (ad (4, 0))) S zi_L hK hP zk_3 rfl rfl 0 (by decide) zx_6 rfl d_D_message_37 ?_
    refine lv_iload S.1 S.2.1 d_D_message_40 (lv_at hl 0 rfl) ?_
    by_cases g42 : zOut t0 1024
    · rw [if_pos g42] at hF; cases hF
    rw [if_neg g42] at hF
    refine zr_iald S hK hP zk_4 rfl 0 rfl g42 d_D_message_42 ?_
    refine lv_istore S.1 S.2.1 d_D_message_43 hl (by decide) rfl (fun ls hl => ?_)
    have hl : lv_has ls 7 [(6, .int (st 4 0 (Int32.toNatClampNeg t0))), (5, .int t0), (0, .ref (ad (0, 0))), (4, .int v4)] := hl
    refine lv_iload S.1 S.2.1 d_D_message_45 (lv_at hl 3 rfl) ?_
    by_cases h47_0 : v4 = 0
    · rw [if_pos h47_0] at hF
      refine lv_tableIn (tgt := 72) (off := 25) S.1 S.2.1 d_D_message_47 (by rw [h47_0]; decide) (by rw [h47_0]; decide) (by rw [h47_0]; rfl) (by decide) ?_
      refine lv_iload S.1 S.2.1 d_D_message_72 (lv_at hl 0 rfl) ?_
      cases hc74 : F_L_kindOf n (st 4 0 (Int32.toNatClampNeg t0)) st with
      | none => rw [hc74] at hF; cases hF
      | some u74 =>
        obtain ⟨r74, st74⟩ := u74
        rw [hc74] at hF
        replace hF := zbind hF
        refine zr_callS (rest := []) S zT_good (C_L_kindOf hn hD l (st 4 0 (Int32.toNatClampNeg t0)) st (r74, st74) hc74) zn_L_kindOf zx_56 ⟨rfl, rfl⟩ ⟨Nat.le_of_ble_eq_true rfl, Nat.le_of_ble_eq_true rfl⟩ ⟨Nat.zero_le _, Nat.zero_le _⟩ hK hP hl.1 (Nat.le_of_ble_eq_true rfl) hS (fun _ h => h) d_D_message_74 rfl (fun o H locs hpo _ _ hS => ?_)
        obtain ⟨rfl, hP⟩ := hpo
        refine W.eq (g2 := F0 m 77 ls [.int r74]) rfl ?_
        replace hF : F_D_message_L23_s1 n r74 st74 = some out := hF
        replace hP : zV (dC, dI) zcl (zKs n) ad (zcE n cI cZ cR cA ad) st74 H := hP
        unfold F_D_message_L23_s1 at hF
        cases hF
        exact zr_iret S hret hlk hS d_D_message_77 ⟨rfl, hP⟩
    rw [if_neg h47_0] at hF
    by_cases h47_1 : v4 = 1
    · rw [if_pos h47_1] at hF
      refine lv_tableIn (tgt := 78) (off := 31) S.1 S.2.1 d_D_message_47 (by rw [h47_1]; decide) (by rw [h47_1]; decide) (by rw [h47_1]; rfl) (by decide) ?_
      refine lv_iload S.1 S.2.1 d_D_message_78 (lv_at hl 0 rfl) ?_
      cases hc80 : F_L_targetOf n (st 4 0 (Int32.toNatClampNeg t0)) st with
      | none => rw [hc80] at hF; cases hF
      | some u80 =>
        obtain ⟨r80, st80⟩ := u80
        rw [hc80] at hF
        replace hF := zbind hF
        refine zr_callS (rest := []) S zT_good (C_L_targetOf hn hD l (st 4 0 (Int32.toNatClampNeg t0)) st (r80, st80) hc80) zn_L_targetOf zx_57 ⟨rfl, rfl⟩ ⟨Nat.le_of_ble_eq_true rfl, Nat.le_of_ble_eq_true rfl⟩ ⟨Nat.zero_le _, Nat.zero_le _⟩ hK hP hl.1 (Nat.le_of_ble_eq_true rfl) hS (fun _ h => h) d_D_message_80 rfl (fun o H locs hpo _ _ hS => ?_)
        obtain ⟨rfl, hP⟩ := hpo
        refine W.eq (g2 := F0 m 83 ls [.int r80]) rfl ?_
        replace hF : F_D_message_L23_s2 n r80 st80 = some out := hF
        replace hP : zV (dC, dI) zcl (zKs n) ad (zcE n cI cZ cR cA ad) st80 H := hP
        unfold F_D_message_L23_s2 at hF
        cases hF
        exact zr_iret S hret hlk hS d_D_message_83 ⟨rfl, hP⟩
    rw [if_neg h47_1] at hF
    by_cases h47_2 : v4 = 2
    · rw [if_pos h47_2] at hF
      refine lv_tableIn (tgt := 84) (off := 37) S.1 S.2.1 d_D_message_47 (by rw [h47_2]; decide) (by rw [h47_2]; decide) (by rw [h47_2]; rfl) (by decide) ?_
      refine lv_iload S.1 S.2.1 d_D_message_84 (lv_at hl 0 rfl) ?_
      cases hc86 : F_L_distanceOf n (st 4 0 (Int32.toNatClampNeg t0)) st with
      | none => rw [hc86] at hF; cases hF
      | some u86 =>
        obtain ⟨r86, st86⟩ := u86
        rw [hc86] at hF
        replace hF := zbind hF
        refine zr_callS (rest := []) S zT_good (C_L_distanceOf hn hD l (st 4 0 (Int32.toNatClampNeg t0)) st (r86, st86) hc86) zn_L_distanceOf zx_58 ⟨rfl, rfl⟩ ⟨Nat.le_of_ble_eq_true rfl, Nat.le_of_ble_eq_true rfl⟩ ⟨Nat.zero_le _, Nat.zero_le _⟩ hK hP hl.1 (Nat.le_of_ble_eq_true rfl) hS (fun _ h => h) d_D_message_86 rfl (fun o H locs hpo _ _ hS => ?_)
        obtain ⟨rfl, hP⟩ := hpo
        refine W.eq (g2 := F0 m 89 ls [.int r86]) rfl ?_
        replace hF : F_D_message_L23_s3 n r86 st86 = some out := hF
        replace hP : zV (dC, dI) zcl (zKs n) ad (zcE n cI cZ cR cA ad) st86 H := hP
        unfold F_D_message_L23_s3 at hF
        cases hF
        exact zr_iret S hret hlk hS d_D_message_89 ⟨rfl, hP⟩
    rw [if_neg h47_2] at hF
    refine lv_tableOut (tgt := 90) S.1 S.2.1 d_D_message_47 (zsw_2 h47_0 h47_1 h47_2) (by decide) ?_
    refine lv_iconst (v := (-1)) S.1 S.2.1 d_D_message_90 (by decide) ?_
    cases hF
    exact zr_iret S hret hlk hS d_D_message_91 ⟨rfl, hP⟩
  · rw [if_pos h28] at hF
    refine lv_iconst (v := (-1)) S.1 S.2.1 d_D_message_31 (by decide) ?_
    cases hF
    exact zr_iret S hret hlk hS d_D_message_32 ⟨rfl, hP⟩

set_option maxHeartbeats 4000000 in
set_option maxRecDepth 1000000 in
theorem C_D_message {dC : Nat → ClassId} {dI : Nat → Nat → Nat} {cI cZ cR cA : ClassId} {n : Nat} {ad : zK → Nat} {A : Nat → Prop} (hn : 2 ≤ n ∧ n ≤ 6) (hD : zD A (zKs n) ad) (l : Launch) (v1 : Int32) (v2 : Int32) (v3 : Int32) (v4 : Int32) (st : zS) (out : Int32 × zS) (hF : F_D_message n v1 v2 v3 v4 st = some out) : zC zT (dC, dI) zcl (zty cI cZ cR cA) A l y_D_message b_D_message 7 (some .int) rm_D_message [.ref (ad (0, 0)), .int v1, .int v2, .int v3, .int v4] (fun H => zV (dC, dI) zcl (zKs n) ad (zcE n cI cZ cR cA ad) st H) (fun o H => o = some (.int out.1) ∧ zV (dC, dI) zcl (zKs n) ad (zcE n cI cZ cR cA ad) out.2 H) := by
  refine zC_of (by decide) (Nat.le_of_ble_eq_true rfl) (fun p e s m args below meth c ls S hret hlk hK hP hl => ?_)
  have hS : va_S A s.heap s.heap [] := va_S.rf
  have hl : lv_has ls 7 [(0, .ref (ad (0, 0))), (1, .int v1), (2, .int v2), (3, .int v3), (4, .int v4)] := hl
  have hP : zV (dC, dI) zcl (zKs n) ad (zcE n cI cZ cR cA ad) st s.heap := hP
  unfold F_D_message at hF
  refine lv_aload_n S.1 S.2.1 d_D_message_0 rfl (lv_at hl 0 rfl) ?_
  refine lv_iload_n S.1 S.2.1 d_D_message_1 rfl (lv_at hl 1 rfl) ?_
  refine lv_iload_n S.1 S.2.1 d_D_message_2 rfl (lv_at hl 2 rfl) ?_
  cases hc3 : F_D_isLink n v1 v2 st with
  | none => rw [hc3] at hF; cases hF
  | some u3 =>
    obtain ⟨r3, st3⟩ := u3
    rw [hc3] at hF
    replace hF := zbind hF
    refine zr_callV (rest := []) S zT_good (C_D_isLink hn hD l v1 v2 st (r3, st3) hc3) zn_D_isLink zx_82 ⟨rfl, rfl⟩ ⟨Nat.le_of_ble_eq_true rfl, Nat.le_of_ble_eq_true rfl⟩ ⟨Nat.zero_le _, Nat.zero_le _⟩ hK (zr_recv hK hP zk_0 rfl rfl) hP hl.1 (Nat.le_of_ble_eq_true rfl) hS (fun _ h => h) d_D_message_3 rfl (fun o H locs hpo _ _ hS => ?_)
    obtain ⟨rfl, hP⟩ := hpo
    refine W.eq (g2 := F0 m 6 ls [.int r3]) rfl ?_
    replace hF : F_D_message_s1 n v1 v2 v3 v4 r3 st3 = some out := hF
    replace hP : zV (dC, dI) zcl (zKs n) ad (zcE n cI cZ cR cA ad) st3 H := hP
    unfold F_D_message_s1 at hF
    refine lv_if_eq (tgt := 22) S.1 S.2.1 d_D_message_6 (by decide) (fun h6 => ?_) (fun h6 => ?_)
    · rw [if_pos h6] at hF
      refine lv_iconst (v := (-1)) S.1 S.2.1 d_D_message_22 (by decide) ?_
      exact T_D_message_L23 hn hD S hret hlk hK out v4 (-1) st3 _ _ _ hP hS (lv_sub hl [0, 4] rfl) hF
    · rw [if_neg h6] at hF
      refine lv_aload_n S.1 S.2.1 d_D_message_9 rfl (lv_at hl 0 rfl) ?_
      refine zr_get (v := .ref (ad (3, 0))) S zi_D hK hP zk_0 rfl rfl 3 (by decide) zx_11 rfl d_D_message_10 ?_
      refine lv_iload_n S.1 S.2.1 d_D_message_13 rfl (lv_at hl 1 rfl) ?_
      refine lv_iload_n S.1 S.2.1 d_D_message_14 rfl (lv_at hl 2 rfl) ?_
      refine lv_iload_n S.1 S.2.1 d_D_message_15 rfl (lv_at hl 3 rfl) ?_
      cases hc16 : F_L_find n v1 v2 v3 st3 with
      | none => rw [hc16] at hF; cases hF
      | some u16 =>
        obtain ⟨r16, st16⟩ := u16
        rw [hc16] at hF
        replace hF := zbind hF
        refine zr_callV (rest := []) S zT_good (C_L_find hn hD l v1 v2 v3 st3 (r16, st16) hc16) zn_L_find zx_85 ⟨rfl, rfl⟩ ⟨Nat.le_of_ble_eq_true rfl, Nat.le_of_ble_eq_true rfl⟩ ⟨Nat.zero_le _, Nat.zero_le _⟩ hK (zr_recv hK hP zk_3 rfl rfl) hP hl.1 (Nat.le_of_ble_eq_true rfl) hS (fun _ h => h) d_D_message_16 rfl (fun o H locs hpo _ _ hS => ?_)
        obtain ⟨rfl, hP⟩ := hpo
        refine W.eq (g2 := F0 m 19 ls [.int r16]) rfl ?_
        replace hF : F_D_message_s2 n v4 r16 st16 = some out := hF
        replace hP : zV (dC, dI) zcl (zKs n) ad (zcE n cI cZ cR cA ad) st16 H := hP
        unfold F_D_message_s2 at hF
        refine lv_goto (tgt := 23) S.1 S.2.1 d_D_message_19 (by decide) ?_
        exact T_D_message_L23 hn hD S hret hlk hK out v4 r16 st16 _ _ _ hP hS (lv_sub hl [0, 4] rfl) hF

