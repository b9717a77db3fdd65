theorem d_D_hops_0 : decode b_D_hops 0 = .ok (.aload_n 0, 1) := by decide +kernel
theorem d_D_hops_1 : decode b_D_hops 1 = .ok (.iload_n 1, 1) := by decide +kernel
theorem d_D_hops_2 : decode b_D_hops 2 = .ok (.iload_n 2, 1) := by decide +kernel
theorem d_D_hops_3 : decode b_D_hops 3 = .ok (.invokevirtual 82, 3) := by decide +kernel
theorem d_D_hops_6 : decode b_D_hops 6 = .ok (.ifCond .ne 5, 3) := by decide +kernel
theorem d_D_hops_9 : decode b_D_hops 9 = .ok (.iconst (-1), 1) := by decide +kernel
theorem d_D_hops_10 : decode b_D_hops 10 = .ok (.ireturn, 1) := by decide +kernel
theorem d_D_hops_11 : decode b_D_hops 11 = .ok (.iload_n 1, 1) := by decide +kernel
theorem d_D_hops_12 : decode b_D_hops 12 = .ok (.istore_n 3, 1) := by decide +kernel
theorem d_D_hops_13 : decode b_D_hops 13 = .ok (.iconst 0, 1) := by decide +kernel
theorem d_D_hops_14 : decode b_D_hops 14 = .ok (.istore 4, 2) := by decide +kernel
theorem d_D_hops_16 : decode b_D_hops 16 = .ok (.iload 4, 2) := by decide +kernel
theorem d_D_hops_18 : decode b_D_hops 18 = .ok (.aload_n 0, 1) := by decide +kernel
theorem d_D_hops_19 : decode b_D_hops 19 = .ok (.getfield 18, 3) := by decide +kernel
theorem d_D_hops_22 : decode b_D_hops 22 = .ok (.if_icmp .ge 34, 3) := by decide +kernel
theorem d_D_hops_25 : decode b_D_hops 25 = .ok (.iload_n 3, 1) := by decide +kernel
theorem d_D_hops_26 : decode b_D_hops 26 = .ok (.iload_n 2, 1) := by decide +kernel
theorem d_D_hops_27 : decode b_D_hops 27 = .ok (.if_icmp .ne 6, 3) := by decide +kernel
theorem d_D_hops_30 : decode b_D_hops 30 = .ok (.iload 4, 2) := by decide +kernel
theorem d_D_hops_32 : decode b_D_hops 32 = .ok (.ireturn, 1) := by decide +kernel
theorem d_D_hops_33 : decode b_D_hops 33 = .ok (.aload_n 0, 1) := by decide +kernel
theorem d_D_hops_34 : decode b_D_hops 34 = .ok (.iload_n 3, 1) := by decide +kernel
theorem d_D_hops_35 : decode b_D_hops 35 = .ok (.iload_n 2, 1) := by decide +kernel
theorem d_D_hops_36 : decode b_D_hops 36 = .ok (.invokevirtual 85, 3) := by decide +kernel
theorem d_D_hops_39 : decode b_D_hops 39 = .ok (.getfield 95, 3) := by decide +kernel
theorem d_D_hops_42 : decode b_D_hops 42 = .ok (.istore_n 3, 1) := by decide +kernel
theorem d_D_hops_43 : decode b_D_hops 43 = .ok (.iload_n 3, 1) := by decide +kernel
theorem d_D_hops_44 : decode b_D_hops 44 = .ok (.iconst (-1), 1) := by decide +kernel
theorem d_D_hops_45 : decode b_D_hops 45 = .ok (.if_icmp .ne 5, 3) := by decide +kernel
theorem d_D_hops_48 : decode b_D_hops 48 = .ok (.iconst (-1), 1) := by decide +kernel
theorem d_D_hops_49 : decode b_D_hops 49 = .ok (.ireturn, 1) := by decide +kernel
theorem d_D_hops_50 : decode b_D_hops 50 = .ok (.iinc 4 1, 3) := by decide +kernel
theorem d_D_hops_53 : decode b_D_hops 53 = .ok (.goto (-37), 3) := by decide +kernel
theorem d_D_hops_56 : decode b_D_hops 56 = .ok (.iconst (-1), 1) := by decide +kernel
theorem d_D_hops_57 : decode b_D_hops 57 = .ok (.ireturn, 1) := by decide +kernel
def F_D_hops_L16_s1 (n : Nat) (c16 : Int32 → Int32 → Int32 → zS → Option (Int32 × zS)) (v2 : Int32) (v4 : Int32) (u0 : Nat) (st : zS) : Option (Int32 × zS) :=
    if (st 7 u0 2) = (-1) then (some ((-1), st)) else (c16 v2 (st 7 u0 2) (v4 + 1) st)

def F_D_hops_L16 (n : Nat) : Nat → Int32 → Int32 → Int32 → zS → Option (Int32 × zS)
  | 0, _, _, _, _ => none
  | f + 1, v2, v3, v4, st =>
    if (nI n) ≤ v4 then (some ((-1), st)) else (if v3 = v2 then (some (v4, st)) else ((F_D_route n v3 v2 st).bind (fun u => F_D_hops_L16_s1 n (F_D_hops_L16 n f) v2 v4 u.1 u.2)))

def F_D_hops_s1 (n : Nat) (v1 : Int32) (v2 : Int32) (t0 : Int32) (st : zS) : Option (Int32 × zS) :=
    if t0 = 0 then (some ((-1), st)) else (F_D_hops_L16 n zFuel v2 v1 0 st)

def F_D_hops (n : Nat) (v1 : Int32) (v2 : Int32) (st : zS) : Option (Int32 × zS) :=
    (F_D_isRoute n v1 v2 st).bind (fun u => F_D_hops_s1 n v1 v2 u.1 u.2)

set_option maxHeartbeats 4000000 in
set_option maxRecDepth 1000000 in
theorem T_D_hops_L16 {dC : Nat → ClassId} {dI : Nat → Nat → Nat} {cI cZ cR cA : ClassId} {n : Nat} {ad : zK → Nat} {A : Nat → Prop} (hn : 2 ≤ n ∧ n ≤ 6) (hD : zD A (zKs n) ad) {p : Program} {l : Launch} {e : Env} {s : State} {m : MethodId} {args : Array Value} {below : List Frame} {meth : Method} {c : Code} (S : CallFix p m c b_D_hops 5 s args zT N_D) (hret : meth.sig.returnType = some .int) (hlk : meth.locks = false) (hK : va_K (dC, dI) zcl (zty cI cZ cR cA) s) (out : Int32 × zS) : ∀ (fu : Nat) (v2 : Int32) (v3 : Int32) (v4 : Int32) (st : zS) (H : Heap) (locs : List Loc) (ls : Array Slot) (hP : zV (dC, dI) zcl (zKs n) ad (zcE n cI cZ cR cA ad) st H) (hS : va_S A s.heap H locs) (hl : lv_has ls 5 [(0, .ref (ad (0, 0))), (2, .int v2), (3, .int v3), (4, .int v4)]) (hF : F_D_hops_L16 n fu v2 v3 v4 st = some out), W p l e rm_D_hops s m args below meth c H locs 0 0 (zQ below A (fun o H => o = some (.int out.1) ∧ zV (dC, dI) zcl (zKs n) ad (zcE n cI cZ cR cA ad) out.2 H) args s) (F0 m 16 ls []) := by
  intro fu
  induction fu with
  | zero => intro v2 v3 v4 st H locs ls hP hS hl hF; rw [F_D_hops_L16] at hF; cases hF
  | succ f ih =>
    intro v2 v3 v4 st H locs ls hP hS hl hF
    rw [F_D_hops_L16] at hF
    refine lv_iload S.1 S.2.1 d_D_hops_16 (lv_at hl 3 rfl) ?_
    refine lv_aload_n S.1 S.2.1 d_D_hops_18 rfl (lv_at hl 0 rfl) ?_
    refine zr_get (v := .int (nI n)) S zi_D hK hP zk_0 rfl rfl 0 (by decide) zx_8 rfl d_D_hops_19 ?_
    refine lv_icmp_ge (tgt := 56) S.1 S.2.1 d_D_hops_22 (by decide) (fun h22 => ?_) (fun h22 => ?_)
    · rw [if_pos h22] at hF
      refine lv_iconst (v := (-1)) S.1 S.2.1 d_D_hops_56 (by decide) ?_
      cases hF
      exact zr_iret S hret hlk hS d_D_hops_57 ⟨rfl, hP⟩
    · rw [if_neg h22] at hF
      refine lv_iload_n S.1 S.2.1 d_D_hops_25 rfl (lv_at hl 2 rfl) ?_
      refine lv_iload_n S.1 S.2.1 d_D_hops_26 rfl (lv_at hl 1 rfl) ?_
      refine lv_icmp_ne (tgt := 33) S.1 S.2.1 d_D_hops_27 (by decide) (fun h27 => ?_) (fun h27 => ?_)
      · rw [if_neg h27] at hF
        refine lv_aload_n S.1 S.2.1 d_D_hops_33 rfl (lv_at hl 0 rfl) ?_
        refine lv_iload_n S.1 S.2.1 d_D_hops_34 rfl (lv_at hl 2 rfl) ?_
        refine lv_iload_n S.1 S.2.1 d_D_hops_35 rfl (lv_at hl 1 rfl) ?_
        cases hc36 : F_D_route n v3 v2 st with
        | none => rw [hc36] at hF; cases hF
        | some u36 =>
          obtain ⟨r36, st36⟩ := u36
          rw [hc36] at hF
          replace hF := zbind hF
          refine zr_callV (rest := []) S zT_good (C_D_route hn hD l v3 v2 st (r36, st36) hc36) zn_D_route zx_88 ⟨rfl, rfl⟩ ⟨Nat.le_of_ble_eq_true rfl, Nat.le_of_ble_eq_true rfl⟩ ⟨Nat.zero_le _, Nat.zero_le _⟩ hK (zr_recv hK hP zk_0 rfl rfl) hP hl.1 (Nat.le_of_ble_eq_true rfl) hS (fun _ h => h) d_D_hops_36 rfl (fun o H locs hpo _ _ hS => ?_)
          obtain ⟨rfl, hP⟩ := hpo
          refine W.eq (g2 := F0 m 39 ls [.ref (ad (7, r36))]) rfl ?_
          have hk_r36 := zk_D_route hn hc36
          replace hF : F_D_hops_L16_s1 n (F_D_hops_L16 n f) v2 v4 r36 st36 = some out := hF
          replace hP : zV (dC, dI) zcl (zKs n) ad (zcE n cI cZ cR cA ad) st36 H := hP
          unfold F_D_hops_L16_s1 at hF
          refine zr_get (v := .int (st36 7 r36 2)) S zi_R hK hP hk_r36 rfl rfl 7 (by decide) zx_16 rfl d_D_hops_39 ?_
          refine lv_istore_n S.1 S.2.1 d_D_hops_42 rfl hl (by decide) rfl (fun ls hl => ?_)
          have hl : lv_has ls 5 [(3, .int (st36 7 r36 2)), (0, .ref (ad (0, 0))), (2, .int v2), (4, .int v4)] := hl
          refine lv_iload_n S.1 S.2.1 d_D_hops_43 rfl (lv_at hl 0 rfl) ?_
          refine lv_iconst (v := (-1)) S.1 S.2.1 d_D_hops_44 (by decide) ?_
          refine lv_icmp_ne (tgt := 50) S.1 S.2.1 d_D_hops_45 (by decide) (fun h45 => ?_) (fun h45 => ?_)
          · rw [if_neg h45] at hF
            refine lv_iinc (k := 3) (v := v4 + 1) S.1 S.2.1 d_D_hops_50 hl rfl rfl (by decide) rfl (fun ls hl => ?_)
            have hl : lv_has ls 5 [(4, .int (v4 + 1)), (3, .int (st36 7 r36 2)), (0, .ref (ad (0, 0))), (2, .int v2)] := hl
            refine lv_goto (tgt := 16) S.1 S.2.1 d_D_hops_53 (by decide) ?_
            exact ih v2 (st36 7 r36 2) (v4 + 1) st36 _ _ _ hP hS (lv_sub hl [2, 3, 1, 0] rfl) hF
          · rw [if_pos h45] at hF
            refine lv_iconst (v := (-1)) S.1 S.2.1 d_D_hops_48 (by decide) ?_
            cases hF
            exact zr_iret S hret hlk hS d_D_hops_49 ⟨rfl, hP⟩
      · rw [if_pos h27] at hF
        refine lv_iload S.1 S.2.1 d_D_hops_30 (lv_at hl 3 rfl) ?_
        cases hF
        exact zr_iret S hret hlk hS d_D_hops_32 ⟨rfl, hP⟩

set_option maxHeartbeats 4000000 in
set_option maxRecDepth 1000000 in
theorem C_D_hops {dC : Nat → ClassId} {dI : Nat → Nat → Nat} {cI cZ cR cA : ClassId} {n : Nat} {ad : zK → Nat} {A : Nat → Prop} (hn : 2 ≤ n ∧ n ≤ 6) (hD : zD A (zKs n) ad) (l : Launch) (v1 : Int32) (v2 : Int32) (st : zS) (out : Int32 × zS) (hF : F_D_hops n v1 v2 st = some out) : zC zT (dC, dI) zcl (zty cI cZ cR cA) A l y_D_hops b_D_hops 5 (some .int) rm_D_hops [.ref (ad (0, 0)), .int v1, .int v2] (fun H => zV (dC, dI) zcl (zKs n) ad (zcE n cI cZ cR cA ad) st H) (fun o H => o = some (.int out.1) ∧ zV (dC, dI) zcl (zKs n) ad (zcE n cI cZ cR cA ad) out.2 H) := by
  refine zC_of (by decide) (Nat.le_of_ble_eq_true rfl) (fun p e s m args below meth c ls S hret hlk hK hP hl => ?_)
  have hS : va_S A s.heap s.heap [] := va_S.rf
  have hl : lv_has ls 5 [(0, .ref (ad (0, 0))), (1, .int v1), (2, .int v2)] := hl
  have hP : zV (dC, dI) zcl (zKs n) ad (zcE n cI cZ cR cA ad) st s.heap := hP
  unfold F_D_hops at hF
  refine lv_aload_n S.1 S.2.1 d_D_hops_0 rfl (lv_at hl 0 rfl) ?_
  refine lv_iload_n S.1 S.2.1 d_D_hops_1 rfl (lv_at hl 1 rfl) ?_
  refine lv_iload_n S.1 S.2.1 d_D_hops_2 rfl (lv_at hl 2 rfl) ?_
  cases hc3 : F_D_isRoute n v1 v2 st with
  | none => rw [hc3] at hF; cases hF
  | some u3 =>
    obtain ⟨r3, st3⟩ := u3
    rw [hc3] at hF
    replace hF := zbind hF
    refine zr_callV (rest := []) S zT_good (C_D_isRoute hn hD l v1 v2 st (r3, st3) hc3) zn_D_isRoute zx_87 ⟨rfl, rfl⟩ ⟨Nat.le_of_ble_eq_true rfl, Nat.le_of_ble_eq_true rfl⟩ ⟨Nat.zero_le _, Nat.zero_le _⟩ hK (zr_recv hK hP zk_0 rfl rfl) hP hl.1 (Nat.le_of_ble_eq_true rfl) hS (fun _ h => h) d_D_hops_3 rfl (fun o H locs hpo _ _ hS => ?_)
    obtain ⟨rfl, hP⟩ := hpo
    refine W.eq (g2 := F0 m 6 ls [.int r3]) rfl ?_
    replace hF : F_D_hops_s1 n v1 v2 r3 st3 = some out := hF
    replace hP : zV (dC, dI) zcl (zKs n) ad (zcE n cI cZ cR cA ad) st3 H := hP
    unfold F_D_hops_s1 at hF
    refine lv_if_ne (tgt := 11) S.1 S.2.1 d_D_hops_6 (by decide) (fun h6 => ?_) (fun h6 => ?_)
    · rw [if_neg h6] at hF
      refine lv_iload_n S.1 S.2.1 d_D_hops_11 rfl (lv_at hl 1 rfl) ?_
      refine lv_istore_n S.1 S.2.1 d_D_hops_12 rfl hl (by decide) rfl (fun ls hl => ?_)
      have hl : lv_has ls 5 [(3, .int v1), (0, .ref (ad (0, 0))), (1, .int v1), (2, .int v2)] := hl
      refine lv_iconst (v := 0) S.1 S.2.1 d_D_hops_13 (by decide) ?_
      refine lv_istore S.1 S.2.1 d_D_hops_14 hl (by decide) rfl (fun ls hl => ?_)
      have hl : lv_has ls 5 [(4, .int 0), (3, .int v1), (0, .ref (ad (0, 0))), (1, .int v1), (2, .int v2)] := hl
      exact T_D_hops_L16 hn hD S hret hlk hK out zFuel v2 v1 0 st3 _ _ _ hP hS (lv_sub hl [2, 4, 1, 0] rfl) hF
    · rw [if_pos h6] at hF
      refine lv_iconst (v := (-1)) S.1 S.2.1 d_D_hops_9 (by decide) ?_
      cases hF
      exact zr_iret S hret hlk hS d_D_hops_10 ⟨rfl, hP⟩

theorem d_D_countBusy_0 : decode b_D_countBusy 0 = .ok (.iconst 0, 1) := by decide +kernel
theorem d_D_countBusy_1 : decode b_D_countBusy 1 = .ok (.istore_n 1, 1) := by decide +kernel
theorem d_D_countBusy_2 : decode b_D_countBusy 2 = .ok (.aload_n 0, 1) := by decide +kernel
theorem d_D_countBusy_3 : decode b_D_countBusy 3 = .ok (.getfield 29, 3) := by decide +kernel
theorem d_D_countBusy_6 : decode b_D_countBusy 6 = .ok (.astore_n 2, 1) := by decide +kernel
theorem d_D_countBusy_7 : decode b_D_countBusy 7 = .ok (.aload_n 2, 1) := by decide +kernel
theorem d_D_countBusy_8 : decode b_D_countBusy 8 = .ok (.arraylength, 1) := by decide +kernel
theorem d_D_countBusy_9 : decode b_D_countBusy 9 = .ok (.istore_n 3, 1) := by decide +kernel
theorem d_D_countBusy_10 : decode b_D_countBusy 10 = .ok (.iconst 0, 1) := by decide +kernel
theorem d_D_countBusy_11 : decode b_D_countBusy 11 = .ok (.istore 4, 2) := by decide +kernel
theorem d_D_countBusy_13 : decode b_D_countBusy 13 = .ok (.iload 4, 2) := by decide +kernel
theorem d_D_countBusy_15 : decode b_D_countBusy 15 = .ok (.iload_n 3, 1) := by decide +kernel
theorem d_D_countBusy_16 : decode b_D_countBusy 16 = .ok (.if_icmp .ge 26, 3) := by decide +kernel
theorem d_D_countBusy_19 : decode b_D_countBusy 19 = .ok (.aload_n 2, 1) := by decide +kernel
theorem d_D_countBusy_20 : decode b_D_countBusy 20 = .ok (.iload 4, 2) := by decide +kernel
theorem d_D_countBusy_22 : decode b_D_countBusy 22 = .ok (.aaload, 1) := by decide +kernel
theorem d_D_countBusy_23 : decode b_D_countBusy 23 = .ok (.astore 5, 2) := by decide +kernel
theorem d_D_countBusy_25 : decode b_D_countBusy 25 = .ok (.aload 5, 2) := by decide +kernel
theorem d_D_countBusy_27 : decode b_D_countBusy 27 = .ok (.getfield 98, 3) := by decide +kernel
theorem d_D_countBusy_30 : decode b_D_countBusy 30 = .ok (.ifCond .eq 6, 3) := by decide +kernel
theorem d_D_countBusy_33 : decode b_D_countBusy 33 = .ok (.iinc 1 1, 3) := by decide +kernel
theorem d_D_countBusy_36 : decode b_D_countBusy 36 = .ok (.iinc 4 1, 3) := by decide +kernel
theorem d_D_countBusy_39 : decode b_D_countBusy 39 = .ok (.goto (-26), 3) := by decide +kernel
theorem d_D_countBusy_42 : decode b_D_countBusy 42 = .ok (.iload_n 1, 1) := by decide +kernel
theorem d_D_countBusy_43 : decode b_D_countBusy 43 = .ok (.ireturn, 1) := by decide +kernel
def F_D_countBusy_L36 (n : Nat) (c13 : Int32 → Int32 → Int32 → zS → Option (Int32 × zS)) (v1 : Int32) (v3 : Int32) (v4 : Int32) (st : zS) : Option (Int32 × zS) :=
    c13 v1 v3 (v4 + 1) st

def F_D_countBusy_L13 (n : Nat) : Nat → Int32 → Int32 → Int32 → zS → Option (Int32 × zS)
  | 0, _, _, _, _ => none
  | f + 1, v1, v3, v4, st =>
    if v3 ≤ v4 then (some (v1, st)) else (if zOut v4 (n * n) then none else if (st 7 (6 * ((Int32.toNatClampNeg v4) / n) + (Int32.toNatClampNeg v4) % n) 3) = 0 then (F_D_countBusy_L36 n (F_D_countBusy_L13 n f) v1 v3 v4 st) else (F_D_countBusy_L36 n (F_D_countBusy_L13 n f) (v1 + 1) v3 v4 st))

def F_D_countBusy (n : Nat) (st : zS) : Option (Int32 × zS) :=
    F_D_countBusy_L13 n zFuel 0 (nI (n * n)) 0 st

set_option maxHeartbeats 4000000 in
set_option maxRecDepth 1000000 in
theorem T_D_countBusy_L36 {dC : Nat → ClassId} {dI : Nat → Nat → Nat} {cI cZ cR cA : ClassId} {n : Nat} {ad : zK → Nat} {A : Nat → Prop} (hn : 2 ≤ n ∧ n ≤ 6) (hD : zD A (zKs n) ad) {p : Program} {l : Launch} {e : Env} {s : State} {m : MethodId} {args : Array Value} {below : List Frame} {meth : Method} {c : Code} (S : CallFix p m c b_D_countBusy 6 s args zT N_D) (hret : meth.sig.returnType = some .int) (hlk : meth.locks = false) (hK : va_K (dC, dI) zcl (zty cI cZ cR cA) s) (out : Int32 × zS) (c13 : Int32 → Int32 → Int32 → zS → Option (Int32 × zS)) (hc13 : ∀ (v1 : Int32) (v3 : Int32) (v4 : Int32) (st : zS) (H : Heap) (locs : List Loc) (ls : Array Slot), zV (dC, dI) zcl (zKs n) ad (zcE n cI cZ cR cA ad) st H → va_S A s.heap H locs → lv_has ls 6 [(1, .int v1), (2, .ref (ad (2, 0))), (3, .int v3), (4, .int v4)] → c13 v1 v3 v4 st = some out → W p l e rm_D_countBusy s m args below meth c H locs 0 0 (zQ below A (fun o H => o = some (.int out.1) ∧ zV (dC, dI) zcl (zKs n) ad (zcE n cI cZ cR cA ad) out.2 H) args s) (F0 m 13 ls [])) (v1 : Int32) (v3 : Int32) (v4 : Int32) (st : zS) (H : Heap) (locs : List Loc) (ls : Array Slot) (hP : zV (dC, dI) zcl (zKs n) ad (zcE n cI cZ cR cA ad) st H) (hS : va_S A s.heap H locs) (hl : lv_has ls 6 [(1, .int v1), (2, .ref (ad (2, 0))), (3, .int v3), (4, .int v4)]) (hF : F_D_countBusy_L36 n c13 v1 v3 v4 st = some out) : W p l e rm_D_countBusy s m args below meth c H locs 0 0 (zQ below A (fun o H => o = some (.int out.1) ∧ zV (dC, dI) zcl (zKs n) ad (zcE n cI cZ cR cA ad) out.2 H) args s) (F0 m 36 ls []) := by
  unfold F_D_countBusy_L36 at hF
  refine lv_iinc (k := 3) (v := v4 + 1) S.1 S.2.1 d_D_countBusy_36 hl rfl rfl (by decide) rfl (fun ls hl => ?_)
  have hl : lv_has ls 6 [(4, .int (v4 + 1)), (1, .int v1), (2, .ref (ad (2, 0))), (3, .int v3)] := hl
  refine lv_goto (tgt := 13) S.1 S.2.1 d_D_countBusy_39 (by decide) ?_
  exact hc13 v1 v3 (v4 + 1) st _ _ _ hP hS (lv_sub hl [1, 2, 3, 0] rfl) hF

set_option maxHeartbeats 4000000 in
set_option maxRecDepth 1000000 in
theorem T_D_countBusy_L13 {dC : Nat → ClassId} {dI : Nat → Nat → Nat} {cI cZ cR cA : ClassId} {n : Nat} {ad : zK → Nat} {A : Nat → Prop} (hn : 2 ≤ n ∧ n ≤ 6) (hD : zD A (zKs n) ad) {p : Program} {l : Launch} {e : Env} {s : State} {m : MethodId} {args : Array Value} {below : List Frame} {meth : Method} {c : Code} (S : CallFix p m c b_D_countBusy 6 s args zT N_D) (hret : meth.sig.returnType = some .int) (hlk : meth.locks = false) (hK : va_K (dC, dI) zcl (zty cI cZ cR cA) s) (out : Int32 × zS) : ∀ (fu : Nat) (v1 : Int32) (v3 : Int32) (v4 : Int32) (st : zS) (H : Heap) (locs : List Loc) (ls : Array Slot) (hP : zV (dC, dI) zcl (zKs n) ad (zcE n cI cZ cR cA ad) st H) (hS : va_S A s.heap H locs) (hl : lv_has ls 6 [(1, .int v1), (2, .ref (ad (2, 0))), (3, .int v3), (4, .int v4)]) (hF : F_D_countBusy_L13 n fu v1 v3 v4 st = some out), W p l e rm_D_countBusy s m args below meth c H locs 0 0 (zQ below A (fun o H => o = some (.int out.1) ∧ zV (dC, dI) zcl (zKs n) ad (zcE n cI cZ cR cA ad) out.2 H) args s) (F0 m 13 ls []) := by
  intro fu
  induction fu with
  | zero => intro v1 v3 v4 st H locs ls hP hS hl hF; rw [F_D_countBusy_L13] at hF; cases hF
  | succ f ih =>
    intro v1 v3 v4 st H locs ls hP hS hl hF
    rw [F_D_countBusy_L13] at hF
    refine lv_iload S.1 S.2.1 d_D_countBusy_13 (lv_at hl 3 rfl) ?_
    refine lv_iload_n S.1 S.2.1 d_D_countBusy_15 rfl (lv_at hl 2 rfl) ?_
    refine lv_icmp_ge (tgt := 42) S.1 S.2.1 d_D_countBusy_16 (by decide) (fun h16 => ?_) (fun h16 => ?_)
    · rw [if_pos h16] at hF
      refine lv_iload_n S.1 S.2.1 d_D_countBusy_42 rfl (lv_at hl 0 rfl) ?_
      cases hF
      exact zr_iret S hret hlk hS d_D_countBusy_43 ⟨rfl, hP⟩
    · rw [if_neg h16] at hF
      refine lv_aload_n S.1 S.2.1 d_D_countBusy_19 rfl (lv_at hl 1 rfl) ?_
      refine lv_iload S.1 S.2.1 d_D_countBusy_20 (lv_at hl 3 rfl) ?_
      by_cases g22 : zOut v4 (n * n)
      · rw [if_pos g22] at hF; cases hF
      rw [if_neg g22] at hF
      refine zr_aald (b := ad (7, 6 * ((Int32.toNatClampNeg v4) / n) + (Int32.toNatClampNeg v4) % n)) S hK hP zk_2 rfl 2 rfl rfl g22 rfl d_D_countBusy_22 ?_
      refine lv_astore S.1 S.2.1 d_D_countBusy_23 hl (by decide) rfl (fun ls hl => ?_)
      have hl : lv_has ls 6 [(5, .ref (ad (7, 6 * ((Int32.toNatClampNeg v4) / n) + (Int32.toNatClampNeg v4) % n))), (1, .int v1), (2, .ref (ad (2, 0))), (3, .int v3), (4, .int v4)] := hl
      refine lv_aload S.1 S.2.1 d_D_countBusy_25 (lv_at hl 0 rfl) ?_
      refine zr_get (v := .int (st 7 (6 * ((Int32.toNatClampNeg v4) / n) + (Int32.toNatClampNeg v4) % n) 3)) S zi_R hK hP (zk_7 hn g22) rfl rfl 8 (by decide) zx_17 rfl d_D_countBusy_27 ?_
      refine lv_if_eq (tgt := 36) S.1 S.2.1 d_D_countBusy_30 (by decide) (fun h30 => ?_) (fun h30 => ?_)
      · rw [if_pos h30] at hF
        exact T_D_countBusy_L36 hn hD S hret hlk hK out (F_D_countBusy_L13 n f) ih v1 v3 v4 st _ _ _ hP hS (lv_sub hl [1, 2, 3, 4] rfl) hF
      · rw [if_neg h30] at hF
        refine lv_iinc (k := 1) (v := v1 + 1) S.1 S.2.1 d_D_countBusy_33 hl rfl rfl (by decide) rfl (fun ls hl => ?_)
        have hl : lv_has ls 6 [(1, .int (v1 + 1)), (5, .ref (ad (7, 6 * ((Int32.toNatClampNeg v4) / n) + (Int32.toNatClampNeg v4) % n))), (2, .ref (ad (2, 0))), (3, .int v3), (4, .int v4)] := hl
        exact T_D_countBusy_L36 hn hD S hret hlk hK out (F_D_countBusy_L13 n f) ih (v1 + 1) v3 v4 st _ _ _ hP hS (lv_sub hl [0, 2, 3, 4] rfl) hF

set_option maxHeartbeats 4000000 in
set_option maxRecDepth 1000000 in
theorem C_D_countBusy {dC : Nat → ClassId} {dI : Nat → Nat → Nat} {cI cZ cR cA : ClassId} {n : Nat} {ad : zK → Nat} {A : Nat → Prop} (hn : 2 ≤ n ∧ n ≤ 6) (hD : zD A (zKs n) ad) (l : Launch) (st : zS) (out : Int32 × zS) (hF : F_D_countBusy n st = some out) : zC zT (dC, dI) zcl (zty cI cZ cR cA) A l y_D_countBusy b_D_countBusy 6 (some .int) rm_D_countBusy [.ref (ad (0, 0))] (fun H => zV (dC, dI) zcl (zKs n) ad (zcE n cI cZ cR cA ad) st H) (fun o H => o = some (.int out.1) ∧ zV (dC, dI) zcl (zKs n) ad (zcE n cI cZ cR cA ad) out.2 H) := by
  refine zC_of (by decide) (Nat.le_of_ble_eq_true rfl) (fun p e s m args below meth c ls S hret hlk hK hP hl => ?_)
  have hS : va_S A s.heap s.heap [] := va_S.rf
  have hl : lv_has ls 6 [(0, .ref (ad (0, 0)))] := hl
  have hP : zV (dC, dI) zcl (zKs n) ad (zcE n cI cZ cR cA ad) st s.heap := hP
  unfold F_D_countBusy at hF
  refine lv_iconst (v := 0) S.1 S.2.1 d_D_countBusy_0 (by decide) ?_
  refine lv_istore_n S.1 S.2.1 d_D_countBusy_1 rfl hl (by decide) rfl (fun ls hl => ?_)
  have hl : lv_has ls 6 [(1, .int 0), (0, .ref (ad (0, 0)))] := hl
  refine lv_aload_n S.1 S.2.1 d_D_countBusy_2 rfl (lv_at hl 1 rfl) ?_
  refine zr_get (v := .ref (ad (2, 0))) S zi_D hK hP zk_0 rfl rfl 2 (by decide) zx_10 rfl d_D_countBusy_3 ?_
  refine lv_astore_n S.1 S.2.1 d_D_countBusy_6 rfl hl (by decide) rfl (fun ls hl => ?_)
  have hl : lv_has ls 6 [(2, .ref (ad (2, 0))), (1, .int 0), (0, .ref (ad (0, 0)))] := hl
  refine lv_aload_n S.1 S.2.1 d_D_countBusy_7 rfl (lv_at hl 0 rfl) ?_
  refine zr_alen (n := n * n) S hK hP zk_2 rfl 2 rfl rfl d_D_countBusy_8 ?_
  refine lv_istore_n S.1 S.2.1 d_D_countBusy_9 rfl hl (by decide) rfl (fun ls hl => ?_)
  have hl : lv_has ls 6 [(3, .int (nI (n * n))), (2, .ref (ad (2, 0))), (1, .int 0), (0, .ref (ad (0, 0)))] := hl
  refine lv_iconst (v := 0) S.1 S.2.1 d_D_countBusy_10 (by decide) ?_
  refine lv_istore S.1 S.2.1 d_D_countBusy_11 hl (by decide) rfl (fun ls hl => ?_)
  have hl : lv_has ls 6 [(4, .int 0), (3, .int (nI (n * n))), (2, .ref (ad (2, 0))), (1, .int 0), (0, .ref (ad (0, 0)))] := hl
  exact T_D_countBusy_L13 hn hD S hret hlk hK out zFuel 0 (nI (n * n)) 0 st _ _ _ hP hS (lv_sub hl [3, 2, 1, 0] rfl) hF

theorem d_D_total_0 : decode b_D_total 0 = .ok (.iload_n 1, 1) := by decide +kernel
theorem d_D_total_1 : decode b_D_total 1 = .ok (.tableswitch 67 0 5 #[39, 39, 39, 49, 57, 62], 39) := by decide +kernel
theorem d_D_total_40 : decode b_D_total 40 = .ok (.aload_n 0, 1) := by decide +kernel
theorem d_D_total_41 : decode b_D_total 41 = .ok (.getfield 39, 3) := by decide +kernel
theorem d_D_total_44 : decode b_D_total 44 = .ok (.getfield 131, 3) := by decide +kernel
theorem d_D_total_47 : decode b_D_total 47 = .ok (.iload_n 1, 1) := by decide +kernel
theorem d_D_total_48 : decode b_D_total 48 = .ok (.iaload, 1) := by decide +kernel
theorem d_D_total_49 : decode b_D_total 49 = .ok (.ireturn, 1) := by decide +kernel
theorem d_D_total_50 : decode b_D_total 50 = .ok (.aload_n 0, 1) := by decide +kernel
theorem d_D_total_51 : decode b_D_total 51 = .ok (.getfield 39, 3) := by decide +kernel
theorem d_D_total_54 : decode b_D_total 54 = .ok (.invokevirtual 47, 3) := by decide +kernel
theorem d_D_total_57 : decode b_D_total 57 = .ok (.ireturn, 1) := by decide +kernel
theorem d_D_total_58 : decode b_D_total 58 = .ok (.aload_n 0, 1) := by decide +kernel
theorem d_D_total_59 : decode b_D_total 59 = .ok (.invokevirtual 134, 3) := by decide +kernel
theorem d_D_total_62 : decode b_D_total 62 = .ok (.ireturn, 1) := by decide +kernel
theorem d_D_total_63 : decode b_D_total 63 = .ok (.aload_n 0, 1) := by decide +kernel
theorem d_D_total_64 : decode b_D_total 64 = .ok (.getfield 51, 3) := by decide +kernel
theorem d_D_total_67 : decode b_D_total 67 = .ok (.ireturn, 1) := by decide +kernel
theorem d_D_total_68 : decode b_D_total 68 = .ok (.iconst (-1), 1) := by decide +kernel
theorem d_D_total_69 : decode b_D_total 69 = .ok (.ireturn, 1) := by decide +kernel
def F_D_total_s1 (n : Nat) (t0 : Int32) (st : zS) : Option (Int32 × zS) :=
    some (t0, st)

def F_D_total_s2 (n : Nat) (t0 : Int32) (st : zS) : Option (Int32 × zS) :=
    some (t0, st)

def F_D_total (n : Nat) (v1 : Int32) (st : zS) : Option (Int32 × zS) :=
    if v1 = 0 then (if zOut v1 3 then none else some (st 5 0 (Int32.toNatClampNeg v1), st)) else if v1 = 1 then (if zOut v1 3 then none else some (st 5 0 (Int32.toNatClampNeg v1), st)) else if v1 = 2 then (if zOut v1 3 then none else some (st 5 0 (Int32.toNatClampNeg v1), st)) else if v1 = 3 then ((F_L_size n st).bind (fun u => F_D_total_s1 n u.1 u.2)) else if v1 = 4 then ((F_D_countBusy n st).bind (fun u => F_D_total_s2 n u.1 u.2)) else if v1 = 5 then (some (st 0 0 0, st)) else (some ((-1), st))

set_option maxHeartbeats 4000000 in
set_option maxRecDepth 1000000 in
theorem C_D_total {dC : Nat → ClassId} {dI : Nat → Nat → Nat} {cI cZ cR cA : ClassId} {n : Nat} {ad : zK → Nat} {A : Nat → Prop} (hn : 2 ≤ n ∧ n ≤ 6) (hD : zD A (zKs n) ad) (l : Launch) (v1 : Int32) (st : zS) (out : Int32 × zS) (hF : F_D_total n v1 st = some out) : zC zT (dC, dI) zcl (zty cI cZ cR cA) A l y_D_total b_D_total 2 (some .int) rm_D_total [.ref (ad (0, 0)), .int v1] (fun H => zV (dC, dI) zcl (zKs n) ad (zcE n cI cZ cR cA ad) st H) (fun o H => o = some (.int out.1) ∧ zV (dC, dI) zcl (zKs n) ad (zcE n cI cZ cR cA ad) out.2 H) := by
  refine zC_of (by decide) (Nat.le_of_ble_eq_true rfl) (fun p e s m args below meth c ls S hret hlk hK hP hl => ?_)
  have hS : va_S A s.heap s.heap [] := va_S.rf
  have hl : lv_has ls 2 [(0, .ref (ad (0, 0))), (1, .int v1)] := hl
  have hP : zV (dC, dI) zcl (zKs n) ad (zcE n cI cZ cR cA ad) st s.heap := hP
  unfold F_D_total at hF
  refine lv_iload_n S.1 S.2.1 d_D_total_0 rfl (lv_at hl 1 rfl) ?_
  by_cases h1_0 : v1 = 0
  · rw [if_pos h1_0] at hF
    refine lv_tableIn (tgt := 40) (off := 39) S.1 S.2.1 d_D_total_1 (by rw [h1_0]; decide) (by rw [h1_0]; decide) (by rw [h1_0]; rfl) (by decide) ?_
    refine lv_aload_n S.1 S.2.1 d_D_total_40 rfl (lv_at hl 0 rfl) ?_
    refine zr_get (v := .ref (ad (3, 0))) S zi_D hK hP zk_0 rfl rfl 3 (by decide) zx_11 rfl d_D_total_41 ?_
    refine zr_get (v := .ref (ad (5, 0))) S zi_L hK hP zk_3 rfl rfl 1 (by decide) zx_7 rfl d_D_total_44 ?_
    refine lv_iload_n S.1 S.2.1 d_D_total_47 rfl (lv_at hl 1 rfl) ?_
    by_cases g48 : zOut v1 3
    · rw [if_pos g48] at hF; cases hF
    rw [if_neg g48] at hF
    refine zr_iald S hK hP zk_5 rfl 0 rfl g48 d_D_total_48 ?_
    cases hF
    exact zr_iret S hret hlk hS d_D_total_49 ⟨rfl, hP⟩
  rw [if_neg h1_0] at hF
  by_cases h1_1 : v1 = 1
  · rw [if_pos h1_1] at hF
    refine lv_tableIn (tgt := 40) (off := 39) S.1 S.2.1 d_D_total_1 (by rw [h1_1]; decide) (by rw [h1_1]; decide) (by rw [h1_1]; rfl) (by decide) ?_
    refine lv_aload_n S.1 S.2.1 d_D_total_40 rfl (lv_at hl 0 rfl) ?_
    refine zr_get (v := .ref (ad (3, 0))) S zi_D hK hP zk_0 rfl rfl 3 (by decide) zx_11 rfl d_D_total_41 ?_
    refine zr_get (v := .ref (ad (5, 0))) S zi_L hK hP zk_3 rfl rfl 1 (by decide) zx_7 rfl d_D_total_44 ?_
    refine lv_iload_n S.1 S.2.1 d_D_total_47 rfl (lv_at hl 1 rfl) ?_
    by_cases g48 : zOut v1 3
    · rw [if_pos g48] at hF; cases hF
    rw [if_neg g48] at hF
    refine zr_iald S hK hP zk_5 rfl 0 rfl g48 d_D_total_48 ?_
    cases hF
    exact zr_iret S hret hlk hS d_D_total_49 ⟨rfl, hP⟩
  rw [if_neg h1_1] at hF
  by_cases h1_2 : v1 = 2
  · rw [if_pos h1_2] at hF
    refine lv_tableIn (tgt := 40) (off := 39) S.1 S.2.1 d_D_total_1 (by rw [h1_2]; decide) (by rw [h1_2]; decide) (by rw [h1_2]; rfl) (by decide) ?_
    refine lv_aload_n S.1 S.2.1 d_D_total_40 rfl (lv_at hl 0 rfl) ?_
    refine zr_get (v := .ref (ad (3, 0))) S zi_D hK hP zk_0 rfl rfl 3 (by decide) zx_11 rfl d_D_total_41 ?_
    refine zr_get (v := .ref (ad (5, 0))) S zi_L hK hP zk_3 rfl rfl 1 (by decide) zx_7 rfl d_D_total_44 ?_
    refine lv_iload_n S.1 S.2.1 d_D_total_47 rfl (lv_at hl 1 rfl) ?_
    by_cases g48 : zOut v1 3
    · rw [if_pos g48] at hF; cases hF
    rw [if_neg g48] at hF
    refine zr_iald S hK hP zk_5 rfl 0 rfl g48 d_D_total_48 ?_
    cases hF
    exact zr_iret S hret hlk hS d_D_total_49 ⟨rfl, hP⟩
  rw [if_neg h1_2] at hF
  by_cases h1_3 : v1 = 3
  · rw [if_pos h1_3] at hF
    refine lv_tableIn (tgt := 50) (off := 49) S.1 S.2.1 d_D_total_1 (by rw [h1_3]; decide) (by rw [h1_3]; decide) (by rw [h1_3]; rfl) (by decide) ?_
    refine lv_aload_n S.1 S.2.1 d_D_total_50 rfl (lv_at hl 0 rfl) ?_
    refine zr_get (v := .ref (ad (3, 0))) S zi_D hK hP zk_0 rfl rfl 3 (by decide) zx_11 rfl d_D_total_51 ?_
    cases hc54 : F_L_size n st with
    | none => rw [hc54] at hF; cases hF
    | some u54 =>
      obtain ⟨r54, st54⟩ := u54
      rw [hc54] at hF
      replace hF := zbind hF
      refine zr_callV (rest := []) S zT_good (C_L_size hn hD l st (r54, st54) hc54) zn_L_size zx_79 ⟨rfl, rfl⟩ ⟨Nat.le_of_ble_eq_true rfl, Nat.le_of_ble_eq_true rfl⟩ ⟨Nat.zero_le _, Nat.zero_le _⟩ hK (zr_recv hK hP zk_3 rfl rfl) hP hl.1 (Nat.le_of_ble_eq_true rfl) hS (fun _ h => h) d_D_total_54 rfl (fun o H locs hpo _ _ hS => ?_)
      obtain ⟨rfl, hP⟩ := hpo
      refine W.eq (g2 := F0 m 57 ls [.int r54]) rfl ?_
      replace hF : F_D_total_s1 n r54 st54 = some out := hF
      replace hP : zV (dC, dI) zcl (zKs n) ad (zcE n cI cZ cR cA ad) st54 H := hP
      unfold F_D_total_s1 at hF
      cases hF
      exact zr_iret S hret hlk hS d_D_total_57 ⟨rfl, hP⟩
  rw [if_neg h1_3] at hF
  by_cases h1_4 : v1 = 4
  · rw [if_pos h1_4] at hF
    refine lv_tableIn (tgt := 58) (off := 57) S.1 S.2.1 d_D_total_1 (by rw [h1_4]; decide) (by rw [h1_4]; decide) (by rw [h1_4]; rfl) (by decide) ?_
    refine lv_aload_n S.1 S.2.1 d_D_total_58 rfl (lv_at hl 0 rfl) ?_
    cases hc59 : F_D_countBusy n st with
    | none => rw [hc59] at hF; cases hF
    | some u59 =>
      obtain ⟨r59, st59⟩ := u59
      rw [hc59] at hF
      replace hF := zbind hF
      refine zr_callV (rest := []) S zT_good (C_D_countBusy hn hD l st (r59, st59) hc59) zn_D_countBusy zx_59 ⟨rfl, rfl⟩ ⟨Nat.le_of_ble_eq_true rfl, Nat.le_of_ble_eq_true rfl⟩ ⟨Nat.zero_le _, Nat.zero_le _⟩ hK (zr_recv hK hP zk_0 rfl rfl) hP hl.1 (Nat.le_of_ble_eq_true rfl) hS (fun _ h => h) d_D_total_59 rfl (fun o H locs hpo _ _ hS => ?_)
      obtain ⟨rfl, hP⟩ := hpo
      refine W.eq (g2 := F0 m 62 ls [.int r59]) rfl ?_
      replace hF : F_D_total_s2 n r59 st59 = some out := hF
      replace hP : zV (dC, dI) zcl (zKs n) ad (zcE n cI cZ cR cA ad) st59 H := hP
      unfold F_D_total_s2 at hF
      cases hF
      exact zr_iret S hret hlk hS d_D_total_62 ⟨rfl, hP⟩
  rw [if_neg h1_4] at hF
  by_cases h1_5 : v1 = 5
  · rw [if_pos h1_5] at hF
    refine lv_tableIn (tgt := 63) (off := 62) S.1 S.2.1 d_D_total_1 (by rw [h1_5]; decide) (by rw [h1_5]; decide) (by rw [h1_5]; rfl) (by decide) ?_
    refine lv_aload_n S.1 S.2.1 d_D_total_63 rfl (lv_at hl 0 rfl) ?_
    refine zr_get (v := .int (st 0 0 0)) S zi_D hK hP zk_0 rfl rfl 4 (by decide) zx_12 rfl d_D_total_64 ?_
    cases hF
    exact zr_iret S hret hlk hS d_D_total_67 ⟨rfl, hP⟩
  rw [if_neg h1_5] at hF
  refine lv_tableOut (tgt := 68) S.1 S.2.1 d_D_total_1 (zsw_5 h1_0 h1_1 h1_2 h1_3 h1_4 h1_5) (by decide) ?_
  refine lv_iconst (v := (-1)) S.1 S.2.1 d_D_total_68 (by decide) ?_
  cases hF
  exact zr_iret S hret hlk hS d_D_total_69 ⟨rfl, hP⟩

