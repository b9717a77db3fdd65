theorem d_R_least_0 : decode b_R_least 0 = .ok (.sipush 10000, 3) := by decide +kernel
theorem d_R_least_3 : decode b_R_least 3 = .ok (.istore_n 1, 1) := by decide +kernel
theorem d_R_least_4 : decode b_R_least 4 = .ok (.iconst 0, 1) := by decide +kernel
theorem d_R_least_5 : decode b_R_least 5 = .ok (.istore_n 2, 1) := by decide +kernel
theorem d_R_least_6 : decode b_R_least 6 = .ok (.iload_n 2, 1) := by decide +kernel
theorem d_R_least_7 : decode b_R_least 7 = .ok (.aload_n 0, 1) := by decide +kernel
theorem d_R_least_8 : decode b_R_least 8 = .ok (.getfield 18, 3) := by decide +kernel
theorem d_R_least_11 : decode b_R_least 11 = .ok (.arraylength, 1) := by decide +kernel
theorem d_R_least_12 : decode b_R_least 12 = .ok (.if_icmp .ge 19, 3) := by decide +kernel
theorem d_R_least_15 : decode b_R_least 15 = .ok (.iload_n 1, 1) := by decide +kernel
theorem d_R_least_16 : decode b_R_least 16 = .ok (.aload_n 0, 1) := by decide +kernel
theorem d_R_least_17 : decode b_R_least 17 = .ok (.iload_n 2, 1) := by decide +kernel
theorem d_R_least_18 : decode b_R_least 18 = .ok (.invokevirtual 58, 3) := by decide +kernel
theorem d_R_least_21 : decode b_R_least 21 = .ok (.invokestatic 44, 3) := by decide +kernel
theorem d_R_least_24 : decode b_R_least 24 = .ok (.istore_n 1, 1) := by decide +kernel
theorem d_R_least_25 : decode b_R_least 25 = .ok (.iinc 2 1, 3) := by decide +kernel
theorem d_R_least_28 : decode b_R_least 28 = .ok (.goto (-22), 3) := by decide +kernel
theorem d_R_least_31 : decode b_R_least 31 = .ok (.iload_n 1, 1) := by decide +kernel
theorem d_R_least_32 : decode b_R_least 32 = .ok (.ireturn, 1) := by decide +kernel
def F_R_least_L6_s1 (n : Nat) (c6 : Nat → Int32 → Int32 → zS → Option (Int32 × zS)) (k0 : Nat) (v2 : Int32) (t0 : Int32) (t1 : Int32) (st : zS) : Option (Int32 × zS) :=
    c6 k0 (if t1 < t0 then t1 else t0) (v2 + 1) st

def F_R_least_L6 (n : Nat) : Nat → Nat → Int32 → Int32 → zS → Option (Int32 × zS)
  | 0, _, _, _, _ => none
  | f + 1, k0, v1, v2, st =>
    if (nI n) ≤ v2 then (some (v1, st)) else ((F_R_through n k0 v2 st).bind (fun u => F_R_least_L6_s1 n (F_R_least_L6 n f) k0 v2 v1 u.1 u.2))

def F_R_least (n : Nat) (k0 : Nat) (st : zS) : Option (Int32 × zS) :=
    F_R_least_L6 n zFuel k0 10000 0 st

set_option maxHeartbeats 4000000 in
set_option maxRecDepth 1000000 in
theorem T_R_least_L6 {dC : Nat → ClassId} {dI : Nat → Nat → Nat} {cI cZ cR cA : ClassId} {n : Nat} {ad : zK → Nat} {A : Nat → Prop} (hn : 2 ≤ n ∧ n ≤ 6) (hD : zD A (zKs n) ad) {p : Program} {l : Launch} {e : Env} {s : State} {m : MethodId} {args : Array Value} {below : List Frame} {meth : Method} {c : Code} (S : CallFix p m c b_R_least 3 s args zT N_R) (hret : meth.sig.returnType = some .int) (hlk : meth.locks = false) (hK : va_K (dC, dI) zcl (zty cI cZ cR cA) s) (out : Int32 × zS) : ∀ (fu : Nat) (k0 : Nat) (v1 : Int32) (v2 : Int32) (hk0 : (7, k0) ∈ zKs n) (st : zS) (H : Heap) (locs : List Loc) (ls : Array Slot) (hP : zV (dC, dI) zcl (zKs n) ad (zcE n cI cZ cR cA ad) st H) (hS : va_S A s.heap H locs) (hl : lv_has ls 3 [(0, .ref (ad (7, k0))), (1, .int v1), (2, .int v2)]) (hF : F_R_least_L6 n fu k0 v1 v2 st = some out), W p l e rm_R_least s m args below meth c H locs 0 0 (zQ below A (fun o H => o = some (.int out.1) ∧ zV (dC, dI) zcl (zKs n) ad (zcE n cI cZ cR cA ad) out.2 H) args s) (F0 m 6 ls []) := by
  intro fu
  induction fu with
  | zero => intro k0 v1 v2 hk0 st H locs ls hP hS hl hF; rw [F_R_least_L6] at hF; cases hF
  | succ f ih =>
    intro k0 v1 v2 hk0 st H locs ls hP hS hl hF
    rw [F_R_least_L6] at hF
    refine lv_iload_n S.1 S.2.1 d_R_least_6 rfl (lv_at hl 2 rfl) ?_
    refine lv_aload_n S.1 S.2.1 d_R_least_7 rfl (lv_at hl 0 rfl) ?_
    refine zr_get (v := .ref (ad (6, k0 / 6))) S zi_R hK hP hk0 rfl rfl 2 (by decide) zx_43 rfl d_R_least_8 ?_
    refine zr_alen (n := n) S hK hP (zk_67 hk0) rfl 0 rfl rfl d_R_least_11 ?_
    refine lv_icmp_ge (tgt := 31) S.1 S.2.1 d_R_least_12 (by decide) (fun h12 => ?_) (fun h12 => ?_)
    · rw [if_pos h12] at hF
      refine lv_iload_n S.1 S.2.1 d_R_least_31 rfl (lv_at hl 1 rfl) ?_
      cases hF
      exact zr_iret S hret hlk hS d_R_least_32 ⟨rfl, hP⟩
    · rw [if_neg h12] at hF
      refine lv_iload_n S.1 S.2.1 d_R_least_15 rfl (lv_at hl 1 rfl) ?_
      refine lv_aload_n S.1 S.2.1 d_R_least_16 rfl (lv_at hl 0 rfl) ?_
      refine lv_iload_n S.1 S.2.1 d_R_least_17 rfl (lv_at hl 2 rfl) ?_
      cases hc18 : F_R_through n k0 v2 st with
      | none => rw [hc18] at hF; cases hF
      | some u18 =>
        obtain ⟨r18, st18⟩ := u18
        rw [hc18] at hF
        replace hF := zbind hF
        refine zr_callV (rest := [.int v1]) S zT_good (C_R_through hn hD l k0 v2 hk0 st (r18, st18) hc18) zn_R_through zx_119 ⟨rfl, rfl⟩ ⟨Nat.le_of_ble_eq_true rfl, Nat.le_of_ble_eq_true rfl⟩ ⟨Nat.zero_le _, Nat.zero_le _⟩ hK (zr_recv hK hP hk0 rfl rfl) hP hl.1 (Nat.le_of_ble_eq_true rfl) hS (fun _ h => h) d_R_least_18 rfl (fun o H locs hpo _ _ hS => ?_)
        obtain ⟨rfl, hP⟩ := hpo
        refine W.eq (g2 := F0 m 21 ls [.int r18, .int v1]) rfl ?_
        replace hF : F_R_least_L6_s1 n (F_R_least_L6 n f) k0 v2 v1 r18 st18 = some out := hF
        replace hP : zV (dC, dI) zcl (zKs n) ad (zcE n cI cZ cR cA ad) st18 H := hP
        unfold F_R_least_L6_s1 at hF
        refine va_mmin S.1 S.2.1 (S.2.2.1.trans hl.1.symm) S.2.2.2.1 (S.2.2.2.2 _ zx_116) (S.2.2.2.2 _ zx_122) (S.2.2.2.2 _ zx_53) (S.2.2.2.2 _ zx_1) (Nat.le_of_ble_eq_true rfl) (Nat.le_of_ble_eq_true rfl) (Nat.zero_le _) (Nat.zero_le _) d_R_least_21 ?_
        refine lv_istore_n S.1 S.2.1 d_R_least_24 rfl hl (by decide) rfl (fun ls hl => ?_)
        have hl : lv_has ls 3 [(1, .int (if r18 < v1 then r18 else v1)), (0, .ref (ad (7, k0))), (2, .int v2)] := hl
        refine lv_iinc (k := 2) (v := v2 + 1) S.1 S.2.1 d_R_least_25 hl rfl rfl (by decide) rfl (fun ls hl => ?_)
        have hl : lv_has ls 3 [(2, .int (v2 + 1)), (1, .int (if r18 < v1 then r18 else v1)), (0, .ref (ad (7, k0)))] := hl
        refine lv_goto (tgt := 6) S.1 S.2.1 d_R_least_28 (by decide) ?_
        exact ih k0 (if r18 < v1 then r18 else v1) (v2 + 1) hk0 st18 _ _ _ hP hS (lv_sub hl [2, 1, 0] rfl) hF

set_option maxHeartbeats 4000000 in
set_option maxRecDepth 1000000 in
theorem C_R_least {dC : Nat → ClassId} {dI : Nat → Nat → Nat} {cI cZ cR cA : ClassId} {n : Nat} {ad : zK → Nat} {A : Nat → Prop} (hn : 2 ≤ n ∧ n ≤ 6) (hD : zD A (zKs n) ad) (l : Launch) (k0 : Nat) (hk0 : (7, k0) ∈ zKs n) (st : zS) (out : Int32 × zS) (hF : F_R_least n k0 st = some out) : zC zT (dC, dI) zcl (zty cI cZ cR cA) A l y_R_least b_R_least 3 (some .int) rm_R_least [.ref (ad (7, k0))] (fun H => zV (dC, dI) zcl (zKs n) ad (zcE n cI cZ cR cA ad) st H) (fun o H => o = some (.int out.1) ∧ zV (dC, dI) zcl (zKs n) ad (zcE n cI cZ cR cA ad) out.2 H) := by
  refine zC_of (by decide) (Nat.le_of_ble_eq_true rfl) (fun p e s m args below meth c ls S hret hlk hK hP hl => ?_)
  have hS : va_S A s.heap s.heap [] := va_S.rf
  have hl : lv_has ls 3 [(0, .ref (ad (7, k0)))] := hl
  have hP : zV (dC, dI) zcl (zKs n) ad (zcE n cI cZ cR cA ad) st s.heap := hP
  unfold F_R_least at hF
  refine lv_sipush (v := 10000) S.1 S.2.1 d_R_least_0 (by decide) ?_
  refine lv_istore_n S.1 S.2.1 d_R_least_3 rfl hl (by decide) rfl (fun ls hl => ?_)
  have hl : lv_has ls 3 [(1, .int 10000), (0, .ref (ad (7, k0)))] := hl
  refine lv_iconst (v := 0) S.1 S.2.1 d_R_least_4 (by decide) ?_
  refine lv_istore_n S.1 S.2.1 d_R_least_5 rfl hl (by decide) rfl (fun ls hl => ?_)
  have hl : lv_has ls 3 [(2, .int 0), (1, .int 10000), (0, .ref (ad (7, k0)))] := hl
  exact T_R_least_L6 hn hD S hret hlk hK out zFuel k0 10000 0 hk0 st _ _ _ hP hS (lv_sub hl [2, 1, 0] rfl) hF

theorem d_R_best_0 : decode b_R_best 0 = .ok (.iconst (-1), 1) := by decide +kernel
theorem d_R_best_1 : decode b_R_best 1 = .ok (.istore_n 2, 1) := by decide +kernel
theorem d_R_best_2 : decode b_R_best 2 = .ok (.iconst 0, 1) := by decide +kernel
theorem d_R_best_3 : decode b_R_best 3 = .ok (.istore_n 3, 1) := by decide +kernel
theorem d_R_best_4 : decode b_R_best 4 = .ok (.iload_n 3, 1) := by decide +kernel
theorem d_R_best_5 : decode b_R_best 5 = .ok (.aload_n 0, 1) := by decide +kernel
theorem d_R_best_6 : decode b_R_best 6 = .ok (.getfield 18, 3) := by decide +kernel
theorem d_R_best_9 : decode b_R_best 9 = .ok (.arraylength, 1) := by decide +kernel
theorem d_R_best_10 : decode b_R_best 10 = .ok (.if_icmp .ge 58, 3) := by decide +kernel
theorem d_R_best_13 : decode b_R_best 13 = .ok (.aload_n 0, 1) := by decide +kernel
theorem d_R_best_14 : decode b_R_best 14 = .ok (.getfield 22, 3) := by decide +kernel
theorem d_R_best_17 : decode b_R_best 17 = .ok (.iload_n 3, 1) := by decide +kernel
theorem d_R_best_18 : decode b_R_best 18 = .ok (.iaload, 1) := by decide +kernel
theorem d_R_best_19 : decode b_R_best 19 = .ok (.aload_n 0, 1) := by decide +kernel
theorem d_R_best_20 : decode b_R_best 20 = .ok (.getfield 38, 3) := by decide +kernel
theorem d_R_best_23 : decode b_R_best 23 = .ok (.if_icmp .ge 16, 3) := by decide +kernel
theorem d_R_best_26 : decode b_R_best 26 = .ok (.aload_n 0, 1) := by decide +kernel
theorem d_R_best_27 : decode b_R_best 27 = .ok (.iload_n 3, 1) := by decide +kernel
theorem d_R_best_28 : decode b_R_best 28 = .ok (.invokevirtual 58, 3) := by decide +kernel
theorem d_R_best_31 : decode b_R_best 31 = .ok (.iload_n 1, 1) := by decide +kernel
theorem d_R_best_32 : decode b_R_best 32 = .ok (.if_icmp .ne 7, 3) := by decide +kernel
theorem d_R_best_35 : decode b_R_best 35 = .ok (.iconst 1, 1) := by decide +kernel
theorem d_R_best_36 : decode b_R_best 36 = .ok (.goto 4, 3) := by decide +kernel
theorem d_R_best_39 : decode b_R_best 39 = .ok (.iconst 0, 1) := by decide +kernel
theorem d_R_best_40 : decode b_R_best 40 = .ok (.istore 4, 2) := by decide +kernel
theorem d_R_best_42 : decode b_R_best 42 = .ok (.iload 4, 2) := by decide +kernel
theorem d_R_best_44 : decode b_R_best 44 = .ok (.ifCond .eq 18, 3) := by decide +kernel
theorem d_R_best_47 : decode b_R_best 47 = .ok (.iload_n 2, 1) := by decide +kernel
theorem d_R_best_48 : decode b_R_best 48 = .ok (.iconst (-1), 1) := by decide +kernel
theorem d_R_best_49 : decode b_R_best 49 = .ok (.if_icmp .eq 11, 3) := by decide +kernel
theorem d_R_best_52 : decode b_R_best 52 = .ok (.iload_n 3, 1) := by decide +kernel
theorem d_R_best_53 : decode b_R_best 53 = .ok (.aload_n 0, 1) := by decide +kernel
theorem d_R_best_54 : decode b_R_best 54 = .ok (.getfield 41, 3) := by decide +kernel
theorem d_R_best_57 : decode b_R_best 57 = .ok (.if_icmp .ne 5, 3) := by decide +kernel
theorem d_R_best_60 : decode b_R_best 60 = .ok (.iload_n 3, 1) := by decide +kernel
theorem d_R_best_61 : decode b_R_best 61 = .ok (.istore_n 2, 1) := by decide +kernel
theorem d_R_best_62 : decode b_R_best 62 = .ok (.iinc 3 1, 3) := by decide +kernel
theorem d_R_best_65 : decode b_R_best 65 = .ok (.goto (-61), 3) := by decide +kernel
theorem d_R_best_68 : decode b_R_best 68 = .ok (.iload_n 2, 1) := by decide +kernel
theorem d_R_best_69 : decode b_R_best 69 = .ok (.ireturn, 1) := by decide +kernel
def F_R_best_L62 (n : Nat) (c4 : Nat → Int32 → Int32 → Int32 → zS → Option (Int32 × zS)) (k0 : Nat) (v1 : Int32) (v2 : Int32) (v3 : Int32) (st : zS) : Option (Int32 × zS) :=
    c4 k0 v1 v2 (v3 + 1) st

def F_R_best_L60 (n : Nat) (c4 : Nat → Int32 → Int32 → Int32 → zS → Option (Int32 × zS)) (k0 : Nat) (v1 : Int32) (v3 : Int32) (st : zS) : Option (Int32 × zS) :=
    F_R_best_L62 n c4 k0 v1 v3 v3 st

def F_R_best_L40 (n : Nat) (c4 : Nat → Int32 → Int32 → Int32 → zS → Option (Int32 × zS)) (k0 : Nat) (v1 : Int32) (v2 : Int32) (v3 : Int32) (t0 : Int32) (st : zS) : Option (Int32 × zS) :=
    if t0 = 0 then (F_R_best_L62 n c4 k0 v1 v2 v3 st) else (if v2 = (-1) then (F_R_best_L60 n c4 k0 v1 v3 st) else (if v3 = (st 7 k0 2) then (F_R_best_L60 n c4 k0 v1 v3 st) else (F_R_best_L62 n c4 k0 v1 v2 v3 st)))

def F_R_best_L39 (n : Nat) (c4 : Nat → Int32 → Int32 → Int32 → zS → Option (Int32 × zS)) (k0 : Nat) (v1 : Int32) (v2 : Int32) (v3 : Int32) (st : zS) : Option (Int32 × zS) :=
    F_R_best_L40 n c4 k0 v1 v2 v3 0 st

def F_R_best_L4_s1 (n : Nat) (c4 : Nat → Int32 → Int32 → Int32 → zS → Option (Int32 × zS)) (k0 : Nat) (v1 : Int32) (v2 : Int32) (v3 : Int32) (t0 : Int32) (st : zS) : Option (Int32 × zS) :=
    if t0 = v1 then (F_R_best_L40 n c4 k0 v1 v2 v3 1 st) else (F_R_best_L39 n c4 k0 v1 v2 v3 st)

def F_R_best_L4 (n : Nat) : Nat → Nat → Int32 → Int32 → Int32 → zS → Option (Int32 × zS)
  | 0, _, _, _, _, _ => none
  | f + 1, k0, v1, v2, v3, st =>
    if (nI n) ≤ v3 then (some (v2, st)) else (if zOut v3 n then none else if (st 7 k0 1) ≤ (st 8 k0 (Int32.toNatClampNeg v3)) then (F_R_best_L39 n (F_R_best_L4 n f) k0 v1 v2 v3 st) else ((F_R_through n k0 v3 st).bind (fun u => F_R_best_L4_s1 n (F_R_best_L4 n f) k0 v1 v2 v3 u.1 u.2)))

def F_R_best (n : Nat) (k0 : Nat) (v1 : Int32) (st : zS) : Option (Int32 × zS) :=
    F_R_best_L4 n zFuel k0 v1 (-1) 0 st

set_option maxHeartbeats 4000000 in
set_option maxRecDepth 1000000 in
theorem T_R_best_L62 {dC : Nat → ClassId} {dI : Nat → Nat → Nat} {cI cZ cR cA : ClassId} {n : Nat} {ad : zK → Nat} {A : Nat → Prop} (hn : 2 ≤ n ∧ n ≤ 6) (hD : zD A (zKs n) ad) {p : Program} {l : Launch} {e : Env} {s : State} {m : MethodId} {args : Array Value} {below : List Frame} {meth : Method} {c : Code} (S : CallFix p m c b_R_best 5 s args zT N_R) (hret : meth.sig.returnType = some .int) (hlk : meth.locks = false) (hK : va_K (dC, dI) zcl (zty cI cZ cR cA) s) (out : Int32 × zS) (c4 : Nat → Int32 → Int32 → Int32 → zS → Option (Int32 × zS)) (hc4 : ∀ (k0 : Nat) (v1 : Int32) (v2 : Int32) (v3 : Int32) (hk0 : (7, k0) ∈ zKs n) (st : zS) (H : Heap) (locs : List Loc) (ls : Array Slot), zV (dC, dI) zcl (zKs n) ad (zcE n cI cZ cR cA ad) st H → va_S A s.heap H locs → lv_has ls 5 [(0, .ref (ad (7, k0))), (1, .int v1), (2, .int v2), (3, .int v3)] → c4 k0 v1 v2 v3 st = some out → W p l e rm_R_best s m args below meth c H locs 0 0 (zQ below A (fun o H => o = some (.int out.1) ∧ zV (dC, dI) zcl (zKs n) ad (zcE n cI cZ cR cA ad) out.2 H) args s) (F0 m 4 ls [])) (k0 : Nat) (v1 : Int32) (v2 : Int32) (v3 : Int32) (hk0 : (7, k0) ∈ zKs n) (st : zS) (H : Heap) (locs : List Loc) (ls : Array Slot) (hP : zV (dC, dI) zcl (zKs n) ad (zcE n cI cZ cR cA ad) st H) (hS : va_S A s.heap H locs) (hl : lv_has ls 5 [(0, .ref (ad (7, k0))), (1, .int v1), (2, .int v2), (3, .int v3)]) (hF : F_R_best_L62 n c4 k0 v1 v2 v3 st = some out) : W p l e rm_R_best s m args below meth c H locs 0 0 (zQ below A (fun o H => o = some (.int out.1) ∧ zV (dC, dI) zcl (zKs n) ad (zcE n cI cZ cR cA ad) out.2 H) args s) (F0 m 62 ls []) := by
  unfold F_R_best_L62 at hF
  refine lv_iinc (k := 3) (v := v3 + 1) S.1 S.2.1 d_R_best_62 hl rfl rfl (by decide) rfl (fun ls hl => ?_)
  have hl : lv_has ls 5 [(3, .int (v3 + 1)), (0, .ref (ad (7, k0))), (1, .int v1), (2, .int v2)] := hl
  refine lv_goto (tgt := 4) S.1 S.2.1 d_R_best_65 (by decide) ?_
  exact hc4 k0 v1 v2 (v3 + 1) hk0 st _ _ _ hP hS (lv_sub hl [1, 2, 3, 0] rfl) hF

set_option maxHeartbeats 4000000 in
set_option maxRecDepth 1000000 in
theorem T_R_best_L60 {dC : Nat → ClassId} {dI : Nat → Nat → Nat} {cI cZ cR cA : ClassId} {n : Nat} {ad : zK → Nat} {A : Nat → Prop} (hn : 2 ≤ n ∧ n ≤ 6) (hD : zD A (zKs n) ad) {p : Program} {l : Launch} {e : Env} {s : State} {m : MethodId} {args : Array Value} {below : List Frame} {meth : Method} {c : Code} (S : CallFix p m c b_R_best 5 s args zT N_R) (hret : meth.sig.returnType = some .int) (hlk : meth.locks = false) (hK : va_K (dC, dI) zcl (zty cI cZ cR cA) s) (out : Int32 × zS) (c4 : Nat → Int32 → Int32 → Int32 → zS → Option (Int32 × zS)) (hc4 : ∀ (k0 : Nat) (v1 : Int32) (v2 : Int32) (v3 : Int32) (hk0 : (7, k0) ∈ zKs n) (st : zS) (H : Heap) (locs : List Loc) (ls : Array Slot), zV (dC, dI) zcl (zKs n) ad (zcE n cI cZ cR cA ad) st H → va_S A s.heap H locs → lv_has ls 5 [(0, .ref (ad (7, k0))), (1, .int v1), (2, .int v2), (3, .int v3)] → c4 k0 v1 v2 v3 st = some out → W p l e rm_R_best s m args below meth c H locs 0 0 (zQ below A (fun o H => o = some (.int out.1) ∧ zV (dC, dI) zcl (zKs n) ad (zcE n cI cZ cR cA ad) out.2 H) args s) (F0 m 4 ls [])) (k0 : Nat) (v1 : Int32) (v3 : Int32) (hk0 : (7, k0) ∈ zKs n) (st : zS) (H : Heap) (locs : List Loc) (ls : Array Slot) (hP : zV (dC, dI) zcl (zKs n) ad (zcE n cI cZ cR cA ad) st H) (hS : va_S A s.heap H locs) (hl : lv_has ls 5 [(0, .ref (ad (7, k0))), (1, .int v1), (3, .int v3)]) (hF : F_R_best_L60 n c4 k0 v1 v3 st = some out) : W p l e rm_R_best s m args below meth c H locs 0 0 (zQ below A (fun o H => o = some (.int out.1) ∧ zV (dC, dI) zcl (zKs n) ad (zcE n cI cZ cR cA ad) out.2 H) args s) (F0 m 60 ls []) := by
  unfold F_R_best_L60 at hF
  refine lv_iload_n S.1 S.2.1 d_R_best_60 rfl (lv_at hl 2 rfl) ?_
  refine lv_istore_n S.1 S.2.1 d_R_best_61 rfl hl (by decide) rfl (fun ls hl => ?_)
  have hl : lv_has ls 5 [(2, .int v3), (0, .ref (ad (7, k0))), (1, .int v1), (3, .int v3)] := hl
  exact T_R_best_L62 hn hD S hret hlk hK out c4 hc4 k0 v1 v3 v3 hk0 st _ _ _ hP hS (lv_sub hl [1, 2, 0, 3] rfl) hF

set_option maxHeartbeats 4000000 in
set_option maxRecDepth 1000000 in
theorem T_R_best_L40 {dC : Nat → ClassId} {dI : Nat → Nat → Nat} {cI cZ cR cA : ClassId} {n : Nat} {ad : zK → Nat} {A : Nat → Prop} (hn : 2 ≤ n ∧ n ≤ 6) (hD : zD A (zKs n) ad) {p : Program} {l : Launch} {e : Env} {s : State} {m : MethodId} {args : Array Value} {below : List Frame} {meth : Method} {c : Code} (S : CallFix p m c b_R_best 5 s args zT N_R) (hret : meth.sig.returnType = some .int) (hlk : meth.locks = false) (hK : va_K (dC, dI) zcl (zty cI cZ cR cA) s) (out : Int32 × zS) (c4 : Nat → Int32 → Int32 → Int32 → zS → Option (Int32 × zS)) (hc4 : ∀ (k0 : Nat) (v1 : Int32) (v2 : Int32) (v3 : Int32) (hk0 : (7, k0) ∈ zKs n) (st : zS) (H : Heap) (locs : List Loc) (ls : Array Slot), zV (dC, dI) zcl (zKs n) ad (zcE n cI cZ cR cA ad) st H → va_S A s.heap H locs → lv_has ls 5 [(0, .ref (ad (7, k0))), (1, .int v1), (2, .int v2), (3, .int v3)] → c4 k0 v1 v2 v3 st = some out → W p l e rm_R_best s m args below meth c H locs 0 0 (zQ below A (fun o H => o = some (.int out.1) ∧ zV (dC, dI) zcl (zKs n) ad (zcE n cI cZ cR cA ad) out.2 H) args s) (F0 m 4 ls [])) (k0 : Nat) (v1 : Int32) (v2 : Int32) (v3 : Int32) (t0 : Int32) (hk0 : (7, k0) ∈ zKs n) (st : zS) (H : Heap) (locs : List Loc) (ls : Array Slot) (hP : zV (dC, dI) zcl (zKs n) ad (zcE n cI cZ cR cA ad) st H) (hS : va_S A s.heap H locs) (hl : lv_has ls 5 [(0, .ref (ad (7, k0))), (1, .int v1), (2, .int v2), (3, .int v3)]) (hF : F_R_best_L40 n c4 k0 v1 v2 v3 t0 st = some out) : W p l e rm_R_best s m args below meth c H locs 0 0 (zQ below A (fun o H => o = some (.int out.1) ∧ zV (dC, dI) zcl (zKs n) ad (zcE n cI cZ cR cA ad) out.2 H) args s) (F0 m 40 ls [.int t0]) := by
  unfold F_R_best_L40 at hF
  refine lv_istore S.1 S.2.1 d_R_best_40 hl (by decide) rfl (fun ls hl => ?_)
  have hl : lv_has ls 5 [(4, .int t0), (0, .ref (ad (7, k0))), (1, .int v1), (2, .int v2), (3, .int v3)] := hl
  refine lv_iload S.1 S.2.1 d_R_best_42 (lv_at hl 0 rfl) ?_
  refine lv_if_eq (tgt := 62) S.1 S.2.1 d_R_best_44 (by decide) (fun h44 => ?_) (fun h44 => ?_)
  · rw [if_pos h44] at hF
    exact T_R_best_L62 hn hD S hret hlk hK out c4 hc4 k0 v1 v2 v3 hk0 st _ _ _ hP hS (lv_sub hl [1, 2, 3, 4] rfl) hF
  · rw [if_neg h44] at hF
    refine lv_iload_n S.1 S.2.1 d_R_best_47 rfl (lv_at hl 3 rfl) ?_
    refine lv_iconst (v := (-1)) S.1 S.2.1 d_R_best_48 (by decide) ?_
    refine lv_icmp_eq (tgt := 60) S.1 S.2.1 d_R_best_49 (by decide) (fun h49 => ?_) (fun h49 => ?_)
    · rw [if_pos h49] at hF
      exact T_R_best_L60 hn hD S hret hlk hK out c4 hc4 k0 v1 v3 hk0 st _ _ _ hP hS (lv_sub hl [1, 2, 4] rfl) hF
    · rw [if_neg h49] at hF
      refine lv_iload_n S.1 S.2.1 d_R_best_52 rfl (lv_at hl 4 rfl) ?_
      refine lv_aload_n S.1 S.2.1 d_R_best_53 rfl (lv_at hl 1 rfl) ?_
      refine zr_get (v := .int (st 7 k0 2)) S zi_R hK hP hk0 rfl rfl 7 (by decide) zx_48 rfl d_R_best_54 ?_
      refine lv_icmp_ne (tgt := 62) S.1 S.2.1 d_R_best_57 (by decide) (fun h57 => ?_) (fun h57 => ?_)
      · rw [if_neg h57] at hF
        exact T_R_best_L62 hn hD S hret hlk hK out c4 hc4 k0 v1 v2 v3 hk0 st _ _ _ hP hS (lv_sub hl [1, 2, 3, 4] rfl) hF
      · rw [if_pos h57] at hF
        exact T_R_best_L60 hn hD S hret hlk hK out c4 hc4 k0 v1 v3 hk0 st _ _ _ hP hS (lv_sub hl [1, 2, 4] rfl) hF

set_option maxHeartbeats 4000000 in
set_option maxRecDepth 1000000 in
theorem T_R_best_L39 {dC : Nat → ClassId} {dI : Nat → Nat → Nat} {cI cZ cR cA : ClassId} {n : Nat} {ad : zK → Nat} {A : Nat → Prop} (hn : 2 ≤ n ∧ n ≤ 6) (hD : zD A (zKs n) ad) {p : Program} {l : Launch} {e : Env} {s : State} {m : MethodId} {args : Array Value} {below : List Frame} {meth : Method} {c : Code} (S : CallFix p m c b_R_best 5 s args zT N_R) (hret : meth.sig.returnType = some .int) (hlk : meth.locks = false) (hK : va_K (dC, dI) zcl (zty cI cZ cR cA) s) (out : Int32 × zS) (c4 : Nat → Int32 → Int32 → Int32 → zS → Option (Int32 × zS)) (hc4 : ∀ (k0 : Nat) (v1 : Int32) (v2 : Int32) (v3 : Int32) (hk0 : (7, k0) ∈ zKs n) (st : zS) (H : Heap) (locs : List Loc) (ls : Array Slot), zV (dC, dI) zcl (zKs n) ad (zcE n cI cZ cR cA ad) st H → va_S A s.heap H locs → lv_has ls 5 [(0, .ref (ad (7, k0))), (1, .int v1), (2, .int v2), (3, .int v3)] → c4 k0 v1 v2 v3 st = some out → W p l e rm_R_best s m args below meth c H locs 0 0 (zQ below A (fun o H => o = some (.int out.1) ∧ zV (dC, dI) zcl (zKs n) ad (zcE n cI cZ cR cA ad) out.2 H) args s) (F0 m 4 ls [])) (k0 : Nat) (v1 : Int32) (v2 : Int32) (v3 : Int32) (hk0 : (7, k0) ∈ zKs n) (st : zS) (H : Heap) (locs : List Loc) (ls : Array Slot) (hP : zV (dC, dI) zcl (zKs n) ad (zcE n cI cZ cR cA ad) st H) (hS : va_S A s.heap H locs) (hl : lv_has ls 5 [(0, .ref (ad (7, k0))), (1, .int v1), (2, .int v2), (3, .int v3)]) (hF : F_R_best_L39 n c4 k0 v1 v2 v3 st = some out) : W p l e rm_R_best s m args below meth c H locs 0 0 (zQ below A (fun o H => o = some (.int out.1) ∧ zV (dC, dI) zcl (zKs n) ad (zcE n cI cZ cR cA ad) out.2 H) args s) (F0 m 39 ls []) := by
  unfold F_R_best_L39 at hF
  refine lv_iconst (v := 0) S.1 S.2.1 d_R_best_39 (by decide) ?_
  exact T_R_best_L40 hn hD S hret hlk hK out c4 hc4 k0 v1 v2 v3 0 hk0 st _ _ _ hP hS (lv_sub hl [0, 1, 2, 3] rfl) hF

set_option maxHeartbeats 4000000 in
set_option maxRecDepth 1000000 in
theorem T_R_best_L4 {dC : Nat → ClassId} {dI : Nat → Nat → Nat} {cI cZ cR cA : ClassId} {n : Nat} {ad : zK → Nat} {A : Nat → Prop} (hn : 2 ≤ n ∧ n ≤ 6) (hD : zD A (zKs n) ad) {p : Program} {l : Launch} {e : Env} {s : State} {m : MethodId} {args : Array Value} {below : List Frame} {meth : Method} {c : Code} (S : CallFix p m c b_R_best 5 s args zT N_R) (hret : meth.sig.returnType = some .int) (hlk : meth.locks = false) (hK : va_K (dC, dI) zcl (zty cI cZ cR cA) s) (out : Int32 × zS) : ∀ (fu : Nat) (k0 : Nat) (v1 : Int32) (v2 : Int32) (v3 : Int32) (hk0 : (7, k0) ∈ zKs n) (st : zS) (H : Heap) (locs : List Loc) (ls : Array Slot) (hP : zV (dC, dI) zcl (zKs n) ad (zcE n cI cZ cR cA ad) st H) (hS : va_S A s.heap H locs) (hl : lv_has ls 5 [(0, .ref (ad (7, k0))), (1, .int v1), (2, .int v2), (3, .int v3)]) (hF : F_R_best_L4 n fu k0 v1 v2 v3 st = some out), W p l e rm_R_best s m args below meth c H locs 0 0 (zQ below A (fun o H => o = some (.int out.1) ∧ zV (dC, dI) zcl (zKs n) ad (zcE n cI cZ cR cA ad) out.2 H) args s) (F0 m 4 ls []) := by
  intro fu
  induction fu with
  | zero => intro k0 v1 v2 v3 hk0 st H locs ls hP hS hl hF; rw [F_R_best_L4] at hF; cases hF
  | succ f ih =>
    intro k0 v1 v2 v3 hk0 st H locs ls hP hS hl hF
    rw [F_R_best_L4] at hF
    refine lv_iload_n S.1 S.2.1 d_R_best_4 rfl (lv_at hl 3 rfl) ?_
    refine lv_aload_n S.1 S.2.1 d_R_best_5 rfl (lv_at hl 0 rfl) ?_
    refine zr_get (v := .ref (ad (6, k0 / 6))) S zi_R hK hP hk0 rfl rfl 2 (by decide) zx_43 rfl d_R_best_6 ?_
    refine zr_alen (n := n) S hK hP (zk_67 hk0) rfl 0 rfl rfl d_R_best_9 ?_
    refine lv_icmp_ge (tgt := 68) S.1 S.2.1 d_R_best_10 (by decide) (fun h10 => ?_) (fun h10 => ?_)
    · rw [if_pos h10] at hF
      refine lv_iload_n S.1 S.2.1 d_R_best_68 rfl (lv_at hl 2 rfl) ?_
      cases hF
      exact zr_iret S hret hlk hS d_R_best_69 ⟨rfl, hP⟩
    · rw [if_neg h10] at hF
      refine lv_aload_n S.1 S.2.1 d_R_best_13 rfl (lv_at hl 0 rfl) ?_
      refine zr_get (v := .ref (ad (8, k0))) S zi_R hK hP hk0 rfl rfl 3 (by decide) zx_44 rfl d_R_best_14 ?_
      refine lv_iload_n S.1 S.2.1 d_R_best_17 rfl (lv_at hl 3 rfl) ?_
      by_cases g18 : zOut v3 n
      · rw [if_pos g18] at hF; cases hF
      rw [if_neg g18] at hF
      refine zr_iald S hK hP (zk_87 hk0) rfl 0 rfl g18 d_R_best_18 ?_
      refine lv_aload_n S.1 S.2.1 d_R_best_19 rfl (lv_at hl 0 rfl) ?_
      refine zr_get (v := .int (st 7 k0 1)) S zi_R hK hP hk0 rfl rfl 6 (by decide) zx_47 rfl d_R_best_20 ?_
      refine lv_icmp_ge (tgt := 39) S.1 S.2.1 d_R_best_23 (by decide) (fun h23 => ?_) (fun h23 => ?_)
      · rw [if_pos h23] at hF
        exact T_R_best_L39 hn hD S hret hlk hK out (F_R_best_L4 n f) ih k0 v1 v2 v3 hk0 st _ _ _ hP hS (lv_sub hl [0, 1, 2, 3] rfl) hF
      · rw [if_neg h23] at hF
        refine lv_aload_n S.1 S.2.1 d_R_best_26 rfl (lv_at hl 0 rfl) ?_
        refine lv_iload_n S.1 S.2.1 d_R_best_27 rfl (lv_at hl 3 rfl) ?_
        cases hc28 : F_R_through n k0 v3 st with
        | none => rw [hc28] at hF; cases hF
        | some u28 =>
          obtain ⟨r28, st28⟩ := u28
          rw [hc28] at hF
          replace hF := zbind hF
          refine zr_callV (rest := []) S zT_good (C_R_through hn hD l k0 v3 hk0 st (r28, st28) hc28) zn_R_through zx_119 ⟨rfl, rfl⟩ ⟨Nat.le_of_ble_eq_true rfl, Nat.le_of_ble_eq_true rfl⟩ ⟨Nat.zero_le _, Nat.zero_le _⟩ hK (zr_recv hK hP hk0 rfl rfl) hP hl.1 (Nat.le_of_ble_eq_true rfl) hS (fun _ h => h) d_R_best_28 rfl (fun o H locs hpo _ _ hS => ?_)
          obtain ⟨rfl, hP⟩ := hpo
          refine W.eq (g2 := F0 m 31 ls [.int r28]) rfl ?_
          replace hF : F_R_best_L4_s1 n (F_R_best_L4 n f) k0 v1 v2 v3 r28 st28 = some out := hF
          replace hP : zV (dC, dI) zcl (zKs n) ad (zcE n cI cZ cR cA ad) st28 H := hP
          unfold F_R_best_L4_s1 at hF
          refine lv_iload_n S.1 S.2.1 d_R_best_31 rfl (lv_at hl 1 rfl) ?_
          refine lv_icmp_ne (tgt := 39) S.1 S.2.1 d_R_best_32 (by decide) (fun h32 => ?_) (fun h32 => ?_)
          · rw [if_neg h32] at hF
            exact T_R_best_L39 hn hD S hret hlk hK out (F_R_best_L4 n f) ih k0 v1 v2 v3 hk0 st28 _ _ _ hP hS (lv_sub hl [0, 1, 2, 3] rfl) hF
          · rw [if_pos h32] at hF
            refine lv_iconst (v := 1) S.1 S.2.1 d_R_best_35 (by decide) ?_
            refine lv_goto (tgt := 40) S.1 S.2.1 d_R_best_36 (by decide) ?_
            exact T_R_best_L40 hn hD S hret hlk hK out (F_R_best_L4 n f) ih k0 v1 v2 v3 1 hk0 st28 _ _ _ hP hS (lv_sub hl [0, 1, 2, 3] rfl) hF

set_option maxHeartbeats 4000000 in
set_option maxRecDepth 1000000 in
theorem C_R_best {dC : Nat → ClassId} {dI : Nat → Nat → Nat} {cI cZ cR cA : ClassId} {n : Nat} {ad : zK → Nat} {A : Nat → Prop} (hn : 2 ≤ n ∧ n ≤ 6) (hD : zD A (zKs n) ad) (l : Launch) (k0 : Nat) (v1 : Int32) (hk0 : (7, k0) ∈ zKs n) (st : zS) (out : Int32 × zS) (hF : F_R_best n k0 v1 st = some out) : zC zT (dC, dI) zcl (zty cI cZ cR cA) A l y_R_best b_R_best 5 (some .int) rm_R_best [.ref (ad (7, k0)), .int v1] (fun H => zV (dC, dI) zcl (zKs n) ad (zcE n cI cZ cR cA ad) st H) (fun o H => o = some (.int out.1) ∧ zV (dC, dI) zcl (zKs n) ad (zcE n cI cZ cR cA ad) out.2 H) := by
  refine zC_of (by decide) (Nat.le_of_ble_eq_true rfl) (fun p e s m args below meth c ls S hret hlk hK hP hl => ?_)
  have hS : va_S A s.heap s.heap [] := va_S.rf
  have hl : lv_has ls 5 [(0, .ref (ad (7, k0))), (1, .int v1)] := hl
  have hP : zV (dC, dI) zcl (zKs n) ad (zcE n cI cZ cR cA ad) st s.heap := hP
  unfold F_R_best at hF
  refine lv_iconst (v := (-1)) S.1 S.2.1 d_R_best_0 (by decide) ?_
  refine lv_istore_n S.1 S.2.1 d_R_best_1 rfl hl (by decide) rfl (fun ls hl => ?_)
  have hl : lv_has ls 5 [(2, .int (-1)), (0, .ref (ad (7, k0))), (1, .int v1)] := hl
  refine lv_iconst (v := 0) S.1 S.2.1 d_R_best_2 (by decide) ?_
  refine lv_istore_n S.1 S.2.1 d_R_best_3 rfl hl (by decide) rfl (fun ls hl => ?_)
  have hl : lv_has ls 5 [(3, .int 0), (2, .int (-1)), (0, .ref (ad (7, k0))), (1, .int v1)] := hl
  exact T_R_best_L4 hn hD S hret hlk hK out zFuel k0 v1 (-1) 0 hk0 st _ _ _ hP hS (lv_sub hl [2, 3, 1, 0] rfl) hF

theorem d_R_takeBest_0 : decode b_R_takeBest 0 = .ok (.aload_n 0, 1) := by decide +kernel
theorem d_R_takeBest_1 : decode b_R_takeBest 1 = .ok (.invokevirtual 50, 3) := by decide +kernel
theorem d_R_takeBest_4 : decode b_R_takeBest 4 = .ok (.istore_n 1, 1) := by decide +kernel
theorem d_R_takeBest_5 : decode b_R_takeBest 5 = .ok (.iload_n 1, 1) := by decide +kernel
theorem d_R_takeBest_6 : decode b_R_takeBest 6 = .ok (.sipush 10000, 3) := by decide +kernel
theorem d_R_takeBest_9 : decode b_R_takeBest 9 = .ok (.if_icmp .ne 7, 3) := by decide +kernel
theorem d_R_takeBest_12 : decode b_R_takeBest 12 = .ok (.iconst (-1), 1) := by decide +kernel
theorem d_R_takeBest_13 : decode b_R_takeBest 13 = .ok (.goto 8, 3) := by decide +kernel
theorem d_R_takeBest_16 : decode b_R_takeBest 16 = .ok (.aload_n 0, 1) := by decide +kernel
theorem d_R_takeBest_17 : decode b_R_takeBest 17 = .ok (.iload_n 1, 1) := by decide +kernel
theorem d_R_takeBest_18 : decode b_R_takeBest 18 = .ok (.invokevirtual 54, 3) := by decide +kernel
theorem d_R_takeBest_21 : decode b_R_takeBest 21 = .ok (.istore_n 2, 1) := by decide +kernel
theorem d_R_takeBest_22 : decode b_R_takeBest 22 = .ok (.iload_n 1, 1) := by decide +kernel
theorem d_R_takeBest_23 : decode b_R_takeBest 23 = .ok (.sipush 10000, 3) := by decide +kernel
theorem d_R_takeBest_26 : decode b_R_takeBest 26 = .ok (.if_icmp .ne 21, 3) := by decide +kernel
theorem d_R_takeBest_29 : decode b_R_takeBest 29 = .ok (.aload_n 0, 1) := by decide +kernel
theorem d_R_takeBest_30 : decode b_R_takeBest 30 = .ok (.getfield 38, 3) := by decide +kernel
theorem d_R_takeBest_33 : decode b_R_takeBest 33 = .ok (.sipush 10000, 3) := by decide +kernel
theorem d_R_takeBest_36 : decode b_R_takeBest 36 = .ok (.if_icmp .ne 7, 3) := by decide +kernel
theorem d_R_takeBest_39 : decode b_R_takeBest 39 = .ok (.iconst 1, 1) := by decide +kernel
theorem d_R_takeBest_40 : decode b_R_takeBest 40 = .ok (.goto 17, 3) := by decide +kernel
theorem d_R_takeBest_43 : decode b_R_takeBest 43 = .ok (.iconst 0, 1) := by decide +kernel
theorem d_R_takeBest_44 : decode b_R_takeBest 44 = .ok (.goto 13, 3) := by decide +kernel
theorem d_R_takeBest_47 : decode b_R_takeBest 47 = .ok (.iload_n 2, 1) := by decide +kernel
theorem d_R_takeBest_48 : decode b_R_takeBest 48 = .ok (.iconst (-1), 1) := by decide +kernel
theorem d_R_takeBest_49 : decode b_R_takeBest 49 = .ok (.if_icmp .eq 7, 3) := by decide +kernel
theorem d_R_takeBest_52 : decode b_R_takeBest 52 = .ok (.iconst 1, 1) := by decide +kernel
theorem d_R_takeBest_53 : decode b_R_takeBest 53 = .ok (.goto 4, 3) := by decide +kernel
theorem d_R_takeBest_56 : decode b_R_takeBest 56 = .ok (.iconst 0, 1) := by decide +kernel
theorem d_R_takeBest_57 : decode b_R_takeBest 57 = .ok (.istore_n 3, 1) := by decide +kernel
theorem d_R_takeBest_58 : decode b_R_takeBest 58 = .ok (.iload_n 3, 1) := by decide +kernel
theorem d_R_takeBest_59 : decode b_R_takeBest 59 = .ok (.ifCond .eq 25, 3) := by decide +kernel
theorem d_R_takeBest_62 : decode b_R_takeBest 62 = .ok (.aload_n 0, 1) := by decide +kernel
theorem d_R_takeBest_63 : decode b_R_takeBest 63 = .ok (.iload_n 2, 1) := by decide +kernel
theorem d_R_takeBest_64 : decode b_R_takeBest 64 = .ok (.putfield 41, 3) := by decide +kernel
theorem d_R_takeBest_67 : decode b_R_takeBest 67 = .ok (.aload_n 0, 1) := by decide +kernel
theorem d_R_takeBest_68 : decode b_R_takeBest 68 = .ok (.iload_n 1, 1) := by decide +kernel
theorem d_R_takeBest_69 : decode b_R_takeBest 69 = .ok (.putfield 35, 3) := by decide +kernel
theorem d_R_takeBest_72 : decode b_R_takeBest 72 = .ok (.aload_n 0, 1) := by decide +kernel
theorem d_R_takeBest_73 : decode b_R_takeBest 73 = .ok (.aload_n 0, 1) := by decide +kernel
theorem d_R_takeBest_74 : decode b_R_takeBest 74 = .ok (.getfield 38, 3) := by decide +kernel
theorem d_R_takeBest_77 : decode b_R_takeBest 77 = .ok (.iload_n 1, 1) := by decide +kernel
theorem d_R_takeBest_78 : decode b_R_takeBest 78 = .ok (.invokestatic 44, 3) := by decide +kernel
theorem d_R_takeBest_81 : decode b_R_takeBest 81 = .ok (.putfield 38, 3) := by decide +kernel
theorem d_R_takeBest_84 : decode b_R_takeBest 84 = .ok (.iload_n 3, 1) := by decide +kernel
theorem d_R_takeBest_85 : decode b_R_takeBest 85 = .ok (.ireturn, 1) := by decide +kernel
def F_R_takeBest_L57_s3 (n : Nat) (v3 : Int32) (st : zS) : Option (Int32 × zS) :=
    if ¬ (v3 = 0 ∨ v3 = 1) then none else some (v3, st)

def F_R_takeBest_L57_s2 (n : Nat) (v3 : Int32) (k0 : Nat) (v1 : Int32) (st : zS) : Option (Int32 × zS) :=
    F_R_takeBest_L57_s3 n v3 (zs st 7 k0 1 (if v1 < (st 7 k0 1) then v1 else (st 7 k0 1)))

def F_R_takeBest_L57_s1 (n : Nat) (v3 : Int32) (k0 : Nat) (v1 : Int32) (st : zS) : Option (Int32 × zS) :=
    F_R_takeBest_L57_s2 n v3 k0 v1 (zs st 7 k0 0 v1)

def F_R_takeBest_L57 (n : Nat) (k0 : Nat) (v1 : Int32) (v2 : Int32) (t0 : Int32) (st : zS) : Option (Int32 × zS) :=
    if t0 = 0 then (if ¬ (t0 = 0 ∨ t0 = 1) then none else some (t0, st)) else (F_R_takeBest_L57_s1 n t0 k0 v1 (zs st 7 k0 2 v2))

def F_R_takeBest_L21 (n : Nat) (k0 : Nat) (v1 : Int32) (t0 : Int32) (st : zS) : Option (Int32 × zS) :=
    if v1 = 10000 then (if (st 7 k0 1) = 10000 then (F_R_takeBest_L57 n k0 v1 t0 1 st) else (F_R_takeBest_L57 n k0 v1 t0 0 st)) else (if t0 = (-1) then (F_R_takeBest_L57 n k0 v1 t0 0 st) else (F_R_takeBest_L57 n k0 v1 t0 1 st))

def F_R_takeBest_s2 (n : Nat) (v1 : Int32) (k0 : Nat) (t0 : Int32) (st : zS) : Option (Int32 × zS) :=
    F_R_takeBest_L21 n k0 v1 t0 st

def F_R_takeBest_s1 (n : Nat) (k0 : Nat) (t0 : Int32) (st : zS) : Option (Int32 × zS) :=
    if t0 = 10000 then (F_R_takeBest_L21 n k0 t0 (-1) st) else ((F_R_best n k0 t0 st).bind (fun u => F_R_takeBest_s2 n t0 k0 u.1 u.2))

def F_R_takeBest (n : Nat) (k0 : Nat) (st : zS) : Option (Int32 × zS) :=
    (F_R_least n k0 st).bind (fun u => F_R_takeBest_s1 n k0 u.1 u.2)

set_option maxHeartbeats 4000000 in
set_option maxRecDepth 1000000 in
theorem T_R_takeBest_L57 {dC : Nat → ClassId} {dI : Nat → Nat → Nat} {cI cZ cR cA : ClassId} {n : Nat} {ad : zK → Nat} {A : Nat → Prop} (hn : 2 ≤ n ∧ n ≤ 6) (hD : zD A (zKs n) ad) {p : Program} {l : Launch} {e : Env} {s : State} {m : MethodId} {args : Array Value} {below : List Frame} {meth : Method} {c : Code} (S : CallFix p m c b_R_takeBest 4 s args zT N_R) (hret : meth.sig.returnType = some .boolean) (hlk : meth.locks = false) (hK : va_K (dC, dI) zcl (zty cI cZ cR cA) s) (out : Int32 × zS) (k0 : Nat) (v1 : Int32) (v2 : Int32) (t0 : Int32) (hk0 : (7, k0) ∈ zKs n) (st : zS) (H : Heap) (locs : List Loc) (ls : Array Slot) (hP : zV (dC, dI) zcl (zKs n) ad (zcE n cI cZ cR cA ad) st H) (hS : va_S A s.heap H locs) (hl : lv_has ls 4 [(0, .ref (ad (7, k0))), (1, .int v1), (2, .int v2)]) (hF : F_R_takeBest_L57 n k0 v1 v2 t0 st = some out) : W p l e rm_R_takeBest s m args below meth c H locs 0 0 (zQ below A (fun o H => o = some (.int out.1) ∧ zV (dC, dI) zcl (zKs n) ad (zcE n cI cZ cR cA ad) out.2 H) args s) (F0 m 57 ls [.int t0]) := by
  unfold F_R_takeBest_L57 at hF
  refine lv_istore_n S.1 S.2.1 d_R_takeBest_57 rfl hl (by decide) rfl (fun ls hl => ?_)
  have hl : lv_has ls 4 [(3, .int t0), (0, .ref (ad (7, k0))), (1, .int v1), (2, .int v2)] := hl
  refine lv_iload_n S.1 S.2.1 d_R_takeBest_58 rfl (lv_at hl 0 rfl) ?_
  refine lv_if_eq (tgt := 84) S.1 S.2.1 d_R_takeBest_59 (by decide) (fun h59 => ?_) (fun h59 => ?_)
  · rw [if_pos h59] at hF
    refine lv_iload_n S.1 S.2.1 d_R_takeBest_84 rfl (lv_at hl 0 rfl) ?_
    by_cases g85 : ¬ (t0 = 0 ∨ t0 = 1)
    · rw [if_pos g85] at hF; cases hF
    rw [if_neg g85] at hF
    cases hF
    exact zr_zret S hret hlk (Decidable.not_not.mp g85) hS d_R_takeBest_85 ⟨rfl, hP⟩
  · rw [if_neg h59] at hF
    refine lv_aload_n S.1 S.2.1 d_R_takeBest_62 rfl (lv_at hl 1 rfl) ?_
    refine lv_iload_n S.1 S.2.1 d_R_takeBest_63 rfl (lv_at hl 3 rfl) ?_
    refine zr_put (v := v2) S zi_R t_R t_R_ok n_R hK hP hD hS hk0 rfl rfl 7 (by decide) zx_48 rfl rfl rfl (Nat.le_of_ble_eq_true rfl) 2 rfl d_R_takeBest_64 (fun H locs hP hS => ?_)
    replace hF : F_R_takeBest_L57_s1 n t0 k0 v1 (zs st 7 k0 2 v2) = some out := hF
    generalize zs st 7 k0 2 v2 = st67 at hP hF
    unfold F_R_takeBest_L57_s1 at hF
    refine lv_aload_n S.1 S.2.1 d_R_takeBest_67 rfl (lv_at hl 1 rfl) ?_
    refine lv_iload_n S.1 S.2.1 d_R_takeBest_68 rfl (lv_at hl 2 rfl) ?_
    refine zr_put (v := v1) S zi_R t_R t_R_ok n_R hK hP hD hS hk0 rfl rfl 5 (by decide) zx_46 rfl rfl rfl (Nat.le_of_ble_eq_true rfl) 0 rfl d_R_takeBest_69 (fun H locs hP hS => ?_)
    replace hF : F_R_takeBest_L57_s2 n t0 k0 v1 (zs st67 7 k0 0 v1) = some out := hF
    generalize zs st67 7 k0 0 v1 = st72 at hP hF
    unfold F_R_takeBest_L57_s2 at hF
    refine lv_aload_n S.1 S.2.1 d_R_takeBest_72 rfl (lv_at hl 1 rfl) ?_
    refine lv_aload_n S.1 S.2.1 d_R_takeBest_73 rfl (lv_at hl 1 rfl) ?_
    refine zr_get (v := .int (st72 7 k0 1)) S zi_R hK hP hk0 rfl rfl 6 (by decide) zx_47 rfl d_R_takeBest_74 ?_
    refine lv_iload_n S.1 S.2.1 d_R_takeBest_77 rfl (lv_at hl 2 rfl) ?_
    refine va_mmin S.1 S.2.1 (S.2.2.1.trans hl.1.symm) S.2.2.2.1 (S.2.2.2.2 _ zx_116) (S.2.2.2.2 _ zx_122) (S.2.2.2.2 _ zx_53) (S.2.2.2.2 _ zx_1) (Nat.le_of_ble_eq_true rfl) (Nat.le_of_ble_eq_true rfl) (Nat.zero_le _) (Nat.zero_le _) d_R_takeBest_78 ?_
    refine zr_put (v := if v1 < (st72 7 k0 1) then v1 else (st72 7 k0 1)) S zi_R t_R t_R_ok n_R hK hP hD hS hk0 rfl rfl 6 (by decide) zx_47 rfl rfl rfl (Nat.le_of_ble_eq_true rfl) 1 rfl d_R_takeBest_81 (fun H locs hP hS => ?_)
    replace hF : F_R_takeBest_L57_s3 n t0 (zs st72 7 k0 1 (if v1 < (st72 7 k0 1) then v1 else (st72 7 k0 1))) = some out := hF
    generalize zs st72 7 k0 1 (if v1 < (st72 7 k0 1) then v1 else (st72 7 k0 1)) = st84 at hP hF
    unfold F_R_takeBest_L57_s3 at hF
    refine lv_iload_n S.1 S.2.1 d_R_takeBest_84 rfl (lv_at hl 0 rfl) ?_
    by_cases g85 : ¬ (t0 = 0 ∨ t0 = 1)
    · rw [if_pos g85] at hF; cases hF
    rw [if_neg g85] at hF
    cases hF
    exact zr_zret S hret hlk (Decidable.not_not.mp g85) hS d_R_takeBest_85 ⟨rfl, hP⟩

set_option maxHeartbeats 4000000 in
set_option maxRecDepth 1000000 in
theorem T_R_takeBest_L21 {dC : Nat → ClassId} {dI : Nat → Nat → Nat} {cI cZ cR cA : ClassId} {n : Nat} {ad : zK → Nat} {A : Nat → Prop} (hn : 2 ≤ n ∧ n ≤ 6) (hD : zD A (zKs n) ad) {p : Program} {l : Launch} {e : Env} {s : State} {m : MethodId} {args : Array Value} {below : List Frame} {meth : Method} {c : Code} (S : CallFix p m c b_R_takeBest 4 s args zT N_R) (hret : meth.sig.returnType = some .boolean) (hlk : meth.locks = false) (hK : va_K (dC, dI) zcl (zty cI cZ cR cA) s) (out : Int32 × zS) (k0 : Nat) (v1 : Int32) (t0 : Int32) (hk0 : (7, k0) ∈ zKs n) (st : zS) (H : Heap) (locs : List Loc) (ls : Array Slot) (hP : zV (dC, dI) zcl (zKs n) ad (zcE n cI cZ cR cA ad) st H) (hS : va_S A s.heap H locs) (hl : lv_has ls 4 [(0, .ref (ad (7, k0))), (1, .int v1)]) (hF : F_R_takeBest_L21 n k0 v1 t0 st = some out) : W p l e rm_R_takeBest s m args below meth c H locs 0 0 (zQ below A (fun o H => o = some (.int out.1) ∧ zV (dC, dI) zcl (zKs n) ad (zcE n cI cZ cR cA ad) out.2 H) args s) (F0 m 21 ls [.int t0]) := by
  unfold F_R_takeBest_L21 at hF
  refine lv_istore_n S.1 S.2.1 d_R_takeBest_21 rfl hl (by decide) rfl (fun ls hl => ?_)
  have hl : lv_has ls 4 [(2, .int t0), (0, .ref (ad (7, k0))), (1, .int v1)] := hl
  refine lv_iload_n S.1 S.2.1 d_R_takeBest_22 rfl (lv_at hl 2 rfl) ?_
  refine lv_sipush (v := 10000) S.1 S.2.1 d_R_takeBest_23 (by decide) ?_
  refine lv_icmp_ne (tgt := 47) S.1 S.2.1 d_R_takeBest_26 (by decide) (fun h26 => ?_) (fun h26 => ?_)
  · rw [if_neg h26] at hF
    refine lv_iload_n S.1 S.2.1 d_R_takeBest_47 rfl (lv_at hl 0 rfl) ?_
    refine lv_iconst (v := (-1)) S.1 S.2.1 d_R_takeBest_48 (by decide) ?_
    refine lv_icmp_eq (tgt := 56) S.1 S.2.1 d_R_takeBest_49 (by decide) (fun h49 => ?_) (fun h49 => ?_)
    · rw [if_pos h49] at hF
      refine lv_iconst (v := 0) S.1 S.2.1 d_R_takeBest_56 (by decide) ?_
      exact T_R_takeBest_L57 hn hD S hret hlk hK out k0 v1 t0 0 hk0 st _ _ _ hP hS (lv_sub hl [1, 2, 0] rfl) hF
    · rw [if_neg h49] at hF
      refine lv_iconst (v := 1) S.1 S.2.1 d_R_takeBest_52 (by decide) ?_
      refine lv_goto (tgt := 57) S.1 S.2.1 d_R_takeBest_53 (by decide) ?_
      exact T_R_takeBest_L57 hn hD S hret hlk hK out k0 v1 t0 1 hk0 st _ _ _ hP hS (lv_sub hl [1, 2, 0] rfl) hF
  · rw [if_pos h26] at hF
    refine lv_aload_n S.1 S.2.1 d_R_takeBest_29 rfl (lv_at hl 1 rfl) ?_
    refine zr_get (v := .int (st 7 k0 1)) S zi_R hK hP hk0 rfl rfl 6 (by decide) zx_47 rfl d_R_takeBest_30 ?_
    refine lv_sipush (v := 10000) S.1 S.2.1 d_R_takeBest_33 (by decide) ?_
    refine lv_icmp_ne (tgt := 43) S.1 S.2.1 d_R_takeBest_36 (by decide) (fun h36 => ?_) (fun h36 => ?_)
    · rw [if_neg h36] at hF
      refine lv_iconst (v := 0) S.1 S.2.1 d_R_takeBest_43 (by decide) ?_
      refine lv_goto (tgt := 57) S.1 S.2.1 d_R_takeBest_44 (by decide) ?_
      exact T_R_takeBest_L57 hn hD S hret hlk hK out k0 v1 t0 0 hk0 st _ _ _ hP hS (lv_sub hl [1, 2, 0] rfl) hF
    · rw [if_pos h36] at hF
      refine lv_iconst (v := 1) S.1 S.2.1 d_R_takeBest_39 (by decide) ?_
      refine lv_goto (tgt := 57) S.1 S.2.1 d_R_takeBest_40 (by decide) ?_
      exact T_R_takeBest_L57 hn hD S hret hlk hK out k0 v1 t0 1 hk0 st _ _ _ hP hS (lv_sub hl [1, 2, 0] rfl) hF

set_option maxHeartbeats 4000000 in
set_option maxRecDepth 1000000 in
theorem C_R_takeBest {dC : Nat → ClassId} {dI : Nat → Nat → Nat} {cI cZ cR cA : ClassId} {n : Nat} {ad : zK → Nat} {A : Nat → Prop} (hn : 2 ≤ n ∧ n ≤ 6) (hD : zD A (zKs n) ad) (l : Launch) (k0 : Nat) (hk0 : (7, k0) ∈ zKs n) (st : zS) (out : Int32 × zS) (hF : F_R_takeBest n k0 st = some out) : zC zT (dC, dI) zcl (zty cI cZ cR cA) A l y_R_takeBest b_R_takeBest 4 (some .boolean) rm_R_takeBest [.ref (ad (7, k0))] (fun H => zV (dC, dI) zcl (zKs n) ad (zcE n cI cZ cR cA ad) st H) (fun o H => o = some (.int out.1) ∧ zV (dC, dI) zcl (zKs n) ad (zcE n cI cZ cR cA ad) out.2 H) := by
  refine zC_of (by decide) (Nat.le_of_ble_eq_true rfl) (fun p e s m args below meth c ls S hret hlk hK hP hl => ?_)
  have hS : va_S A s.heap s.heap [] := va_S.rf
  have hl : lv_has ls 4 [(0, .ref (ad (7, k0)))] := hl
  have hP : zV (dC, dI) zcl (zKs n) ad (zcE n cI cZ cR cA ad) st s.heap := hP
  unfold F_R_takeBest at hF
  refine lv_aload_n S.1 S.2.1 d_R_takeBest_0 rfl (lv_at hl 0 rfl) ?_
  cases hc1 : F_R_least n k0 st with
  | none => rw [hc1] at hF; cases hF
  | some u1 =>
    obtain ⟨r1, st1⟩ := u1
    rw [hc1] at hF
    replace hF := zbind hF
    refine zr_callV (rest := []) S zT_good (C_R_least hn hD l k0 hk0 st (r1, st1) hc1) zn_R_least zx_117 ⟨rfl, rfl⟩ ⟨Nat.le_of_ble_eq_true rfl, Nat.le_of_ble_eq_true rfl⟩ ⟨Nat.zero_le _, Nat.zero_le _⟩ hK (zr_recv hK hP hk0 rfl rfl) hP hl.1 (Nat.le_of_ble_eq_true rfl) hS (fun _ h => h) d_R_takeBest_1 rfl (fun o H locs hpo _ _ hS => ?_)
    obtain ⟨rfl, hP⟩ := hpo
    refine W.eq (g2 := F0 m 4 ls [.int r1]) rfl ?_
    replace hF : F_R_takeBest_s1 n k0 r1 st1 = some out := hF
    replace hP : zV (dC, dI) zcl (zKs n) ad (zcE n cI cZ cR cA ad) st1 H := hP
    unfold F_R_takeBest_s1 at hF
    refine lv_istore_n S.1 S.2.1 d_R_takeBest_4 rfl hl (by decide) rfl (fun ls hl => ?_)
    have hl : lv_has ls 4 [(1, .int r1), (0, .ref (ad (7, k0)))] := hl
    refine lv_iload_n S.1 S.2.1 d_R_takeBest_5 rfl (lv_at hl 0 rfl) ?_
    refine lv_sipush (v := 10000) S.1 S.2.1 d_R_takeBest_6 (by decide) ?_
    refine lv_icmp_ne (tgt := 16) S.1 S.2.1 d_R_takeBest_9 (by decide) (fun h9 => ?_) (fun h9 => ?_)
    · rw [if_neg h9] at hF
      refine lv_aload_n S.1 S.2.1 d_R_takeBest_16 rfl (lv_at hl 1 rfl) ?_
      refine lv_iload_n S.1 S.2.1 d_R_takeBest_17 rfl (lv_at hl 0 rfl) ?_
      cases hc18 : F_R_best n k0 r1 st1 with
      | none => rw [hc18] at hF; cases hF
      | some u18 =>
        obtain ⟨r18, st18⟩ := u18
        rw [hc18] at hF
        replace hF := zbind hF
        refine zr_callV (rest := []) S zT_good (C_R_best hn hD l k0 r1 hk0 st1 (r18, st18) hc18) zn_R_best zx_118 ⟨rfl, rfl⟩ ⟨Nat.le_of_ble_eq_true rfl, Nat.le_of_ble_eq_true rfl⟩ ⟨Nat.zero_le _, Nat.zero_le _⟩ hK (zr_recv hK hP hk0 rfl rfl) hP hl.1 (Nat.le_of_ble_eq_true rfl) hS (fun _ h => h) d_R_takeBest_18 rfl (fun o H locs hpo _ _ hS => ?_)
        obtain ⟨rfl, hP⟩ := hpo
        refine W.eq (g2 := F0 m 21 ls [.int r18]) rfl ?_
        replace hF : F_R_takeBest_s2 n r1 k0 r18 st18 = some out := hF
        replace hP : zV (dC, dI) zcl (zKs n) ad (zcE n cI cZ cR cA ad) st18 H := hP
        unfold F_R_takeBest_s2 at hF
        exact T_R_takeBest_L21 hn hD S hret hlk hK out k0 r1 r18 hk0 st18 _ _ _ hP hS (lv_sub hl [1, 0] rfl) hF
    · rw [if_pos h9] at hF
      refine lv_iconst (v := (-1)) S.1 S.2.1 d_R_takeBest_12 (by decide) ?_
      refine lv_goto (tgt := 21) S.1 S.2.1 d_R_takeBest_13 (by decide) ?_
      exact T_R_takeBest_L21 hn hD S hret hlk hK out k0 r1 (-1) hk0 st1 _ _ _ hP hS (lv_sub hl [1, 0] rfl) hF

theorem d_R_isNeighbour_0 : decode b_R_isNeighbour 0 = .ok (.aload_n 0, 1) := by decide +kernel
theorem d_R_isNeighbour_1 : decode b_R_isNeighbour 1 = .ok (.getfield 18, 3) := by decide +kernel
theorem d_R_isNeighbour_4 : decode b_R_isNeighbour 4 = .ok (.iload_n 1, 1) := by decide +kernel
theorem d_R_isNeighbour_5 : decode b_R_isNeighbour 5 = .ok (.iaload, 1) := by decide +kernel
theorem d_R_isNeighbour_6 : decode b_R_isNeighbour 6 = .ok (.ifCond .le 7, 3) := by decide +kernel
theorem d_R_isNeighbour_9 : decode b_R_isNeighbour 9 = .ok (.iconst 1, 1) := by decide +kernel
theorem d_R_isNeighbour_10 : decode b_R_isNeighbour 10 = .ok (.goto 4, 3) := by decide +kernel
theorem d_R_isNeighbour_13 : decode b_R_isNeighbour 13 = .ok (.iconst 0, 1) := by decide +kernel
theorem d_R_isNeighbour_14 : decode b_R_isNeighbour 14 = .ok (.ireturn, 1) := by decide +kernel
def F_R_isNeighbour (n : Nat) (k0 : Nat) (v1 : Int32) (st : zS) : Option (Int32 × zS) :=
    if zOut v1 n then none else if (st 6 (k0 / 6) (Int32.toNatClampNeg v1)) ≤ 0 then (some (0, st)) else (some (1, st))

set_option maxHeartbeats 4000000 in
set_option maxRecDepth 1000000 in
theorem C_R_isNeighbour {dC : Nat → ClassId} {dI : Nat → Nat → Nat} {cI cZ cR cA : ClassId} {n : Nat} {ad : zK → Nat} {A : Nat → Prop} (hn : 2 ≤ n ∧ n ≤ 6) (hD : zD A (zKs n) ad) (l : Launch) (k0 : Nat) (v1 : Int32) (hk0 : (7, k0) ∈ zKs n) (st : zS) (out : Int32 × zS) (hF : F_R_isNeighbour n k0 v1 st = some out) : zC zT (dC, dI) zcl (zty cI cZ cR cA) A l y_R_isNeighbour b_R_isNeighbour 2 (some .boolean) rm_R_isNeighbour [.ref (ad (7, k0)), .int v1] (fun H => zV (dC, dI) zcl (zKs n) ad (zcE n cI cZ cR cA ad) st H) (fun o H => o = some (.int out.1) ∧ zV (dC, dI) zcl (zKs n) ad (zcE n cI cZ cR cA ad) out.2 H) := by
  refine zC_of (by decide) (Nat.le_of_ble_eq_true rfl) (fun p e s m args below meth c ls S hret hlk hK hP hl => ?_)
  have hS : va_S A s.heap s.heap [] := va_S.rf
  have hl : lv_has ls 2 [(0, .ref (ad (7, k0))), (1, .int v1)] := hl
  have hP : zV (dC, dI) zcl (zKs n) ad (zcE n cI cZ cR cA ad) st s.heap := hP
  unfold F_R_isNeighbour at hF
  refine lv_aload_n S.1 S.2.1 d_R_isNeighbour_0 rfl (lv_at hl 0 rfl) ?_
  refine zr_get (v := .ref (ad (6, k0 / 6))) S zi_R hK hP hk0 rfl rfl 2 (by decide) zx_43 rfl d_R_isNeighbour_1 ?_
  refine lv_iload_n S.1 S.2.1 d_R_isNeighbour_4 rfl (lv_at hl 1 rfl) ?_
  by_cases g5 : zOut v1 n
  · rw [if_pos g5] at hF; cases hF
  rw [if_neg g5] at hF
  refine zr_iald S hK hP (zk_67 hk0) rfl 0 rfl g5 d_R_isNeighbour_5 ?_
  refine lv_if_le (tgt := 13) S.1 S.2.1 d_R_isNeighbour_6 (by decide) (fun h6 => ?_) (fun h6 => ?_)
  · rw [if_pos h6] at hF
    refine lv_iconst (v := 0) S.1 S.2.1 d_R_isNeighbour_13 (by decide) ?_
    cases hF
    exact zr_zret S hret hlk (by decide) hS d_R_isNeighbour_14 ⟨rfl, hP⟩
  · rw [if_neg h6] at hF
    refine lv_iconst (v := 1) S.1 S.2.1 d_R_isNeighbour_9 (by decide) ?_
    refine lv_goto (tgt := 14) S.1 S.2.1 d_R_isNeighbour_10 (by decide) ?_
    cases hF
    exact zr_zret S hret hlk (by decide) hS d_R_isNeighbour_14 ⟨rfl, hP⟩

theorem d_D_updateAllBut_0 : decode b_D_updateAllBut 0 = .ok (.iconst 0, 1) := by decide +kernel
theorem d_D_updateAllBut_1 : decode b_D_updateAllBut 1 = .ok (.istore_n 3, 1) := by decide +kernel
theorem d_D_updateAllBut_2 : decode b_D_updateAllBut 2 = .ok (.iload_n 3, 1) := by decide +kernel
theorem d_D_updateAllBut_3 : decode b_D_updateAllBut 3 = .ok (.aload_n 0, 1) := by decide +kernel
theorem d_D_updateAllBut_4 : decode b_D_updateAllBut 4 = .ok (.getfield 18, 3) := by decide +kernel
theorem d_D_updateAllBut_7 : decode b_D_updateAllBut 7 = .ok (.if_icmp .ge 32, 3) := by decide +kernel
theorem d_D_updateAllBut_10 : decode b_D_updateAllBut 10 = .ok (.iload_n 3, 1) := by decide +kernel
theorem d_D_updateAllBut_11 : decode b_D_updateAllBut 11 = .ok (.iload_n 2, 1) := by decide +kernel
theorem d_D_updateAllBut_12 : decode b_D_updateAllBut 12 = .ok (.if_icmp .eq 21, 3) := by decide +kernel
theorem d_D_updateAllBut_15 : decode b_D_updateAllBut 15 = .ok (.aload_n 1, 1) := by decide +kernel
theorem d_D_updateAllBut_16 : decode b_D_updateAllBut 16 = .ok (.iload_n 3, 1) := by decide +kernel
theorem d_D_updateAllBut_17 : decode b_D_updateAllBut 17 = .ok (.invokevirtual 190, 3) := by decide +kernel
theorem d_D_updateAllBut_20 : decode b_D_updateAllBut 20 = .ok (.ifCond .eq 13, 3) := by decide +kernel
theorem d_D_updateAllBut_23 : decode b_D_updateAllBut 23 = .ok (.aload_n 0, 1) := by decide +kernel
theorem d_D_updateAllBut_24 : decode b_D_updateAllBut 24 = .ok (.getfield 39, 3) := by decide +kernel
theorem d_D_updateAllBut_27 : decode b_D_updateAllBut 27 = .ok (.aload_n 1, 1) := by decide +kernel
theorem d_D_updateAllBut_28 : decode b_D_updateAllBut 28 = .ok (.iload_n 3, 1) := by decide +kernel
theorem d_D_updateAllBut_29 : decode b_D_updateAllBut 29 = .ok (.iconst 0, 1) := by decide +kernel
theorem d_D_updateAllBut_30 : decode b_D_updateAllBut 30 = .ok (.invokevirtual 137, 3) := by decide +kernel
theorem d_D_updateAllBut_33 : decode b_D_updateAllBut 33 = .ok (.iinc 3 1, 3) := by decide +kernel
theorem d_D_updateAllBut_36 : decode b_D_updateAllBut 36 = .ok (.goto (-34), 3) := by decide +kernel
theorem d_D_updateAllBut_39 : decode b_D_updateAllBut 39 = .ok (.return_, 1) := by decide +kernel
def F_D_updateAllBut_L33 (n : Nat) (c2 : Nat → Int32 → Int32 → zS → Option (Int32 × zS)) (k1 : Nat) (v2 : Int32) (v3 : Int32) (st : zS) : Option (Int32 × zS) :=
    c2 k1 v2 (v3 + 1) st

def F_D_updateAllBut_L2_s2 (n : Nat) (c2 : Nat → Int32 → Int32 → zS → Option (Int32 × zS)) (k1 : Nat) (v2 : Int32) (v3 : Int32) (st : zS) : Option (Int32 × zS) :=
    F_D_updateAllBut_L33 n c2 k1 v2 v3 st

def F_D_updateAllBut_L2_s1 (n : Nat) (c2 : Nat → Int32 → Int32 → zS → Option (Int32 × zS)) (k1 : Nat) (v2 : Int32) (v3 : Int32) (t0 : Int32) (st : zS) : Option (Int32 × zS) :=
    if t0 = 0 then (F_D_updateAllBut_L33 n c2 k1 v2 v3 st) else ((F_L_send n k1 v3 0 st).bind (fun u => F_D_updateAllBut_L2_s2 n c2 k1 v2 v3 u.2))

def F_D_updateAllBut_L2 (n : Nat) : Nat → Nat → Int32 → Int32 → zS → Option (Int32 × zS)
  | 0, _, _, _, _ => none
  | f + 1, k1, v2, v3, st =>
    if (nI n) ≤ v3 then (some (0, st)) else (if v3 = v2 then (F_D_updateAllBut_L33 n (F_D_updateAllBut_L2 n f) k1 v2 v3 st) else ((F_R_isNeighbour n k1 v3 st).bind (fun u => F_D_updateAllBut_L2_s1 n (F_D_updateAllBut_L2 n f) k1 v2 v3 u.1 u.2)))

def F_D_updateAllBut (n : Nat) (k1 : Nat) (v2 : Int32) (st : zS) : Option (Int32 × zS) :=
    F_D_updateAllBut_L2 n zFuel k1 v2 0 st

set_option maxHeartbeats 4000000 in
set_option maxRecDepth 1000000 in
theorem T_D_updateAllBut_L33 {dC : Nat → ClassId} {dI : Nat → Nat → Nat} {cI cZ cR cA : ClassId} {n : Nat} {ad : zK → Nat} {A : Nat → Prop} (hn : 2 ≤ n ∧ n ≤ 6) (hD : zD A (zKs n) ad) {p : Program} {l : Launch} {e : Env} {s : State} {m : MethodId} {args : Array Value} {below : List Frame} {meth : Method} {c : Code} (S : CallFix p m c b_D_updateAllBut 4 s args zT N_D) (hret : meth.sig.returnType = none) (hlk : meth.locks = false) (hK : va_K (dC, dI) zcl (zty cI cZ cR cA) s) (out : Int32 × zS) (c2 : Nat → Int32 → Int32 → zS → Option (Int32 × zS)) (hc2 : ∀ (k1 : Nat) (v2 : Int32) (v3 : Int32) (hk1 : (7, k1) ∈ zKs n) (st : zS) (H : Heap) (locs : List Loc) (ls : Array Slot), zV (dC, dI) zcl (zKs n) ad (zcE n cI cZ cR cA ad) st H → va_S A s.heap H locs → lv_has ls 4 [(0, .ref (ad (0, 0))), (1, .ref (ad (7, k1))), (2, .int v2), (3, .int v3)] → c2 k1 v2 v3 st = some out → W p l e rm_D_updateAllBut s m args below meth c H locs 0 0 (zQ below A (fun o H => o = none ∧ zV (dC, dI) zcl (zKs n) ad (zcE n cI cZ cR cA ad) out.2 H) args s) (F0 m 2 ls [])) (k1 : Nat) (v2 : Int32) (v3 : Int32) (hk1 : (7, k1) ∈ zKs n) (st : zS) (H : Heap) (locs : List Loc) (ls : Array Slot) (hP : zV (dC, dI) zcl (zKs n) ad (zcE n cI cZ cR cA ad) st H) (hS : va_S A s.heap H locs) (hl : lv_has ls 4 [(0, .ref (ad (0, 0))), (1, .ref (ad (7, k1))), (2, .int v2), (3, .int v3)]) (hF : F_D_updateAllBut_L33 n c2 k1 v2 v3 st = some out) : W p l e rm_D_updateAllBut s m args below meth c H locs 0 0 (zQ below A (fun o H => o = none ∧ zV (dC, dI) zcl (zKs n) ad (zcE n cI cZ cR cA ad) out.2 H) args s) (F0 m 33 ls []) := by
  unfold F_D_updateAllBut_L33 at hF
  refine lv_iinc (k := 3) (v := v3 + 1) S.1 S.2.1 d_D_updateAllBut_33 hl rfl rfl (by decide) rfl (fun ls hl => ?_)
  have hl : lv_has ls 4 [(3, .int (v3 + 1)), (0, .ref (ad (0, 0))), (1, .ref (ad (7, k1))), (2, .int v2)] := hl
  refine lv_goto (tgt := 2) S.1 S.2.1 d_D_updateAllBut_36 (by decide) ?_
  exact hc2 k1 v2 (v3 + 1) hk1 st _ _ _ hP hS (lv_sub hl [1, 2, 3, 0] rfl) hF

set_option maxHeartbeats 4000000 in
set_option maxRecDepth 1000000 in
theorem T_D_updateAllBut_L2 {dC : Nat → ClassId} {dI : Nat → Nat → Nat} {cI cZ cR cA : ClassId} {n : Nat} {ad : zK → Nat} {A : Nat → Prop} (hn : 2 ≤ n ∧ n ≤ 6) (hD : zD A (zKs n) ad) {p : Program} {l : Launch} {e : Env} {s : State} {m : MethodId} {args : Array Value} {below : List Frame} {meth : Method} {c : Code} (S : CallFix p m c b_D_updateAllBut 4 s args zT N_D) (hret : meth.sig.returnType = none) (hlk : meth.locks = false) (hK : va_K (dC, dI) zcl (zty cI cZ cR cA) s) (out : Int32 × zS) : ∀ (fu : Nat) (k1 : Nat) (v2 : Int32) (v3 : Int32) (hk1 : (7, k1) ∈ zKs n) (st : zS) (H : Heap) (locs : List Loc) (ls : Array Slot) (hP : zV (dC, dI) zcl (zKs n) ad (zcE n cI cZ cR cA ad) st H) (hS : va_S A s.heap H locs) (hl : lv_has ls 4 [(0, .ref (ad (0, 0))), (1, .ref (ad (7, k1))), (2, .int v2), (3, .int v3)]) (hF : F_D_updateAllBut_L2 n fu k1 v2 v3 st = some out), W p l e rm_D_updateAllBut s m args below meth c H locs 0 0 (zQ below A (fun o H => o = none ∧ zV (dC, dI) zcl (zKs n) ad (zcE n cI cZ cR cA ad) out.2 H) args s) (F0 m 2 ls []) := by
  intro fu
  induction fu with
  | zero => intro k1 v2 v3 hk1 st H locs ls hP hS hl hF; rw [F_D_updateAllBut_L2] at hF; cases hF
  | succ f ih =>
    intro k1 v2 v3 hk1 st H locs ls hP hS hl hF
    rw [F_D_updateAllBut_L2] at hF
    refine lv_iload_n S.1 S.2.1 d_D_updateAllBut_2 rfl (lv_at hl 3 rfl) ?_
    refine lv_aload_n S.1 S.2.1 d_D_updateAllBut_3 rfl (lv_at hl 0 rfl) ?_
    refine zr_get (v := .int (nI n)) S zi_D hK hP zk_0 rfl rfl 0 (by decide) zx_8 rfl d_D_updateAllBut_4 ?_
    refine lv_icmp_ge (tgt := 39) S.1 S.2.1 d_D_updateAllBut_7 (by decide) (fun h7 => ?_) (fun h7 => ?_)
    · rw [if_pos h7] at hF
      cases hF
      exact zr_vret S hret hlk hS d_D_updateAllBut_39 ⟨rfl, hP⟩
    · rw [if_neg h7] at hF
      refine lv_iload_n S.1 S.2.1 d_D_updateAllBut_10 rfl (lv_at hl 3 rfl) ?_
      refine lv_iload_n S.1 S.2.1 d_D_updateAllBut_11 rfl (lv_at hl 2 rfl) ?_
      refine lv_icmp_eq (tgt := 33) S.1 S.2.1 d_D_updateAllBut_12 (by decide) (fun h12 => ?_) (fun h12 => ?_)
      · rw [if_pos h12] at hF
        exact T_D_updateAllBut_L33 hn hD S hret hlk hK out (F_D_updateAllBut_L2 n f) ih k1 v2 v3 hk1 st _ _ _ hP hS (lv_sub hl [0, 1, 2, 3] rfl) hF
      · rw [if_neg h12] at hF
        refine lv_aload_n S.1 S.2.1 d_D_updateAllBut_15 rfl (lv_at hl 1 rfl) ?_
        refine lv_iload_n S.1 S.2.1 d_D_updateAllBut_16 rfl (lv_at hl 3 rfl) ?_
        cases hc17 : F_R_isNeighbour n k1 v3 st with
        | none => rw [hc17] at hF; cases hF
        | some u17 =>
          obtain ⟨r17, st17⟩ := u17
          rw [hc17] at hF
          replace hF := zbind hF
          refine zr_callV (rest := []) S zT_good (C_R_isNeighbour hn hD l k1 v3 hk1 st (r17, st17) hc17) zn_R_isNeighbour zx_77 ⟨rfl, rfl⟩ ⟨Nat.le_of_ble_eq_true rfl, Nat.le_of_ble_eq_true rfl⟩ ⟨Nat.zero_le _, Nat.zero_le _⟩ hK (zr_recv hK hP hk1 rfl rfl) hP hl.1 (Nat.le_of_ble_eq_true rfl) hS (fun _ h => h) d_D_updateAllBut_17 rfl (fun o H locs hpo _ _ hS => ?_)
          obtain ⟨rfl, hP⟩ := hpo
          refine W.eq (g2 := F0 m 20 ls [.int r17]) rfl ?_
          replace hF : F_D_updateAllBut_L2_s1 n (F_D_updateAllBut_L2 n f) k1 v2 v3 r17 st17 = some out := hF
          replace hP : zV (dC, dI) zcl (zKs n) ad (zcE n cI cZ cR cA ad) st17 H := hP
          unfold F_D_updateAllBut_L2_s1 at hF
          refine lv_if_eq (tgt := 33) S.1 S.2.1 d_D_updateAllBut_20 (by decide) (fun h20 => ?_) (fun h20 => ?_)
          · rw [if_pos h20] at hF
            exact T_D_updateAllBut_L33 hn hD S hret hlk hK out (F_D_updateAllBut_L2 n f) ih k1 v2 v3 hk1 st17 _ _ _ hP hS (lv_sub hl [0, 1, 2, 3] rfl) hF
          · rw [if_neg h20] at hF
            refine lv_aload_n S.1 S.2.1 d_D_updateAllBut_23 rfl (lv_at hl 0 rfl) ?_
            refine zr_get (v := .ref (ad (3, 0))) S zi_D hK hP zk_0 rfl rfl 3 (by decide) zx_11 rfl d_D_updateAllBut_24 ?_
            refine lv_aload_n S.1 S.2.1 d_D_updateAllBut_27 rfl (lv_at hl 1 rfl) ?_
            refine lv_iload_n S.1 S.2.1 d_D_updateAllBut_28 rfl (lv_at hl 3 rfl) ?_
            refine lv_iconst (v := 0) S.1 S.2.1 d_D_updateAllBut_29 (by decide) ?_
            cases hc30 : F_L_send n k1 v3 0 st17 with
            | none => rw [hc30] at hF; cases hF
            | some u30 =>
              obtain ⟨r30, st30⟩ := u30
              rw [hc30] at hF
              replace hF := zbind hF
              refine zr_callV (rest := []) S zT_good (C_L_send hn hD l k1 v3 0 hk1 st17 (r30, st30) hc30) zn_L_send zx_60 ⟨rfl, rfl⟩ ⟨Nat.le_of_ble_eq_true rfl, Nat.le_of_ble_eq_true rfl⟩ ⟨Nat.zero_le _, Nat.zero_le _⟩ hK (zr_recv hK hP zk_3 rfl rfl) hP hl.1 (Nat.le_of_ble_eq_true rfl) hS (fun _ h => h) d_D_updateAllBut_30 rfl (fun o H locs hpo _ _ hS => ?_)
              obtain ⟨rfl, hP⟩ := hpo
              refine W.eq (g2 := F0 m 33 ls []) rfl ?_
              replace hF : F_D_updateAllBut_L2_s2 n (F_D_updateAllBut_L2 n f) k1 v2 v3 st30 = some out := hF
              replace hP : zV (dC, dI) zcl (zKs n) ad (zcE n cI cZ cR cA ad) st30 H := hP
              unfold F_D_updateAllBut_L2_s2 at hF
              exact T_D_updateAllBut_L33 hn hD S hret hlk hK out (F_D_updateAllBut_L2 n f) ih k1 v2 v3 hk1 st30 _ _ _ hP hS (lv_sub hl [0, 1, 2, 3] rfl) hF

set_option maxHeartbeats 4000000 in
set_option maxRecDepth 1000000 in
theorem C_D_updateAllBut {dC : Nat → ClassId} {dI : Nat → Nat → Nat} {cI cZ cR cA : ClassId} {n : Nat} {ad : zK → Nat} {A : Nat → Prop} (hn : 2 ≤ n ∧ n ≤ 6) (hD : zD A (zKs n) ad) (l : Launch) (k1 : Nat) (v2 : Int32) (hk1 : (7, k1) ∈ zKs n) (st : zS) (out : Int32 × zS) (hF : F_D_updateAllBut n k1 v2 st = some out) : zC zT (dC, dI) zcl (zty cI cZ cR cA) A l y_D_updateAllBut b_D_updateAllBut 4 (none) rm_D_updateAllBut [.ref (ad (0, 0)), .ref (ad (7, k1)), .int v2] (fun H => zV (dC, dI) zcl (zKs n) ad (zcE n cI cZ cR cA ad) st H) (fun o H => o = none ∧ zV (dC, dI) zcl (zKs n) ad (zcE n cI cZ cR cA ad) out.2 H) := by
  refine zC_of (by decide) (Nat.le_of_ble_eq_true rfl) (fun p e s m args below meth c ls S hret hlk hK hP hl => ?_)
  have hS : va_S A s.heap s.heap [] := va_S.rf
  have hl : lv_has ls 4 [(0, .ref (ad (0, 0))), (1, .ref (ad (7, k1))), (2, .int v2)] := hl
  have hP : zV (dC, dI) zcl (zKs n) ad (zcE n cI cZ cR cA ad) st s.heap := hP
  unfold F_D_updateAllBut at hF
  refine lv_iconst (v := 0) S.1 S.2.1 d_D_updateAllBut_0 (by decide) ?_
  refine lv_istore_n S.1 S.2.1 d_D_updateAllBut_1 rfl hl (by decide) rfl (fun ls hl => ?_)
  have hl : lv_has ls 4 [(3, .int 0), (0, .ref (ad (0, 0))), (1, .ref (ad (7, k1))), (2, .int v2)] := hl
  exact T_D_updateAllBut_L2 hn hD S hret hlk hK out zFuel k1 v2 0 hk1 st _ _ _ hP hS (lv_sub hl [1, 2, 3, 0] rfl) hF

theorem d_R_measureAnew_0 : decode b_R_measureAnew 0 = .ok (.aload_n 0, 1) := by decide +kernel
theorem d_R_measureAnew_1 : decode b_R_measureAnew 1 = .ok (.iconst 0, 1) := by decide +kernel
theorem d_R_measureAnew_2 : decode b_R_measureAnew 2 = .ok (.putfield 61, 3) := by decide +kernel
theorem d_R_measureAnew_5 : decode b_R_measureAnew 5 = .ok (.aload_n 0, 1) := by decide +kernel
theorem d_R_measureAnew_6 : decode b_R_measureAnew 6 = .ok (.aload_n 0, 1) := by decide +kernel
theorem d_R_measureAnew_7 : decode b_R_measureAnew 7 = .ok (.aload_n 0, 1) := by decide +kernel
theorem d_R_measureAnew_8 : decode b_R_measureAnew 8 = .ok (.getfield 41, 3) := by decide +kernel
theorem d_R_measureAnew_11 : decode b_R_measureAnew 11 = .ok (.invokevirtual 58, 3) := by decide +kernel
theorem d_R_measureAnew_14 : decode b_R_measureAnew 14 = .ok (.putfield 35, 3) := by decide +kernel
theorem d_R_measureAnew_17 : decode b_R_measureAnew 17 = .ok (.return_, 1) := by decide +kernel
def F_R_measureAnew_s3 (n : Nat) (st : zS) : Option (Int32 × zS) :=
    some (0, st)

def F_R_measureAnew_s2 (n : Nat) (u0 : Nat) (t1 : Int32) (st : zS) : Option (Int32 × zS) :=
    F_R_measureAnew_s3 n (zs st 7 u0 0 t1)

def F_R_measureAnew_s1 (n : Nat) (k0 : Nat) (st : zS) : Option (Int32 × zS) :=
    (F_R_through n k0 (st 7 k0 2) st).bind (fun u => F_R_measureAnew_s2 n k0 u.1 u.2)

def F_R_measureAnew (n : Nat) (k0 : Nat) (st : zS) : Option (Int32 × zS) :=
    F_R_measureAnew_s1 n k0 (zs st 7 k0 5 0)

set_option maxHeartbeats 4000000 in
set_option maxRecDepth 1000000 in
theorem C_R_measureAnew {dC : Nat → ClassId} {dI : Nat → Nat → Nat} {cI cZ cR cA : ClassId} {n : Nat} {ad : zK → Nat} {A : Nat → Prop} (hn : 2 ≤ n ∧ n ≤ 6) (hD : zD A (zKs n) ad) (l : Launch) (k0 : Nat) (hk0 : (7, k0) ∈ zKs n) (st : zS) (out : Int32 × zS) (hF : F_R_measureAnew n k0 st = some out) : zC zT (dC, dI) zcl (zty cI cZ cR cA) A l y_R_measureAnew b_R_measureAnew 1 (none) rm_R_measureAnew [.ref (ad (7, k0))] (fun H => zV (dC, dI) zcl (zKs n) ad (zcE n cI cZ cR cA ad) st H) (fun o H => o = none ∧ zV (dC, dI) zcl (zKs n) ad (zcE n cI cZ cR cA ad) out.2 H) := by
  refine zC_of (by decide) (Nat.le_of_ble_eq_true rfl) (fun p e s m args below meth c ls S hret hlk hK hP hl => ?_)
  have hS : va_S A s.heap s.heap [] := va_S.rf
  have hl : lv_has ls 1 [(0, .ref (ad (7, k0)))] := hl
  have hP : zV (dC, dI) zcl (zKs n) ad (zcE n cI cZ cR cA ad) st s.heap := hP
  unfold F_R_measureAnew at hF
  refine lv_aload_n S.1 S.2.1 d_R_measureAnew_0 rfl (lv_at hl 0 rfl) ?_
  refine lv_iconst (v := 0) S.1 S.2.1 d_R_measureAnew_1 (by decide) ?_
  refine zr_put (v := 0) S zi_R t_R t_R_ok n_R hK hP hD hS hk0 rfl rfl 10 (by decide) zx_49 rfl rfl rfl (Nat.le_of_ble_eq_true rfl) 5 rfl d_R_measureAnew_2 (fun H locs hP hS => ?_)
  replace hF : F_R_measureAnew_s1 n k0 (zs st 7 k0 5 0) = some out := hF
  generalize zs st 7 k0 5 0 = st5 at hP hF
  unfold F_R_measureAnew_s1 at hF
  refine lv_aload_n S.1 S.2.1 d_R_measureAnew_5 rfl (lv_at hl 0 rfl) ?_
  refine lv_aload_n S.1 S.2.1 d_R_measureAnew_6 rfl (lv_at hl 0 rfl) ?_
  refine lv_aload_n S.1 S.2.1 d_R_measureAnew_7 rfl (lv_at hl 0 rfl) ?_
  refine zr_get (v := .int (st5 7 k0 2)) S zi_R hK hP hk0 rfl rfl 7 (by decide) zx_48 rfl d_R_measureAnew_8 ?_
  cases hc11 : F_R_through n k0 (st5 7 k0 2) st5 with
  | none => rw [hc11] at hF; cases hF
  | some u11 =>
    obtain ⟨r11, st11⟩ := u11
    rw [hc11] at hF
    replace hF := zbind hF
    refine zr_callV (rest := [.ref (ad (7, k0))]) S zT_good (C_R_through hn hD l k0 (st5 7 k0 2) hk0 st5 (r11, st11) hc11) zn_R_through zx_119 ⟨rfl, rfl⟩ ⟨Nat.le_of_ble_eq_true rfl, Nat.le_of_ble_eq_true rfl⟩ ⟨Nat.zero_le _, Nat.zero_le _⟩ hK (zr_recv hK hP hk0 rfl rfl) hP hl.1 (Nat.le_of_ble_eq_true rfl) hS (fun _ h => h) d_R_measureAnew_11 rfl (fun o H locs hpo _ _ hS => ?_)
    obtain ⟨rfl, hP⟩ := hpo
    refine W.eq (g2 := F0 m 14 ls [.int r11, .ref (ad (7, k0))]) rfl ?_
    replace hF : F_R_measureAnew_s2 n k0 r11 st11 = some out := hF
    replace hP : zV (dC, dI) zcl (zKs n) ad (zcE n cI cZ cR cA ad) st11 H := hP
    unfold F_R_measureAnew_s2 at hF
    refine zr_put (v := r11) S zi_R t_R t_R_ok n_R hK hP hD hS hk0 rfl rfl 5 (by decide) zx_46 rfl rfl rfl (Nat.le_of_ble_eq_true rfl) 0 rfl d_R_measureAnew_14 (fun H locs hP hS => ?_)
    replace hF : F_R_measureAnew_s3 n (zs st11 7 k0 0 r11) = some out := hF
    generalize zs st11 7 k0 0 r11 = st17 at hP hF
    unfold F_R_measureAnew_s3 at hF
    cases hF
    exact zr_vret S hret hlk hS d_R_measureAnew_17 ⟨rfl, hP⟩

theorem d_D_askAll_0 : decode b_D_askAll 0 = .ok (.iconst 0, 1) := by decide +kernel
theorem d_D_askAll_1 : decode b_D_askAll 1 = .ok (.istore_n 2, 1) := by decide +kernel
theorem d_D_askAll_2 : decode b_D_askAll 2 = .ok (.iload_n 2, 1) := by decide +kernel
theorem d_D_askAll_3 : decode b_D_askAll 3 = .ok (.aload_n 0, 1) := by decide +kernel
theorem d_D_askAll_4 : decode b_D_askAll 4 = .ok (.getfield 18, 3) := by decide +kernel
theorem d_D_askAll_7 : decode b_D_askAll 7 = .ok (.if_icmp .ge 34, 3) := by decide +kernel
theorem d_D_askAll_10 : decode b_D_askAll 10 = .ok (.aload_n 1, 1) := by decide +kernel
theorem d_D_askAll_11 : decode b_D_askAll 11 = .ok (.iload_n 2, 1) := by decide +kernel
theorem d_D_askAll_12 : decode b_D_askAll 12 = .ok (.invokevirtual 190, 3) := by decide +kernel
theorem d_D_askAll_15 : decode b_D_askAll 15 = .ok (.ifCond .eq 20, 3) := by decide +kernel
theorem d_D_askAll_18 : decode b_D_askAll 18 = .ok (.aload_n 0, 1) := by decide +kernel
theorem d_D_askAll_19 : decode b_D_askAll 19 = .ok (.getfield 39, 3) := by decide +kernel
theorem d_D_askAll_22 : decode b_D_askAll 22 = .ok (.aload_n 1, 1) := by decide +kernel
theorem d_D_askAll_23 : decode b_D_askAll 23 = .ok (.iload_n 2, 1) := by decide +kernel
theorem d_D_askAll_24 : decode b_D_askAll 24 = .ok (.iconst 1, 1) := by decide +kernel
theorem d_D_askAll_25 : decode b_D_askAll 25 = .ok (.invokevirtual 137, 3) := by decide +kernel
theorem d_D_askAll_28 : decode b_D_askAll 28 = .ok (.aload_n 1, 1) := by decide +kernel
theorem d_D_askAll_29 : decode b_D_askAll 29 = .ok (.getfield 112, 3) := by decide +kernel
theorem d_D_askAll_32 : decode b_D_askAll 32 = .ok (.iload_n 2, 1) := by decide +kernel
theorem d_D_askAll_33 : decode b_D_askAll 33 = .ok (.iconst 1, 1) := by decide +kernel
theorem d_D_askAll_34 : decode b_D_askAll 34 = .ok (.bastore, 1) := by decide +kernel
theorem d_D_askAll_35 : decode b_D_askAll 35 = .ok (.iinc 2 1, 3) := by decide +kernel
theorem d_D_askAll_38 : decode b_D_askAll 38 = .ok (.goto (-36), 3) := by decide +kernel
theorem d_D_askAll_41 : decode b_D_askAll 41 = .ok (.return_, 1) := by decide +kernel
def F_D_askAll_L35 (n : Nat) (c2 : Nat → Int32 → zS → Option (Int32 × zS)) (k1 : Nat) (v2 : Int32) (st : zS) : Option (Int32 × zS) :=
    c2 k1 (v2 + 1) st

def F_D_askAll_L2_s3 (n : Nat) (c2 : Nat → Int32 → zS → Option (Int32 × zS)) (k1 : Nat) (v2 : Int32) (st : zS) : Option (Int32 × zS) :=
    F_D_askAll_L35 n c2 k1 v2 st

def F_D_askAll_L2_s2 (n : Nat) (c2 : Nat → Int32 → zS → Option (Int32 × zS)) (k1 : Nat) (v2 : Int32) (st : zS) : Option (Int32 × zS) :=
    if zOut v2 n then none else F_D_askAll_L2_s3 n c2 k1 v2 (zs st 9 k1 (Int32.toNatClampNeg v2) 1)

def F_D_askAll_L2_s1 (n : Nat) (c2 : Nat → Int32 → zS → Option (Int32 × zS)) (k1 : Nat) (v2 : Int32) (t0 : Int32) (st : zS) : Option (Int32 × zS) :=
    if t0 = 0 then (F_D_askAll_L35 n c2 k1 v2 st) else ((F_L_send n k1 v2 1 st).bind (fun u => F_D_askAll_L2_s2 n c2 k1 v2 u.2))

def F_D_askAll_L2 (n : Nat) : Nat → Nat → Int32 → zS → Option (Int32 × zS)
  | 0, _, _, _ => none
  | f + 1, k1, v2, st =>
    if (nI n) ≤ v2 then (some (0, st)) else ((F_R_isNeighbour n k1 v2 st).bind (fun u => F_D_askAll_L2_s1 n (F_D_askAll_L2 n f) k1 v2 u.1 u.2))

def F_D_askAll (n : Nat) (k1 : Nat) (st : zS) : Option (Int32 × zS) :=
    F_D_askAll_L2 n zFuel k1 0 st

set_option maxHeartbeats 4000000 in
set_option maxRecDepth 1000000 in
theorem T_D_askAll_L35 {dC : Nat → ClassId} {dI : Nat → Nat → Nat} {cI cZ cR cA : ClassId} {n : Nat} {ad : zK → Nat} {A : Nat → Prop} (hn : 2 ≤ n ∧ n ≤ 6) (hD : zD A (zKs n) ad) {p : Program} {l : Launch} {e : Env} {s : State} {m : MethodId} {args : Array Value} {below : List Frame} {meth : Method} {c : Code} (S : CallFix p m c b_D_askAll 3 s args zT N_D) (hret : meth.sig.returnType = none) (hlk : meth.locks = false) (hK : va_K (dC, dI) zcl (zty cI cZ cR cA) s) (out : Int32 × zS) (c2 : Nat → Int32 → zS → Option (Int32 × zS)) (hc2 : ∀ (k1 : Nat) (v2 : Int32) (hk1 : (7, k1) ∈ zKs n) (st : zS) (H : Heap) (locs : List Loc) (ls : Array Slot), zV (dC, dI) zcl (zKs n) ad (zcE n cI cZ cR cA ad) st H → va_S A s.heap H locs → lv_has ls 3 [(0, .ref (ad (0, 0))), (1, .ref (ad (7, k1))), (2, .int v2)] → c2 k1 v2 st = some out → W p l e rm_D_askAll s m args below meth c H locs 0 0 (zQ below A (fun o H => o = none ∧ zV (dC, dI) zcl (zKs n) ad (zcE n cI cZ cR cA ad) out.2 H) args s) (F0 m 2 ls [])) (k1 : Nat) (v2 : Int32) (hk1 : (7, k1) ∈ zKs n) (st : zS) (H : Heap) (locs : List Loc) (ls : Array Slot) (hP : zV (dC, dI) zcl (zKs n) ad (zcE n cI cZ cR cA ad) st H) (hS : va_S A s.heap H locs) (hl : lv_has ls 3 [(0, .ref (ad (0, 0))), (1, .ref (ad (7, k1))), (2, .int v2)]) (hF : F_D_askAll_L35 n c2 k1 v2 st = some out) : W p l e rm_D_askAll s m args below meth c H locs 0 0 (zQ below A (fun o H => o = none ∧ zV (dC, dI) zcl (zKs n) ad (zcE n cI cZ cR cA ad) out.2 H) args s) (F0 m 35 ls []) := by
  unfold F_D_askAll_L35 at hF
  refine lv_iinc (k := 2) (v := v2 + 1) S.1 S.2.1 d_D_askAll_35 hl rfl rfl (by decide) rfl (fun ls hl => ?_)
  have hl : lv_has ls 3 [(2, .int (v2 + 1)), (0, .ref (ad (0, 0))), (1, .ref (ad (7, k1)))] := hl
  refine lv_goto (tgt := 2) S.1 S.2.1 d_D_askAll_38 (by decide) ?_
  exact hc2 k1 (v2 + 1) hk1 st _ _ _ hP hS (lv_sub hl [1, 2, 0] rfl) hF

set_option maxHeartbeats 4000000 in
set_option maxRecDepth 1000000 in
theorem T_D_askAll_L2 {dC : Nat → ClassId} {dI : Nat → Nat → Nat} {cI cZ cR cA : ClassId} {n : Nat} {ad : zK → Nat} {A : Nat → Prop} (hn : 2 ≤ n ∧ n ≤ 6) (hD : zD A (zKs n) ad) {p : Program} {l : Launch} {e : Env} {s : State} {m : MethodId} {args : Array Value} {below : List Frame} {meth : Method} {c : Code} (S : CallFix p m c b_D_askAll 3 s args zT N_D) (hret : meth.sig.returnType = none) (hlk : meth.locks = false) (hK : va_K (dC, dI) zcl (zty cI cZ cR cA) s) (out : Int32 × zS) : ∀ (fu : Nat) (k1 : Nat) (v2 : Int32) (hk1 : (7, k1) ∈ zKs n) (st : zS) (H : Heap) (locs : List Loc) (ls : Array Slot) (hP : zV (dC, dI) zcl (zKs n) ad (zcE n cI cZ cR cA ad) st H) (hS : va_S A s.heap H locs) (hl : lv_has ls 3 [(0, .ref (ad (0, 0))), (1, .ref (ad (7, k1))), (2, .int v2)]) (hF : F_D_askAll_L2 n fu k1 v2 st = some out), W p l e rm_D_askAll s m args below meth c H locs 0 0 (zQ below A (fun o H => o = none ∧ zV (dC, dI) zcl (zKs n) ad (zcE n cI cZ cR cA ad) out.2 H) args s) (F0 m 2 ls []) := by
  intro fu
  induction fu with
  | zero => intro k1 v2 hk1 st H locs ls hP hS hl hF; rw [F_D_askAll_L2] at hF; cases hF
  | succ f ih =>
    intro k1 v2 hk1 st H locs ls hP hS hl hF
    rw [F_D_askAll_L2] at hF
    refine lv_iload_n S.1 S.2.1 d_D_askAll_2 rfl (lv_at hl 2 rfl) ?_
    refine lv_aload_n S.1 S.2.1 d_D_askAll_3 rfl (lv_at hl 0 rfl) ?_
    refine zr_get (v := .int (nI n)) S zi_D hK hP zk_0 rfl rfl 0 (by decide) zx_8 rfl d_D_askAll_4 ?_
    refine lv_icmp_ge (tgt := 41) S.1 S.2.1 d_D_askAll_7 (by decide) (fun h7 => ?_) (fun h7 => ?_)
    · rw [if_pos h7] at hF
      cases hF
      exact zr_vret S hret hlk hS d_D_askAll_41 ⟨rfl, hP⟩
    · rw [if_neg h7] at hF
      refine lv_aload_n S.1 S.2.1 d_D_askAll_10 rfl (lv_at hl 1 rfl) ?_
      refine lv_iload_n S.1 S.2.1 d_D_askAll_11 rfl (lv_at hl 2 rfl) ?_
      cases hc12 : F_R_isNeighbour n k1 v2 st with
      | none => rw [hc12] at hF; cases hF
      | some u12 =>
        obtain ⟨r12, st12⟩ := u12
        rw [hc12] at hF
        replace hF := zbind hF
        refine zr_callV (rest := []) S zT_good (C_R_isNeighbour hn hD l k1 v2 hk1 st (r12, st12) hc12) zn_R_isNeighbour zx_77 ⟨rfl, rfl⟩ ⟨Nat.le_of_ble_eq_true rfl, Nat.le_of_ble_eq_true rfl⟩ ⟨Nat.zero_le _, Nat.zero_le _⟩ hK (zr_recv hK hP hk1 rfl rfl) hP hl.1 (Nat.le_of_ble_eq_true rfl) hS (fun _ h => h) d_D_askAll_12 rfl (fun o H locs hpo _ _ hS => ?_)
        obtain ⟨rfl, hP⟩ := hpo
        refine W.eq (g2 := F0 m 15 ls [.int r12]) rfl ?_
        replace hF : F_D_askAll_L2_s1 n (F_D_askAll_L2 n f) k1 v2 r12 st12 = some out := hF
        replace hP : zV (dC, dI) zcl (zKs n) ad (zcE n cI cZ cR cA ad) st12 H := hP
        unfold F_D_askAll_L2_s1 at hF
        refine lv_if_eq (tgt := 35) S.1 S.2.1 d_D_askAll_15 (by decide) (fun h15 => ?_) (fun h15 => ?_)
        · rw [if_pos h15] at hF
          exact T_D_askAll_L35 hn hD S hret hlk hK out (F_D_askAll_L2 n f) ih k1 v2 hk1 st12 _ _ _ hP hS (lv_sub hl [0, 1, 2] rfl) hF
        · rw [if_neg h15] at hF
          refine lv_aload_n S.1 S.2.1 d_D_askAll_18 rfl (lv_at hl 0 rfl) ?_
          refine zr_get (v := .ref (ad (3, 0))) S zi_D hK hP zk_0 rfl rfl 3 (by decide) zx_11 rfl d_D_askAll_19 ?_
          refine lv_aload_n S.1 S.2.1 d_D_askAll_22 rfl (lv_at hl 1 rfl) ?_
          refine lv_iload_n S.1 S.2.1 d_D_askAll_23 rfl (lv_at hl 2 rfl) ?_
          refine lv_iconst (v := 1) S.1 S.2.1 d_D_askAll_24 (by decide) ?_
          cases hc25 : F_L_send n k1 v2 1 st12 with
          | none => rw [hc25] at hF; cases hF
          | some u25 =>
            obtain ⟨r25, st25⟩ := u25
            rw [hc25] at hF
            replace hF := zbind hF
            refine zr_callV (rest := []) S zT_good (C_L_send hn hD l k1 v2 1 hk1 st12 (r25, st25) hc25) zn_L_send zx_60 ⟨rfl, rfl⟩ ⟨Nat.le_of_ble_eq_true rfl, Nat.le_of_ble_eq_true rfl⟩ ⟨Nat.zero_le _, Nat.zero_le _⟩ hK (zr_recv hK hP zk_3 rfl rfl) hP hl.1 (Nat.le_of_ble_eq_true rfl) hS (fun _ h => h) d_D_askAll_25 rfl (fun o H locs hpo _ _ hS => ?_)
            obtain ⟨rfl, hP⟩ := hpo
            refine W.eq (g2 := F0 m 28 ls []) rfl ?_
            replace hF : F_D_askAll_L2_s2 n (F_D_askAll_L2 n f) k1 v2 st25 = some out := hF
            replace hP : zV (dC, dI) zcl (zKs n) ad (zcE n cI cZ cR cA ad) st25 H := hP
            unfold F_D_askAll_L2_s2 at hF
            refine lv_aload_n S.1 S.2.1 d_D_askAll_28 rfl (lv_at hl 1 rfl) ?_
            refine zr_get (v := .ref (ad (9, k1))) S zi_R hK hP hk1 rfl rfl 4 (by decide) zx_5 rfl d_D_askAll_29 ?_
            refine lv_iload_n S.1 S.2.1 d_D_askAll_32 rfl (lv_at hl 2 rfl) ?_
            refine lv_iconst (v := 1) S.1 S.2.1 d_D_askAll_33 (by decide) ?_
            by_cases g34 : zOut v2 n
            · rw [if_pos g34] at hF; cases hF
            rw [if_neg g34] at hF
            refine zr_zast S hK hP hD hS (zk_97 hk1) (fun _ => rfl) 1 rfl g34 (by decide) d_D_askAll_34 (fun H locs hP hS => ?_)
            replace hF : F_D_askAll_L2_s3 n (F_D_askAll_L2 n f) k1 v2 (zs st25 9 k1 (Int32.toNatClampNeg v2) 1) = some out := hF
            generalize zs st25 9 k1 (Int32.toNatClampNeg v2) 1 = st35 at hP hF
            unfold F_D_askAll_L2_s3 at hF
            exact T_D_askAll_L35 hn hD S hret hlk hK out (F_D_askAll_L2 n f) ih k1 v2 hk1 st35 _ _ _ hP hS (lv_sub hl [0, 1, 2] rfl) hF

set_option maxHeartbeats 4000000 in
set_option maxRecDepth 1000000 in
theorem C_D_askAll {dC : Nat → ClassId} {dI : Nat → Nat → Nat} {cI cZ cR cA : ClassId} {n : Nat} {ad : zK → Nat} {A : Nat → Prop} (hn : 2 ≤ n ∧ n ≤ 6) (hD : zD A (zKs n) ad) (l : Launch) (k1 : Nat) (hk1 : (7, k1) ∈ zKs n) (st : zS) (out : Int32 × zS) (hF : F_D_askAll n k1 st = some out) : zC zT (dC, dI) zcl (zty cI cZ cR cA) A l y_D_askAll b_D_askAll 3 (none) rm_D_askAll [.ref (ad (0, 0)), .ref (ad (7, k1))] (fun H => zV (dC, dI) zcl (zKs n) ad (zcE n cI cZ cR cA ad) st H) (fun o H => o = none ∧ zV (dC, dI) zcl (zKs n) ad (zcE n cI cZ cR cA ad) out.2 H) := by
  refine zC_of (by decide) (Nat.le_of_ble_eq_true rfl) (fun p e s m args below meth c ls S hret hlk hK hP hl => ?_)
  have hS : va_S A s.heap s.heap [] := va_S.rf
  have hl : lv_has ls 3 [(0, .ref (ad (0, 0))), (1, .ref (ad (7, k1)))] := hl
  have hP : zV (dC, dI) zcl (zKs n) ad (zcE n cI cZ cR cA ad) st s.heap := hP
  unfold F_D_askAll at hF
  refine lv_iconst (v := 0) S.1 S.2.1 d_D_askAll_0 (by decide) ?_
  refine lv_istore_n S.1 S.2.1 d_D_askAll_1 rfl hl (by decide) rfl (fun ls hl => ?_)
  have hl : lv_has ls 3 [(2, .int 0), (0, .ref (ad (0, 0))), (1, .ref (ad (7, k1)))] := hl
  exact T_D_askAll_L2 hn hD S hret hlk hK out zFuel k1 0 hk1 st _ _ _ hP hS (lv_sub hl [1, 2, 0] rfl) hF

