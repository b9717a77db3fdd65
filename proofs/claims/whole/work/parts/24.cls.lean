theorem d_L_drop_0 : decode b_L_drop 0 = .ok (.aload_n 0, 1) := by decide +kernel
theorem d_L_drop_1 : decode b_L_drop 1 = .ok (.getfield 22, 3) := by decide +kernel
theorem d_L_drop_4 : decode b_L_drop 4 = .ok (.istore_n 3, 1) := by decide +kernel
theorem d_L_drop_5 : decode b_L_drop 5 = .ok (.aload_n 0, 1) := by decide +kernel
theorem d_L_drop_6 : decode b_L_drop 6 = .ok (.getfield 22, 3) := by decide +kernel
theorem d_L_drop_9 : decode b_L_drop 9 = .ok (.istore 4, 2) := by decide +kernel
theorem d_L_drop_11 : decode b_L_drop 11 = .ok (.iload 4, 2) := by decide +kernel
theorem d_L_drop_13 : decode b_L_drop 13 = .ok (.aload_n 0, 1) := by decide +kernel
theorem d_L_drop_14 : decode b_L_drop 14 = .ok (.getfield 18, 3) := by decide +kernel
theorem d_L_drop_17 : decode b_L_drop 17 = .ok (.if_icmp .ge 36, 3) := by decide +kernel
theorem d_L_drop_20 : decode b_L_drop 20 = .ok (.aload_n 0, 1) := by decide +kernel
theorem d_L_drop_21 : decode b_L_drop 21 = .ok (.iload 4, 2) := by decide +kernel
theorem d_L_drop_23 : decode b_L_drop 23 = .ok (.iload_n 1, 1) := by decide +kernel
theorem d_L_drop_24 : decode b_L_drop 24 = .ok (.iload_n 2, 1) := by decide +kernel
theorem d_L_drop_25 : decode b_L_drop 25 = .ok (.invokevirtual 53, 3) := by decide +kernel
theorem d_L_drop_28 : decode b_L_drop 28 = .ok (.ifCond .ne 19, 3) := by decide +kernel
theorem d_L_drop_31 : decode b_L_drop 31 = .ok (.aload_n 0, 1) := by decide +kernel
theorem d_L_drop_32 : decode b_L_drop 32 = .ok (.getfield 11, 3) := by decide +kernel
theorem d_L_drop_35 : decode b_L_drop 35 = .ok (.iload_n 3, 1) := by decide +kernel
theorem d_L_drop_36 : decode b_L_drop 36 = .ok (.aload_n 0, 1) := by decide +kernel
theorem d_L_drop_37 : decode b_L_drop 37 = .ok (.getfield 11, 3) := by decide +kernel
theorem d_L_drop_40 : decode b_L_drop 40 = .ok (.iload 4, 2) := by decide +kernel
theorem d_L_drop_42 : decode b_L_drop 42 = .ok (.iaload, 1) := by decide +kernel
theorem d_L_drop_43 : decode b_L_drop 43 = .ok (.iastore, 1) := by decide +kernel
theorem d_L_drop_44 : decode b_L_drop 44 = .ok (.iinc 3 1, 3) := by decide +kernel
theorem d_L_drop_47 : decode b_L_drop 47 = .ok (.iinc 4 1, 3) := by decide +kernel
theorem d_L_drop_50 : decode b_L_drop 50 = .ok (.goto (-39), 3) := by decide +kernel
theorem d_L_drop_53 : decode b_L_drop 53 = .ok (.aload_n 0, 1) := by decide +kernel
theorem d_L_drop_54 : decode b_L_drop 54 = .ok (.getfield 18, 3) := by decide +kernel
theorem d_L_drop_57 : decode b_L_drop 57 = .ok (.iload_n 3, 1) := by decide +kernel
theorem d_L_drop_58 : decode b_L_drop 58 = .ok (.isub, 1) := by decide +kernel
theorem d_L_drop_59 : decode b_L_drop 59 = .ok (.istore 4, 2) := by decide +kernel
theorem d_L_drop_61 : decode b_L_drop 61 = .ok (.aload_n 0, 1) := by decide +kernel
theorem d_L_drop_62 : decode b_L_drop 62 = .ok (.iload_n 3, 1) := by decide +kernel
theorem d_L_drop_63 : decode b_L_drop 63 = .ok (.putfield 18, 3) := by decide +kernel
theorem d_L_drop_66 : decode b_L_drop 66 = .ok (.iload 4, 2) := by decide +kernel
theorem d_L_drop_68 : decode b_L_drop 68 = .ok (.ireturn, 1) := by decide +kernel
def F_L_drop_L47 (n : Nat) (c11 : Int32 → Int32 → Int32 → Int32 → zS → Option (Int32 × zS)) (v1 : Int32) (v2 : Int32) (v3 : Int32) (v4 : Int32) (st : zS) : Option (Int32 × zS) :=
    c11 v1 v2 v3 (v4 + 1) st

def F_L_drop_L11_s1 (n : Nat) (c11 : Int32 → Int32 → Int32 → Int32 → zS → Option (Int32 × zS)) (v4 : Int32) (st : zS) : Option (Int32 × zS) :=
    some (v4, st)

def F_L_drop_L11_s3 (n : Nat) (c11 : Int32 → Int32 → Int32 → Int32 → zS → Option (Int32 × zS)) (v1 : Int32) (v2 : Int32) (v3 : Int32) (v4 : Int32) (st : zS) : Option (Int32 × zS) :=
    F_L_drop_L47 n c11 v1 v2 (v3 + 1) v4 st

def F_L_drop_L11_s2 (n : Nat) (c11 : Int32 → Int32 → Int32 → Int32 → zS → Option (Int32 × zS)) (v1 : Int32) (v2 : Int32) (v3 : Int32) (v4 : Int32) (t0 : Int32) (st : zS) : Option (Int32 × zS) :=
    if t0 = 0 then (if zOut v4 1024 then none else if zOut v3 1024 then none else F_L_drop_L11_s3 n c11 v1 v2 v3 v4 (zs st 4 0 (Int32.toNatClampNeg v3) (st 4 0 (Int32.toNatClampNeg v4)))) else (F_L_drop_L47 n c11 v1 v2 v3 v4 st)

def F_L_drop_L11 (n : Nat) : Nat → Int32 → Int32 → Int32 → Int32 → zS → Option (Int32 × zS)
  | 0, _, _, _, _, _ => none
  | f + 1, v1, v2, v3, v4, st =>
    if (st 3 0 1) ≤ v4 then (F_L_drop_L11_s1 n (F_L_drop_L11 n f) ((st 3 0 1) - v3) (zs st 3 0 1 v3)) else ((F_L_isFromTo n v4 v1 v2 st).bind (fun u => F_L_drop_L11_s2 n (F_L_drop_L11 n f) v1 v2 v3 v4 u.1 u.2))

def F_L_drop (n : Nat) (v1 : Int32) (v2 : Int32) (st : zS) : Option (Int32 × zS) :=
    F_L_drop_L11 n zFuel v1 v2 (st 3 0 0) (st 3 0 0) st

set_option maxHeartbeats 4000000 in
set_option maxRecDepth 1000000 in
theorem T_L_drop_L47 {dC : Nat → ClassId} {dI : Nat → Nat → Nat} {cI cZ cR cA : ClassId} {n : Nat} {ad : zK → Nat} {A : Nat → Prop} (hn : 2 ≤ n ∧ n ≤ 6) (hD : zD A (zKs n) ad) {p : Program} {l : Launch} {e : Env} {s : State} {m : MethodId} {args : Array Value} {below : List Frame} {meth : Method} {c : Code} (S : CallFix p m c b_L_drop 5 s args zT N_L) (hret : meth.sig.returnType = some .int) (hlk : meth.locks = false) (hK : va_K (dC, dI) zcl (zty cI cZ cR cA) s) (out : Int32 × zS) (c11 : Int32 → Int32 → Int32 → Int32 → zS → Option (Int32 × zS)) (hc11 : ∀ (v1 : Int32) (v2 : Int32) (v3 : Int32) (v4 : Int32) (st : zS) (H : Heap) (locs : List Loc) (ls : Array Slot), zV (dC, dI) zcl (zKs n) ad (zcE n cI cZ cR cA ad) st H → va_S A s.heap H locs → lv_has ls 5 [(0, .ref (ad (3, 0))), (1, .int v1), (2, .int v2), (3, .int v3), (4, .int v4)] → c11 v1 v2 v3 v4 st = some out → W p l e rm_L_drop s m args below meth c H locs 0 0 (zQ below A (fun o H => o = some (.int out.1) ∧ zV (dC, dI) zcl (zKs n) ad (zcE n cI cZ cR cA ad) out.2 H) args s) (F0 m 11 ls [])) (v1 : Int32) (v2 : Int32) (v3 : Int32) (v4 : Int32) (st : zS) (H : Heap) (locs : List Loc) (ls : Array Slot) (hP : zV (dC, dI) zcl (zKs n) ad (zcE n cI cZ cR cA ad) st H) (hS : va_S A s.heap H locs) (hl : lv_has ls 5 [(0, .ref (ad (3, 0))), (1, .int v1), (2, .int v2), (3, .int v3), (4, .int v4)]) (hF : F_L_drop_L47 n c11 v1 v2 v3 v4 st = some out) : W p l e rm_L_drop s m args below meth c H locs 0 0 (zQ below A (fun o H => o = some (.int out.1) ∧ zV (dC, dI) zcl (zKs n) ad (zcE n cI cZ cR cA ad) out.2 H) args s) (F0 m 47 ls []) := by
  unfold F_L_drop_L47 at hF
  refine lv_iinc (k := 4) (v := v4 + 1) S.1 S.2.1 d_L_drop_47 hl rfl rfl (by decide) rfl (fun ls hl => ?_)
  have hl : lv_has ls 5 [(4, .int (v4 + 1)), (0, .ref (ad (3, 0))), (1, .int v1), (2, .int v2), (3, .int v3)] := hl
  refine lv_goto (tgt := 11) S.1 S.2.1 d_L_drop_50 (by decide) ?_
  exact hc11 v1 v2 v3 (v4 + 1) st _ _ _ hP hS (lv_sub hl [1, 2, 3, 4, 0] rfl) hF

set_option maxHeartbeats 4000000 in
set_option maxRecDepth 1000000 in
theorem T_L_drop_L11 {dC : Nat → ClassId} {dI : Nat → Nat → Nat} {cI cZ cR cA : ClassId} {n : Nat} {ad : zK → Nat} {A : Nat → Prop} (hn : 2 ≤ n ∧ n ≤ 6) (hD : zD A (zKs n) ad) {p : Program} {l : Launch} {e : Env} {s : State} {m : MethodId} {args : Array Value} {below : List Frame} {meth : Method} {c : Code} (S : CallFix p m c b_L_drop 5 s args zT N_L) (hret : meth.sig.returnType = some .int) (hlk : meth.locks = false) (hK : va_K (dC, dI) zcl (zty cI cZ cR cA) s) (out : Int32 × zS) : ∀ (fu : Nat) (v1 : Int32) (v2 : Int32) (v3 : Int32) (v4 : Int32) (st : zS) (H : Heap) (locs : List Loc) (ls : Array Slot) (hP : zV (dC, dI) zcl (zKs n) ad (zcE n cI cZ cR cA ad) st H) (hS : va_S A s.heap H locs) (hl : lv_has ls 5 [(0, .ref (ad (3, 0))), (1, .int v1), (2, .int v2), (3, .int v3), (4, .int v4)]) (hF : F_L_drop_L11 n fu v1 v2 v3 v4 st = some out), W p l e rm_L_drop s m args below meth c H locs 0 0 (zQ below A (fun o H => o = some (.int out.1) ∧ zV (dC, dI) zcl (zKs n) ad (zcE n cI cZ cR cA ad) out.2 H) args s) (F0 m 11 ls []) := by
  intro fu
  induction fu with
  | zero => intro v1 v2 v3 v4 st H locs ls hP hS hl hF; rw [F_L_drop_L11] at hF; cases hF
  | succ f ih =>
    intro v1 v2 v3 v4 st H locs ls hP hS hl hF
    rw [F_L_drop_L11] at hF
    refine lv_iload S.1 S.2.1 d_L_drop_11 (lv_at hl 4 rfl) ?_
    refine lv_aload_n S.1 S.2.1 d_L_drop_13 rfl (lv_at hl 0 rfl) ?_
    refine zr_get (v := .int (st 3 0 1)) S zi_L hK hP zk_3 rfl rfl 3 (by decide) zx_20 rfl d_L_drop_14 ?_
    refine lv_icmp_ge (tgt := 53) S.1 S.2.1 d_L_drop_17 (by decide) (fun h17 => ?_) (fun h17 => ?_)
    · rw [if_pos h17] at hF
      refine lv_aload_n S.1 S.2.1 d_L_drop_53 rfl (lv_at hl 0 rfl) ?_
      refine zr_get (v := .int (st 3 0 1)) S zi_L hK hP zk_3 rfl rfl 3 (by decide) zx_20 rfl d_L_drop_54 ?_
      refine lv_iload_n S.1 S.2.1 d_L_drop_57 rfl (lv_at hl 3 rfl) ?_
      refine lv_isub S.1 S.2.1 d_L_drop_58 ?_
      refine lv_istore S.1 S.2.1 d_L_drop_59 hl (by decide) rfl (fun ls hl => ?_)
      have hl : lv_has ls 5 [(4, .int ((st 3 0 1) - v3)), (0, .ref (ad (3, 0))), (1, .int v1), (2, .int v2), (3, .int v3)] := hl
      refine lv_aload_n S.1 S.2.1 d_L_drop_61 rfl (lv_at hl 1 rfl) ?_
      refine lv_iload_n S.1 S.2.1 d_L_drop_62 rfl (lv_at hl 4 rfl) ?_
      refine zr_put (v := v3) S zi_L t_L t_L_ok n_L hK hP hD hS zk_3 rfl rfl 3 (by decide) zx_20 rfl rfl rfl (Nat.le_of_ble_eq_true rfl) 1 rfl d_L_drop_63 (fun H locs hP hS => ?_)
      replace hF : F_L_drop_L11_s1 n (F_L_drop_L11 n f) ((st 3 0 1) - v3) (zs st 3 0 1 v3) = some out := hF
      generalize zs st 3 0 1 v3 = st66 at hP hF
      unfold F_L_drop_L11_s1 at hF
      refine lv_iload S.1 S.2.1 d_L_drop_66 (lv_at hl 0 rfl) ?_
      cases hF
      exact zr_iret S hret hlk hS d_L_drop_68 ⟨rfl, hP⟩
    · rw [if_neg h17] at hF
      refine lv_aload_n S.1 S.2.1 d_L_drop_20 rfl (lv_at hl 0 rfl) ?_
      refine lv_iload S.1 S.2.1 d_L_drop_21 (lv_at hl 4 rfl) ?_
      refine lv_iload_n S.1 S.2.1 d_L_drop_23 rfl (lv_at hl 1 rfl) ?_
      refine lv_iload_n S.1 S.2.1 d_L_drop_24 rfl (lv_at hl 2 rfl) ?_
      cases hc25 : F_L_isFromTo n v4 v1 v2 st with
      | none => rw [hc25] at hF; cases hF
      | some u25 =>
        obtain ⟨r25, st25⟩ := u25
        rw [hc25] at hF
        replace hF := zbind hF
        refine zr_callV (rest := []) S zT_good (C_L_isFromTo hn hD l v4 v1 v2 st (r25, st25) hc25) zn_L_isFromTo zx_94 ⟨rfl, rfl⟩ ⟨Nat.le_of_ble_eq_true rfl, Nat.le_of_ble_eq_true rfl⟩ ⟨Nat.zero_le _, Nat.zero_le _⟩ hK (zr_recv hK hP zk_3 rfl rfl) hP hl.1 (Nat.le_of_ble_eq_true rfl) hS (fun _ h => h) d_L_drop_25 rfl (fun o H locs hpo _ _ hS => ?_)
        obtain ⟨rfl, hP⟩ := hpo
        refine W.eq (g2 := F0 m 28 ls [.int r25]) rfl ?_
        replace hF : F_L_drop_L11_s2 n (F_L_drop_L11 n f) v1 v2 v3 v4 r25 st25 = some out := hF
        replace hP : zV (dC, dI) zcl (zKs n) ad (zcE n cI cZ cR cA ad) st25 H := hP
        unfold F_L_drop_L11_s2 at hF
        refine lv_if_ne (tgt := 47) S.1 S.2.1 d_L_drop_28 (by decide) (fun h28 => ?_) (fun h28 => ?_)
        · rw [if_neg h28] at hF
          exact T_L_drop_L47 hn hD S hret hlk hK out (F_L_drop_L11 n f) ih v1 v2 v3 v4 st25 _ _ _ hP hS (lv_sub hl [0, 1, 2, 3, 4] rfl) hF
        · rw [if_pos h28] at hF
          refine lv_aload_n S.1 S.2.1 d_L_drop_31 rfl (lv_at hl 0 rfl) ?_
          refine zr_get (v := .ref (ad (4, 0))) S zi_L hK hP zk_3 rfl rfl 0 (by decide) zx_18 rfl d_L_drop_32 ?_
          refine lv_iload_n S.1 S.2.1 d_L_drop_35 rfl (lv_at hl 3 rfl) ?_
          refine lv_aload_n S.1 S.2.1 d_L_drop_36 rfl (lv_at hl 0 rfl) ?_
          refine zr_get (v := .ref (ad (4, 0))) S zi_L hK hP zk_3 rfl rfl 0 (by decide) zx_18 rfl d_L_drop_37 ?_
          refine lv_iload S.1 S.2.1 d_L_drop_40 (lv_at hl 4 rfl) ?_
          by_cases g42 : zOut v4 1024
          · rw [if_pos g42] at hF; cases hF
          rw [if_neg g42] at hF
          refine zr_iald S hK hP zk_4 rfl 0 rfl g42 d_L_drop_42 ?_
          by_cases g43 : zOut v3 1024
          · rw [if_pos g43] at hF; cases hF
          rw [if_neg g43] at hF
          refine zr_iast S hK hP hD hS zk_4 (fun _ => rfl) 0 rfl g43 d_L_drop_43 (fun H locs hP hS => ?_)
          replace hF : F_L_drop_L11_s3 n (F_L_drop_L11 n f) v1 v2 v3 v4 (zs st25 4 0 (Int32.toNatClampNeg v3) (st25 4 0 (Int32.toNatClampNeg v4))) = some out := hF
          generalize zs st25 4 0 (Int32.toNatClampNeg v3) (st25 4 0 (Int32.toNatClampNeg v4)) = st44 at hP hF
          unfold F_L_drop_L11_s3 at hF
          refine lv_iinc (k := 3) (v := v3 + 1) S.1 S.2.1 d_L_drop_44 hl rfl rfl (by decide) rfl (fun ls hl => ?_)
          have hl : lv_has ls 5 [(3, .int (v3 + 1)), (0, .ref (ad (3, 0))), (1, .int v1), (2, .int v2), (4, .int v4)] := hl
          exact T_L_drop_L47 hn hD S hret hlk hK out (F_L_drop_L11 n f) ih v1 v2 (v3 + 1) v4 st44 _ _ _ hP hS (lv_sub hl [1, 2, 3, 0, 4] rfl) hF

set_option maxHeartbeats 4000000 in
set_option maxRecDepth 1000000 in
theorem C_L_drop {dC : Nat → ClassId} {dI : Nat → Nat → Nat} {cI cZ cR cA : ClassId} {n : Nat} {ad : zK → Nat} {A : Nat → Prop} (hn : 2 ≤ n ∧ n ≤ 6) (hD : zD A (zKs n) ad) (l : Launch) (v1 : Int32) (v2 : Int32) (st : zS) (out : Int32 × zS) (hF : F_L_drop n v1 v2 st = some out) : zC zT (dC, dI) zcl (zty cI cZ cR cA) A l y_L_drop b_L_drop 5 (some .int) rm_L_drop [.ref (ad (3, 0)), .int v1, .int v2] (fun H => zV (dC, dI) zcl (zKs n) ad (zcE n cI cZ cR cA ad) st H) (fun o H => o = some (.int out.1) ∧ zV (dC, dI) zcl (zKs n) ad (zcE n cI cZ cR cA ad) out.2 H) := by
  refine zC_of (by decide) (Nat.le_of_ble_eq_true rfl) (fun p e s m args below meth c ls S hret hlk hK hP hl => ?_)
  have hS : va_S A s.heap s.heap [] := va_S.rf
  have hl : lv_has ls 5 [(0, .ref (ad (3, 0))), (1, .int v1), (2, .int v2)] := hl
  have hP : zV (dC, dI) zcl (zKs n) ad (zcE n cI cZ cR cA ad) st s.heap := hP
  unfold F_L_drop at hF
  refine lv_aload_n S.1 S.2.1 d_L_drop_0 rfl (lv_at hl 0 rfl) ?_
  refine zr_get (v := .int (st 3 0 0)) S zi_L hK hP zk_3 rfl rfl 2 (by decide) zx_21 rfl d_L_drop_1 ?_
  refine lv_istore_n S.1 S.2.1 d_L_drop_4 rfl hl (by decide) rfl (fun ls hl => ?_)
  have hl : lv_has ls 5 [(3, .int (st 3 0 0)), (0, .ref (ad (3, 0))), (1, .int v1), (2, .int v2)] := hl
  refine lv_aload_n S.1 S.2.1 d_L_drop_5 rfl (lv_at hl 1 rfl) ?_
  refine zr_get (v := .int (st 3 0 0)) S zi_L hK hP zk_3 rfl rfl 2 (by decide) zx_21 rfl d_L_drop_6 ?_
  refine lv_istore S.1 S.2.1 d_L_drop_9 hl (by decide) rfl (fun ls hl => ?_)
  have hl : lv_has ls 5 [(4, .int (st 3 0 0)), (3, .int (st 3 0 0)), (0, .ref (ad (3, 0))), (1, .int v1), (2, .int v2)] := hl
  exact T_L_drop_L11 hn hD S hret hlk hK out zFuel v1 v2 (st 3 0 0) (st 3 0 0) st _ _ _ hP hS (lv_sub hl [2, 3, 4, 1, 0] rfl) hF

theorem d_R_forget_0 : decode b_R_forget 0 = .ok (.aload_n 0, 1) := by decide +kernel
theorem d_R_forget_1 : decode b_R_forget 1 = .ok (.getfield 22, 3) := by decide +kernel
theorem d_R_forget_4 : decode b_R_forget 4 = .ok (.iload_n 1, 1) := by decide +kernel
theorem d_R_forget_5 : decode b_R_forget 5 = .ok (.sipush 10000, 3) := by decide +kernel
theorem d_R_forget_8 : decode b_R_forget 8 = .ok (.iastore, 1) := by decide +kernel
theorem d_R_forget_9 : decode b_R_forget 9 = .ok (.aload_n 0, 1) := by decide +kernel
theorem d_R_forget_10 : decode b_R_forget 10 = .ok (.getfield 31, 3) := by decide +kernel
theorem d_R_forget_13 : decode b_R_forget 13 = .ok (.iload_n 1, 1) := by decide +kernel
theorem d_R_forget_14 : decode b_R_forget 14 = .ok (.iconst 0, 1) := by decide +kernel
theorem d_R_forget_15 : decode b_R_forget 15 = .ok (.bastore, 1) := by decide +kernel
theorem d_R_forget_16 : decode b_R_forget 16 = .ok (.iload_n 1, 1) := by decide +kernel
theorem d_R_forget_17 : decode b_R_forget 17 = .ok (.aload_n 0, 1) := by decide +kernel
theorem d_R_forget_18 : decode b_R_forget 18 = .ok (.getfield 41, 3) := by decide +kernel
theorem d_R_forget_21 : decode b_R_forget 21 = .ok (.if_icmp .eq 4, 3) := by decide +kernel
theorem d_R_forget_24 : decode b_R_forget 24 = .ok (.return_, 1) := by decide +kernel
theorem d_R_forget_25 : decode b_R_forget 25 = .ok (.aload_n 0, 1) := by decide +kernel
theorem d_R_forget_26 : decode b_R_forget 26 = .ok (.iconst (-1), 1) := by decide +kernel
theorem d_R_forget_27 : decode b_R_forget 27 = .ok (.putfield 41, 3) := by decide +kernel
theorem d_R_forget_30 : decode b_R_forget 30 = .ok (.aload_n 0, 1) := by decide +kernel
theorem d_R_forget_31 : decode b_R_forget 31 = .ok (.getfield 65, 3) := by decide +kernel
theorem d_R_forget_34 : decode b_R_forget 34 = .ok (.ifCond .eq 34, 3) := by decide +kernel
theorem d_R_forget_37 : decode b_R_forget 37 = .ok (.aload_n 0, 1) := by decide +kernel
theorem d_R_forget_38 : decode b_R_forget 38 = .ok (.iconst 0, 1) := by decide +kernel
theorem d_R_forget_39 : decode b_R_forget 39 = .ok (.putfield 68, 3) := by decide +kernel
theorem d_R_forget_42 : decode b_R_forget 42 = .ok (.aload_n 0, 1) := by decide +kernel
theorem d_R_forget_43 : decode b_R_forget 43 = .ok (.aload_n 0, 1) := by decide +kernel
theorem d_R_forget_44 : decode b_R_forget 44 = .ok (.getfield 61, 3) := by decide +kernel
theorem d_R_forget_47 : decode b_R_forget 47 = .ok (.ifCond .ne 13, 3) := by decide +kernel
theorem d_R_forget_50 : decode b_R_forget 50 = .ok (.aload_n 0, 1) := by decide +kernel
theorem d_R_forget_51 : decode b_R_forget 51 = .ok (.getfield 35, 3) := by decide +kernel
theorem d_R_forget_54 : decode b_R_forget 54 = .ok (.sipush 10000, 3) := by decide +kernel
theorem d_R_forget_57 : decode b_R_forget 57 = .ok (.if_icmp .eq 7, 3) := by decide +kernel
theorem d_R_forget_60 : decode b_R_forget 60 = .ok (.iconst 1, 1) := by decide +kernel
theorem d_R_forget_61 : decode b_R_forget 61 = .ok (.goto 4, 3) := by decide +kernel
theorem d_R_forget_64 : decode b_R_forget 64 = .ok (.iconst 0, 1) := by decide +kernel
theorem d_R_forget_65 : decode b_R_forget 65 = .ok (.putfield 61, 3) := by decide +kernel
theorem d_R_forget_68 : decode b_R_forget 68 = .ok (.return_, 1) := by decide +kernel
def F_R_forget_L65_s1 (n : Nat) (st : zS) : Option (Int32 × zS) :=
    some (0, st)

def F_R_forget_L65 (n : Nat) (u0 : Nat) (t1 : Int32) (st : zS) : Option (Int32 × zS) :=
    if ¬ (t1 = 0 ∨ t1 = 1) then none else F_R_forget_L65_s1 n (zs st 7 u0 5 t1)

def F_R_forget_L60 (n : Nat) (u0 : Nat) (st : zS) : Option (Int32 × zS) :=
    F_R_forget_L65 n u0 1 st

def F_R_forget_s4 (n : Nat) (k0 : Nat) (st : zS) : Option (Int32 × zS) :=
    if (st 7 k0 5) = 0 then (if (st 7 k0 0) = 10000 then (F_R_forget_L65 n k0 0 st) else (F_R_forget_L60 n k0 st)) else (F_R_forget_L60 n k0 st)

def F_R_forget_s3 (n : Nat) (k0 : Nat) (st : zS) : Option (Int32 × zS) :=
    if (st 7 k0 3) = 0 then (some (0, st)) else (F_R_forget_s4 n k0 (zs st 7 k0 4 0))

def F_R_forget_s2 (n : Nat) (k0 : Nat) (v1 : Int32) (st : zS) : Option (Int32 × zS) :=
    if v1 = (st 7 k0 2) then (F_R_forget_s3 n k0 (zs st 7 k0 2 (-1))) else (some (0, st))

def F_R_forget_s1 (n : Nat) (k0 : Nat) (v1 : Int32) (st : zS) : Option (Int32 × zS) :=
    if zOut v1 n then none else F_R_forget_s2 n k0 v1 (zs st 9 k0 (Int32.toNatClampNeg v1) 0)

def F_R_forget (n : Nat) (k0 : Nat) (v1 : Int32) (st : zS) : Option (Int32 × zS) :=
    if zOut v1 n then none else F_R_forget_s1 n k0 v1 (zs st 8 k0 (Int32.toNatClampNeg v1) 10000)

set_option maxHeartbeats 4000000 in
set_option maxRecDepth 1000000 in
theorem T_R_forget_L65 {dC : Nat → ClassId} {dI : Nat → Nat → Nat} {cI cZ cR cA : ClassId} {n : Nat} {ad : zK → Nat} {A : Nat → Prop} (hn : 2 ≤ n ∧ n ≤ 6) (hD : zD A (zKs n) ad) {p : Program} {l : Launch} {e : Env} {s : State} {m : MethodId} {args : Array Value} {below : List Frame} {meth : Method} {c : Code} (S : CallFix p m c b_R_forget 2 s args zT N_R) (hret : meth.sig.returnType = none) (hlk : meth.locks = false) (hK : va_K (dC, dI) zcl (zty cI cZ cR cA) s) (out : Int32 × zS) (u0 : Nat) (t1 : Int32) (hu0 : (7, u0) ∈ zKs n) (st : zS) (H : Heap) (locs : List Loc) (ls : Array Slot) (hP : zV (dC, dI) zcl (zKs n) ad (zcE n cI cZ cR cA ad) st H) (hS : va_S A s.heap H locs) (hl : lv_has ls 2 []) (hF : F_R_forget_L65 n u0 t1 st = some out) : W p l e rm_R_forget s m args below meth c H locs 0 0 (zQ below A (fun o H => o = none ∧ zV (dC, dI) zcl (zKs n) ad (zcE n cI cZ cR cA ad) out.2 H) args s) (F0 m 65 ls [.int t1, .ref (ad (7, u0))]) := by
  unfold F_R_forget_L65 at hF
  by_cases g65 : ¬ (t1 = 0 ∨ t1 = 1)
  · rw [if_pos g65] at hF; cases hF
  rw [if_neg g65] at hF
  refine zr_put (v := t1) S zi_R t_R t_R_ok n_R hK hP hD hS hu0 rfl rfl 10 (by decide) zx_49 rfl (zb_n (Decidable.not_not.mp g65)) (zb_f (Decidable.not_not.mp g65)) (Nat.le_of_ble_eq_true rfl) 5 rfl d_R_forget_65 (fun H locs hP hS => ?_)
  replace hF : F_R_forget_L65_s1 n (zs st 7 u0 5 t1) = some out := hF
  generalize zs st 7 u0 5 t1 = st68 at hP hF
  unfold F_R_forget_L65_s1 at hF
  cases hF
  exact zr_vret S hret hlk hS d_R_forget_68 ⟨rfl, hP⟩

set_option maxHeartbeats 4000000 in
set_option maxRecDepth 1000000 in
theorem T_R_forget_L60 {dC : Nat → ClassId} {dI : Nat → Nat → Nat} {cI cZ cR cA : ClassId} {n : Nat} {ad : zK → Nat} {A : Nat → Prop} (hn : 2 ≤ n ∧ n ≤ 6) (hD : zD A (zKs n) ad) {p : Program} {l : Launch} {e : Env} {s : State} {m : MethodId} {args : Array Value} {below : List Frame} {meth : Method} {c : Code} (S : CallFix p m c b_R_forget 2 s args zT N_R) (hret : meth.sig.returnType = none) (hlk : meth.locks = false) (hK : va_K (dC, dI) zcl (zty cI cZ cR cA) s) (out : Int32 × zS) (u0 : Nat) (hu0 : (7, u0) ∈ zKs n) (st : zS) (H : Heap) (locs : List Loc) (ls : Array Slot) (hP : zV (dC, dI) zcl (zKs n) ad (zcE n cI cZ cR cA ad) st H) (hS : va_S A s.heap H locs) (hl : lv_has ls 2 []) (hF : F_R_forget_L60 n u0 st = some out) : W p l e rm_R_forget s m args below meth c H locs 0 0 (zQ below A (fun o H => o = none ∧ zV (dC, dI) zcl (zKs n) ad (zcE n cI cZ cR cA ad) out.2 H) args s) (F0 m 60 ls [.ref (ad (7, u0))]) := by
  unfold F_R_forget_L60 at hF
  refine lv_iconst (v := 1) S.1 S.2.1 d_R_forget_60 (by decide) ?_
  refine lv_goto (tgt := 65) S.1 S.2.1 d_R_forget_61 (by decide) ?_
  exact T_R_forget_L65 hn hD S hret hlk hK out u0 1 hu0 st _ _ _ hP hS (lv_sub hl [] rfl) hF

set_option maxHeartbeats 4000000 in
set_option maxRecDepth 1000000 in
theorem C_R_forget {dC : Nat → ClassId} {dI : Nat → Nat → Nat} {cI cZ cR cA : ClassId} {n : Nat} {ad : zK → Nat} {A : Nat → Prop} (hn : 2 ≤ n ∧ n ≤ 6) (hD : zD A (zKs n) ad) (l : Launch) (k0 : Nat) (v1 : Int32) (hk0 : (7, k0) ∈ zKs n) (st : zS) (out : Int32 × zS) (hF : F_R_forget n k0 v1 st = some out) : zC zT (dC, dI) zcl (zty cI cZ cR cA) A l y_R_forget b_R_forget 2 (none) rm_R_forget [.ref (ad (7, k0)), .int v1] (fun H => zV (dC, dI) zcl (zKs n) ad (zcE n cI cZ cR cA ad) st H) (fun o H => o = none ∧ zV (dC, dI) zcl (zKs n) ad (zcE n cI cZ cR cA ad) out.2 H) := by
  refine zC_of (by decide) (Nat.le_of_ble_eq_true rfl) (fun p e s m args below meth c ls S hret hlk hK hP hl => ?_)
  have hS : va_S A s.heap s.heap [] := va_S.rf
  have hl : lv_has ls 2 [(0, .ref (ad (7, k0))), (1, .int v1)] := hl
  have hP : zV (dC, dI) zcl (zKs n) ad (zcE n cI cZ cR cA ad) st s.heap := hP
  unfold F_R_forget at hF
  refine lv_aload_n S.1 S.2.1 d_R_forget_0 rfl (lv_at hl 0 rfl) ?_
  refine zr_get (v := .ref (ad (8, k0))) S zi_R hK hP hk0 rfl rfl 3 (by decide) zx_44 rfl d_R_forget_1 ?_
  refine lv_iload_n S.1 S.2.1 d_R_forget_4 rfl (lv_at hl 1 rfl) ?_
  refine lv_sipush (v := 10000) S.1 S.2.1 d_R_forget_5 (by decide) ?_
  by_cases g8 : zOut v1 n
  · rw [if_pos g8] at hF; cases hF
  rw [if_neg g8] at hF
  refine zr_iast S hK hP hD hS (zk_87 hk0) (fun _ => rfl) 0 rfl g8 d_R_forget_8 (fun H locs hP hS => ?_)
  replace hF : F_R_forget_s1 n k0 v1 (zs st 8 k0 (Int32.toNatClampNeg v1) 10000) = some out := hF
  generalize zs st 8 k0 (Int32.toNatClampNeg v1) 10000 = st9 at hP hF
  unfold F_R_forget_s1 at hF
  refine lv_aload_n S.1 S.2.1 d_R_forget_9 rfl (lv_at hl 0 rfl) ?_
  refine zr_get (v := .ref (ad (9, k0))) S zi_R hK hP hk0 rfl rfl 4 (by decide) zx_45 rfl d_R_forget_10 ?_
  refine lv_iload_n S.1 S.2.1 d_R_forget_13 rfl (lv_at hl 1 rfl) ?_
  refine lv_iconst (v := 0) S.1 S.2.1 d_R_forget_14 (by decide) ?_
  by_cases g15 : zOut v1 n
  · rw [if_pos g15] at hF; cases hF
  rw [if_neg g15] at hF
  refine zr_zast S hK hP hD hS (zk_97 hk0) (fun _ => rfl) 1 rfl g15 (by decide) d_R_forget_15 (fun H locs hP hS => ?_)
  replace hF : F_R_forget_s2 n k0 v1 (zs st9 9 k0 (Int32.toNatClampNeg v1) 0) = some out := hF
  generalize zs st9 9 k0 (Int32.toNatClampNeg v1) 0 = st16 at hP hF
  unfold F_R_forget_s2 at hF
  refine lv_iload_n S.1 S.2.1 d_R_forget_16 rfl (lv_at hl 1 rfl) ?_
  refine lv_aload_n S.1 S.2.1 d_R_forget_17 rfl (lv_at hl 0 rfl) ?_
  refine zr_get (v := .int (st16 7 k0 2)) S zi_R hK hP hk0 rfl rfl 7 (by decide) zx_48 rfl d_R_forget_18 ?_
  refine lv_icmp_eq (tgt := 25) S.1 S.2.1 d_R_forget_21 (by decide) (fun h21 => ?_) (fun h21 => ?_)
  · rw [if_pos h21] at hF
    refine lv_aload_n S.1 S.2.1 d_R_forget_25 rfl (lv_at hl 0 rfl) ?_
    refine lv_iconst (v := (-1)) S.1 S.2.1 d_R_forget_26 (by decide) ?_
    refine zr_put (v := (-1)) S zi_R t_R t_R_ok n_R hK hP hD hS hk0 rfl rfl 7 (by decide) zx_48 rfl rfl rfl (Nat.le_of_ble_eq_true rfl) 2 rfl d_R_forget_27 (fun H locs hP hS => ?_)
    replace hF : F_R_forget_s3 n k0 (zs st16 7 k0 2 (-1)) = some out := hF
    generalize zs st16 7 k0 2 (-1) = st30 at hP hF
    unfold F_R_forget_s3 at hF
    refine lv_aload_n S.1 S.2.1 d_R_forget_30 rfl (lv_at hl 0 rfl) ?_
    refine zr_get (v := .int (st30 7 k0 3)) S zi_R hK hP hk0 rfl rfl 8 (by decide) zx_50 rfl d_R_forget_31 ?_
    refine lv_if_eq (tgt := 68) S.1 S.2.1 d_R_forget_34 (by decide) (fun h34 => ?_) (fun h34 => ?_)
    · rw [if_pos h34] at hF
      cases hF
      exact zr_vret S hret hlk hS d_R_forget_68 ⟨rfl, hP⟩
    · rw [if_neg h34] at hF
      refine lv_aload_n S.1 S.2.1 d_R_forget_37 rfl (lv_at hl 0 rfl) ?_
      refine lv_iconst (v := 0) S.1 S.2.1 d_R_forget_38 (by decide) ?_
      refine zr_put (v := 0) S zi_R t_R t_R_ok n_R hK hP hD hS hk0 rfl rfl 9 (by decide) zx_51 rfl rfl rfl (Nat.le_of_ble_eq_true rfl) 4 rfl d_R_forget_39 (fun H locs hP hS => ?_)
      replace hF : F_R_forget_s4 n k0 (zs st30 7 k0 4 0) = some out := hF
      generalize zs st30 7 k0 4 0 = st42 at hP hF
      unfold F_R_forget_s4 at hF
      refine lv_aload_n S.1 S.2.1 d_R_forget_42 rfl (lv_at hl 0 rfl) ?_
      refine lv_aload_n S.1 S.2.1 d_R_forget_43 rfl (lv_at hl 0 rfl) ?_
      refine zr_get (v := .int (st42 7 k0 5)) S zi_R hK hP hk0 rfl rfl 10 (by decide) zx_49 rfl d_R_forget_44 ?_
      refine lv_if_ne (tgt := 60) S.1 S.2.1 d_R_forget_47 (by decide) (fun h47 => ?_) (fun h47 => ?_)
      · rw [if_neg h47] at hF
        exact T_R_forget_L60 hn hD S hret hlk hK out k0 hk0 st42 _ _ _ hP hS (lv_sub hl [] rfl) hF
      · rw [if_pos h47] at hF
        refine lv_aload_n S.1 S.2.1 d_R_forget_50 rfl (lv_at hl 0 rfl) ?_
        refine zr_get (v := .int (st42 7 k0 0)) S zi_R hK hP hk0 rfl rfl 5 (by decide) zx_46 rfl d_R_forget_51 ?_
        refine lv_sipush (v := 10000) S.1 S.2.1 d_R_forget_54 (by decide) ?_
        refine lv_icmp_eq (tgt := 64) S.1 S.2.1 d_R_forget_57 (by decide) (fun h57 => ?_) (fun h57 => ?_)
        · rw [if_pos h57] at hF
          refine lv_iconst (v := 0) S.1 S.2.1 d_R_forget_64 (by decide) ?_
          exact T_R_forget_L65 hn hD S hret hlk hK out k0 0 hk0 st42 _ _ _ hP hS (lv_sub hl [] rfl) hF
        · rw [if_neg h57] at hF
          exact T_R_forget_L60 hn hD S hret hlk hK out k0 hk0 st42 _ _ _ hP hS (lv_sub hl [] rfl) hF
  · rw [if_neg h21] at hF
    cases hF
    exact zr_vret S hret hlk hS d_R_forget_24 ⟨rfl, hP⟩

theorem d_D_lose_0 : decode b_D_lose 0 = .ok (.iconst 0, 1) := by decide +kernel
theorem d_D_lose_1 : decode b_D_lose 1 = .ok (.istore_n 3, 1) := by decide +kernel
theorem d_D_lose_2 : decode b_D_lose 2 = .ok (.iload_n 3, 1) := by decide +kernel
theorem d_D_lose_3 : decode b_D_lose 3 = .ok (.aload_n 0, 1) := by decide +kernel
theorem d_D_lose_4 : decode b_D_lose 4 = .ok (.getfield 18, 3) := by decide +kernel
theorem d_D_lose_7 : decode b_D_lose 7 = .ok (.if_icmp .ge 55, 3) := by decide +kernel
theorem d_D_lose_10 : decode b_D_lose 10 = .ok (.aload_n 0, 1) := by decide +kernel
theorem d_D_lose_11 : decode b_D_lose 11 = .ok (.iload_n 1, 1) := by decide +kernel
theorem d_D_lose_12 : decode b_D_lose 12 = .ok (.iload_n 3, 1) := by decide +kernel
theorem d_D_lose_13 : decode b_D_lose 13 = .ok (.invokevirtual 85, 3) := by decide +kernel
theorem d_D_lose_16 : decode b_D_lose 16 = .ok (.astore 4, 2) := by decide +kernel
theorem d_D_lose_18 : decode b_D_lose 18 = .ok (.aload 4, 2) := by decide +kernel
theorem d_D_lose_20 : decode b_D_lose 20 = .ok (.invokevirtual 141, 3) := by decide +kernel
theorem d_D_lose_23 : decode b_D_lose 23 = .ok (.ifCond .eq 6, 3) := by decide +kernel
theorem d_D_lose_26 : decode b_D_lose 26 = .ok (.goto 30, 3) := by decide +kernel
theorem d_D_lose_29 : decode b_D_lose 29 = .ok (.aload 4, 2) := by decide +kernel
theorem d_D_lose_31 : decode b_D_lose 31 = .ok (.iload_n 2, 1) := by decide +kernel
theorem d_D_lose_32 : decode b_D_lose 32 = .ok (.invokevirtual 157, 3) := by decide +kernel
theorem d_D_lose_35 : decode b_D_lose 35 = .ok (.aload 4, 2) := by decide +kernel
theorem d_D_lose_37 : decode b_D_lose 37 = .ok (.getfield 98, 3) := by decide +kernel
theorem d_D_lose_40 : decode b_D_lose 40 = .ok (.ifCond .ne 10, 3) := by decide +kernel
theorem d_D_lose_43 : decode b_D_lose 43 = .ok (.aload_n 0, 1) := by decide +kernel
theorem d_D_lose_44 : decode b_D_lose 44 = .ok (.aload 4, 2) := by decide +kernel
theorem d_D_lose_46 : decode b_D_lose 46 = .ok (.iconst (-1), 1) := by decide +kernel
theorem d_D_lose_47 : decode b_D_lose 47 = .ok (.invokevirtual 149, 3) := by decide +kernel
theorem d_D_lose_50 : decode b_D_lose 50 = .ok (.aload_n 0, 1) := by decide +kernel
theorem d_D_lose_51 : decode b_D_lose 51 = .ok (.aload 4, 2) := by decide +kernel
theorem d_D_lose_53 : decode b_D_lose 53 = .ok (.invokevirtual 153, 3) := by decide +kernel
theorem d_D_lose_56 : decode b_D_lose 56 = .ok (.iinc 3 1, 3) := by decide +kernel
theorem d_D_lose_59 : decode b_D_lose 59 = .ok (.goto (-57), 3) := by decide +kernel
theorem d_D_lose_62 : decode b_D_lose 62 = .ok (.return_, 1) := by decide +kernel
def F_D_lose_L56 (n : Nat) (c2 : Int32 → Int32 → Int32 → zS → Option (Int32 × zS)) (v1 : Int32) (v2 : Int32) (v3 : Int32) (st : zS) : Option (Int32 × zS) :=
    c2 v1 v2 (v3 + 1) st

def F_D_lose_L50_s1 (n : Nat) (c2 : Int32 → Int32 → Int32 → zS → Option (Int32 × zS)) (v1 : Int32) (v2 : Int32) (v3 : Int32) (st : zS) : Option (Int32 × zS) :=
    F_D_lose_L56 n c2 v1 v2 v3 st

def F_D_lose_L50 (n : Nat) (c2 : Int32 → Int32 → Int32 → zS → Option (Int32 × zS)) (v1 : Int32) (v2 : Int32) (v3 : Int32) (k4 : Nat) (st : zS) : Option (Int32 × zS) :=
    (F_D_endIfDone n k4 st).bind (fun u => F_D_lose_L50_s1 n c2 v1 v2 v3 u.2)

def F_D_lose_L2_s4 (n : Nat) (c2 : Int32 → Int32 → Int32 → zS → Option (Int32 × zS)) (k4 : Nat) (v1 : Int32) (v2 : Int32) (v3 : Int32) (st : zS) : Option (Int32 × zS) :=
    F_D_lose_L50 n c2 v1 v2 v3 k4 st

def F_D_lose_L2_s3 (n : Nat) (c2 : Int32 → Int32 → Int32 → zS → Option (Int32 × zS)) (k4 : Nat) (v1 : Int32) (v2 : Int32) (v3 : Int32) (st : zS) : Option (Int32 × zS) :=
    if (st 7 k4 3) = 0 then ((F_D_look n k4 (-1) st).bind (fun u => F_D_lose_L2_s4 n c2 k4 v1 v2 v3 u.2)) else (F_D_lose_L50 n c2 v1 v2 v3 k4 st)

def F_D_lose_L2_s2 (n : Nat) (c2 : Int32 → Int32 → Int32 → zS → Option (Int32 × zS)) (k4 : Nat) (v1 : Int32) (v2 : Int32) (v3 : Int32) (t0 : Int32) (st : zS) : Option (Int32 × zS) :=
    if t0 = 0 then ((F_R_forget n k4 v2 st).bind (fun u => F_D_lose_L2_s3 n c2 k4 v1 v2 v3 u.2)) else (F_D_lose_L56 n c2 v1 v2 v3 st)

def F_D_lose_L2_s1 (n : Nat) (c2 : Int32 → Int32 → Int32 → zS → Option (Int32 × zS)) (v1 : Int32) (v2 : Int32) (v3 : Int32) (u0 : Nat) (st : zS) : Option (Int32 × zS) :=
    (F_R_isOwn n u0 st).bind (fun u => F_D_lose_L2_s2 n c2 u0 v1 v2 v3 u.1 u.2)

def F_D_lose_L2 (n : Nat) : Nat → Int32 → Int32 → Int32 → zS → Option (Int32 × zS)
  | 0, _, _, _, _ => none
  | f + 1, v1, v2, v3, st =>
    if (nI n) ≤ v3 then (some (0, st)) else ((F_D_route n v1 v3 st).bind (fun u => F_D_lose_L2_s1 n (F_D_lose_L2 n f) v1 v2 v3 u.1 u.2))

def F_D_lose (n : Nat) (v1 : Int32) (v2 : Int32) (st : zS) : Option (Int32 × zS) :=
    F_D_lose_L2 n zFuel v1 v2 0 st

set_option maxHeartbeats 4000000 in
set_option maxRecDepth 1000000 in
theorem T_D_lose_L56 {dC : Nat → ClassId} {dI : Nat → Nat → Nat} {cI cZ cR cA : ClassId} {n : Nat} {ad : zK → Nat} {A : Nat → Prop} (hn : 2 ≤ n ∧ n ≤ 6) (hD : zD A (zKs n) ad) {p : Program} {l : Launch} {e : Env} {s : State} {m : MethodId} {args : Array Value} {below : List Frame} {meth : Method} {c : Code} (S : CallFix p m c b_D_lose 5 s args zT N_D) (hret : meth.sig.returnType = none) (hlk : meth.locks = false) (hK : va_K (dC, dI) zcl (zty cI cZ cR cA) s) (out : Int32 × zS) (c2 : Int32 → Int32 → Int32 → zS → Option (Int32 × zS)) (hc2 : ∀ (v1 : Int32) (v2 : Int32) (v3 : Int32) (st : zS) (H : Heap) (locs : List Loc) (ls : Array Slot), zV (dC, dI) zcl (zKs n) ad (zcE n cI cZ cR cA ad) st H → va_S A s.heap H locs → lv_has ls 5 [(0, .ref (ad (0, 0))), (1, .int v1), (2, .int v2), (3, .int v3)] → c2 v1 v2 v3 st = some out → W p l e rm_D_lose s m args below meth c H locs 0 0 (zQ below A (fun o H => o = none ∧ zV (dC, dI) zcl (zKs n) ad (zcE n cI cZ cR cA ad) out.2 H) args s) (F0 m 2 ls [])) (v1 : Int32) (v2 : Int32) (v3 : Int32) (st : zS) (H : Heap) (locs : List Loc) (ls : Array Slot) (hP : zV (dC, dI) zcl (zKs n) ad (zcE n cI cZ cR cA ad) st H) (hS : va_S A s.heap H locs) (hl : lv_has ls 5 [(0, .ref (ad (0, 0))), (1, .int v1), (2, .int v2), (3, .int v3)]) (hF : F_D_lose_L56 n c2 v1 v2 v3 st = some out) : W p l e rm_D_lose s m args below meth c H locs 0 0 (zQ below A (fun o H => o = none ∧ zV (dC, dI) zcl (zKs n) ad (zcE n cI cZ cR cA ad) out.2 H) args s) (F0 m 56 ls []) := by
  unfold F_D_lose_L56 at hF
  refine lv_iinc (k := 3) (v := v3 + 1) S.1 S.2.1 d_D_lose_56 hl rfl rfl (by decide) rfl (fun ls hl => ?_)
  have hl : lv_has ls 5 [(3, .int (v3 + 1)), (0, .ref (ad (0, 0))), (1, .int v1), (2, .int v2)] := hl
  refine lv_goto (tgt := 2) S.1 S.2.1 d_D_lose_59 (by decide) ?_
  exact hc2 v1 v2 (v3 + 1) st _ _ _ hP hS (lv_sub hl [1, 2, 3, 0] rfl) hF

set_option maxHeartbeats 4000000 in
set_option maxRecDepth 1000000 in
theorem T_D_lose_L50 {dC : Nat → ClassId} {dI : Nat → Nat → Nat} {cI cZ cR cA : ClassId} {n : Nat} {ad : zK → Nat} {A : Nat → Prop} (hn : 2 ≤ n ∧ n ≤ 6) (hD : zD A (zKs n) ad) {p : Program} {l : Launch} {e : Env} {s : State} {m : MethodId} {args : Array Value} {below : List Frame} {meth : Method} {c : Code} (S : CallFix p m c b_D_lose 5 s args zT N_D) (hret : meth.sig.returnType = none) (hlk : meth.locks = false) (hK : va_K (dC, dI) zcl (zty cI cZ cR cA) s) (out : Int32 × zS) (c2 : Int32 → Int32 → Int32 → zS → Option (Int32 × zS)) (hc2 : ∀ (v1 : Int32) (v2 : Int32) (v3 : Int32) (st : zS) (H : Heap) (locs : List Loc) (ls : Array Slot), zV (dC, dI) zcl (zKs n) ad (zcE n cI cZ cR cA ad) st H → va_S A s.heap H locs → lv_has ls 5 [(0, .ref (ad (0, 0))), (1, .int v1), (2, .int v2), (3, .int v3)] → c2 v1 v2 v3 st = some out → W p l e rm_D_lose s m args below meth c H locs 0 0 (zQ below A (fun o H => o = none ∧ zV (dC, dI) zcl (zKs n) ad (zcE n cI cZ cR cA ad) out.2 H) args s) (F0 m 2 ls [])) (v1 : Int32) (v2 : Int32) (v3 : Int32) (k4 : Nat) (hk4 : (7, k4) ∈ zKs n) (st : zS) (H : Heap) (locs : List Loc) (ls : Array Slot) (hP : zV (dC, dI) zcl (zKs n) ad (zcE n cI cZ cR cA ad) st H) (hS : va_S A s.heap H locs) (hl : lv_has ls 5 [(0, .ref (ad (0, 0))), (1, .int v1), (2, .int v2), (3, .int v3), (4, .ref (ad (7, k4)))]) (hF : F_D_lose_L50 n c2 v1 v2 v3 k4 st = some out) : W p l e rm_D_lose s m args below meth c H locs 0 0 (zQ below A (fun o H => o = none ∧ zV (dC, dI) zcl (zKs n) ad (zcE n cI cZ cR cA ad) out.2 H) args s) (F0 m 50 ls []) := by
  unfold F_D_lose_L50 at hF
  refine lv_aload_n S.1 S.2.1 d_D_lose_50 rfl (lv_at hl 0 rfl) ?_
  refine lv_aload S.1 S.2.1 d_D_lose_51 (lv_at hl 4 rfl) ?_
  cases hc53 : F_D_endIfDone n k4 st with
  | none => rw [hc53] at hF; cases hF
  | some u53 =>
    obtain ⟨r53, st53⟩ := u53
    rw [hc53] at hF
    replace hF := zbind hF
    refine zr_callV (rest := []) S zT_good (C_D_endIfDone hn hD l k4 hk4 st (r53, st53) hc53) zn_D_endIfDone zx_65 ⟨rfl, rfl⟩ ⟨Nat.le_of_ble_eq_true rfl, Nat.le_of_ble_eq_true rfl⟩ ⟨Nat.zero_le _, Nat.zero_le _⟩ hK (zr_recv hK hP zk_0 rfl rfl) hP hl.1 (Nat.le_of_ble_eq_true rfl) hS (fun _ h => h) d_D_lose_53 rfl (fun o H locs hpo _ _ hS => ?_)
    obtain ⟨rfl, hP⟩ := hpo
    refine W.eq (g2 := F0 m 56 ls []) rfl ?_
    replace hF : F_D_lose_L50_s1 n c2 v1 v2 v3 st53 = some out := hF
    replace hP : zV (dC, dI) zcl (zKs n) ad (zcE n cI cZ cR cA ad) st53 H := hP
    unfold F_D_lose_L50_s1 at hF
    exact T_D_lose_L56 hn hD S hret hlk hK out c2 hc2 v1 v2 v3 st53 _ _ _ hP hS (lv_sub hl [0, 1, 2, 3] rfl) hF

set_option maxHeartbeats 4000000 in
set_option maxRecDepth 1000000 in
theorem T_D_lose_L2 {dC : Nat → ClassId} {dI : Nat → Nat → Nat} {cI cZ cR cA : ClassId} {n : Nat} {ad : zK → Nat} {A : Nat → Prop} (hn : 2 ≤ n ∧ n ≤ 6) (hD : zD A (zKs n) ad) {p : Program} {l : Launch} {e : Env} {s : State} {m : MethodId} {args : Array Value} {below : List Frame} {meth : Method} {c : Code} (S : CallFix p m c b_D_lose 5 s args zT N_D) (hret : meth.sig.returnType = none) (hlk : meth.locks = false) (hK : va_K (dC, dI) zcl (zty cI cZ cR cA) s) (out : Int32 × zS) : ∀ (fu : Nat) (v1 : Int32) (v2 : Int32) (v3 : Int32) (st : zS) (H : Heap) (locs : List Loc) (ls : Array Slot) (hP : zV (dC, dI) zcl (zKs n) ad (zcE n cI cZ cR cA ad) st H) (hS : va_S A s.heap H locs) (hl : lv_has ls 5 [(0, .ref (ad (0, 0))), (1, .int v1), (2, .int v2), (3, .int v3)]) (hF : F_D_lose_L2 n fu v1 v2 v3 st = some out), W p l e rm_D_lose s m args below meth c H locs 0 0 (zQ below A (fun o H => o = none ∧ zV (dC, dI) zcl (zKs n) ad (zcE n cI cZ cR cA ad) out.2 H) args s) (F0 m 2 ls []) := by
  intro fu
  induction fu with
  | zero => intro v1 v2 v3 st H locs ls hP hS hl hF; rw [F_D_lose_L2] at hF; cases hF
  | succ f ih =>
    intro v1 v2 v3 st H locs ls hP hS hl hF
    rw [F_D_lose_L2] at hF
    refine lv_iload_n S.1 S.2.1 d_D_lose_2 rfl (lv_at hl 3 rfl) ?_
    refine lv_aload_n S.1 S.2.1 d_D_lose_3 rfl (lv_at hl 0 rfl) ?_
    refine zr_get (v := .int (nI n)) S zi_D hK hP zk_0 rfl rfl 0 (by decide) zx_8 rfl d_D_lose_4 ?_
    refine lv_icmp_ge (tgt := 62) S.1 S.2.1 d_D_lose_7 (by decide) (fun h7 => ?_) (fun h7 => ?_)
    · rw [if_pos h7] at hF
      cases hF
      exact zr_vret S hret hlk hS d_D_lose_62 ⟨rfl, hP⟩
    · rw [if_neg h7] at hF
      refine lv_aload_n S.1 S.2.1 d_D_lose_10 rfl (lv_at hl 0 rfl) ?_
      refine lv_iload_n S.1 S.2.1 d_D_lose_11 rfl (lv_at hl 1 rfl) ?_
      refine lv_iload_n S.1 S.2.1 d_D_lose_12 rfl (lv_at hl 3 rfl) ?_
      cases hc13 : F_D_route n v1 v3 st with
      | none => rw [hc13] at hF; cases hF
      | some u13 =>
        obtain ⟨r13, st13⟩ := u13
        rw [hc13] at hF
        replace hF := zbind hF
        refine zr_callV (rest := []) S zT_good (C_D_route hn hD l v1 v3 st (r13, st13) hc13) zn_D_route zx_88 ⟨rfl, rfl⟩ ⟨Nat.le_of_ble_eq_true rfl, Nat.le_of_ble_eq_true rfl⟩ ⟨Nat.zero_le _, Nat.zero_le _⟩ hK (zr_recv hK hP zk_0 rfl rfl) hP hl.1 (Nat.le_of_ble_eq_true rfl) hS (fun _ h => h) d_D_lose_13 rfl (fun o H locs hpo _ _ hS => ?_)
        obtain ⟨rfl, hP⟩ := hpo
        refine W.eq (g2 := F0 m 16 ls [.ref (ad (7, r13))]) rfl ?_
        have hk_r13 := zk_D_route hn hc13
        replace hF : F_D_lose_L2_s1 n (F_D_lose_L2 n f) v1 v2 v3 r13 st13 = some out := hF
        replace hP : zV (dC, dI) zcl (zKs n) ad (zcE n cI cZ cR cA ad) st13 H := hP
        unfold F_D_lose_L2_s1 at hF
        refine lv_astore S.1 S.2.1 d_D_lose_16 hl (by decide) rfl (fun ls hl => ?_)
        have hl : lv_has ls 5 [(4, .ref (ad (7, r13))), (0, .ref (ad (0, 0))), (1, .int v1), (2, .int v2), (3, .int v3)] := hl
        refine lv_aload S.1 S.2.1 d_D_lose_18 (lv_at hl 0 rfl) ?_
        cases hc20 : F_R_isOwn n r13 st13 with
        | none => rw [hc20] at hF; cases hF
        | some u20 =>
          obtain ⟨r20, st20⟩ := u20
          rw [hc20] at hF
          replace hF := zbind hF
          refine zr_callV (rest := []) S zT_good (C_R_isOwn hn hD l r13 hk_r13 st13 (r20, st20) hc20) zn_R_isOwn zx_61 ⟨rfl, rfl⟩ ⟨Nat.le_of_ble_eq_true rfl, Nat.le_of_ble_eq_true rfl⟩ ⟨Nat.zero_le _, Nat.zero_le _⟩ hK (zr_recv hK hP hk_r13 rfl rfl) hP hl.1 (Nat.le_of_ble_eq_true rfl) hS (fun _ h => h) d_D_lose_20 rfl (fun o H locs hpo _ _ hS => ?_)
          obtain ⟨rfl, hP⟩ := hpo
          refine W.eq (g2 := F0 m 23 ls [.int r20]) rfl ?_
          replace hF : F_D_lose_L2_s2 n (F_D_lose_L2 n f) r13 v1 v2 v3 r20 st20 = some out := hF
          replace hP : zV (dC, dI) zcl (zKs n) ad (zcE n cI cZ cR cA ad) st20 H := hP
          unfold F_D_lose_L2_s2 at hF
          refine lv_if_eq (tgt := 29) S.1 S.2.1 d_D_lose_23 (by decide) (fun h23 => ?_) (fun h23 => ?_)
          · rw [if_pos h23] at hF
            refine lv_aload S.1 S.2.1 d_D_lose_29 (lv_at hl 0 rfl) ?_
            refine lv_iload_n S.1 S.2.1 d_D_lose_31 rfl (lv_at hl 3 rfl) ?_
            cases hc32 : F_R_forget n r13 v2 st20 with
            | none => rw [hc32] at hF; cases hF
            | some u32 =>
              obtain ⟨r32, st32⟩ := u32
              rw [hc32] at hF
              replace hF := zbind hF
              refine zr_callV (rest := []) S zT_good (C_R_forget hn hD l r13 v2 hk_r13 st20 (r32, st32) hc32) zn_R_forget zx_66 ⟨rfl, rfl⟩ ⟨Nat.le_of_ble_eq_true rfl, Nat.le_of_ble_eq_true rfl⟩ ⟨Nat.zero_le _, Nat.zero_le _⟩ hK (zr_recv hK hP hk_r13 rfl rfl) hP hl.1 (Nat.le_of_ble_eq_true rfl) hS (fun _ h => h) d_D_lose_32 rfl (fun o H locs hpo _ _ hS => ?_)
              obtain ⟨rfl, hP⟩ := hpo
              refine W.eq (g2 := F0 m 35 ls []) rfl ?_
              replace hF : F_D_lose_L2_s3 n (F_D_lose_L2 n f) r13 v1 v2 v3 st32 = some out := hF
              replace hP : zV (dC, dI) zcl (zKs n) ad (zcE n cI cZ cR cA ad) st32 H := hP
              unfold F_D_lose_L2_s3 at hF
              refine lv_aload S.1 S.2.1 d_D_lose_35 (lv_at hl 0 rfl) ?_
              refine zr_get (v := .int (st32 7 r13 3)) S zi_R hK hP hk_r13 rfl rfl 8 (by decide) zx_17 rfl d_D_lose_37 ?_
              refine lv_if_ne (tgt := 50) S.1 S.2.1 d_D_lose_40 (by decide) (fun h40 => ?_) (fun h40 => ?_)
              · rw [if_neg h40] at hF
                exact T_D_lose_L50 hn hD S hret hlk hK out (F_D_lose_L2 n f) ih v1 v2 v3 r13 hk_r13 st32 _ _ _ hP hS (lv_sub hl [1, 2, 3, 4, 0] rfl) hF
              · rw [if_pos h40] at hF
                refine lv_aload_n S.1 S.2.1 d_D_lose_43 rfl (lv_at hl 1 rfl) ?_
                refine lv_aload S.1 S.2.1 d_D_lose_44 (lv_at hl 0 rfl) ?_
                refine lv_iconst (v := (-1)) S.1 S.2.1 d_D_lose_46 (by decide) ?_
                cases hc47 : F_D_look n r13 (-1) st32 with
                | none => rw [hc47] at hF; cases hF
                | some u47 =>
                  obtain ⟨r47, st47⟩ := u47
                  rw [hc47] at hF
                  replace hF := zbind hF
                  refine zr_callV (rest := []) S zT_good (C_D_look hn hD l r13 (-1) hk_r13 st32 (r47, st47) hc47) zn_D_look zx_63 ⟨rfl, rfl⟩ ⟨Nat.le_of_ble_eq_true rfl, Nat.le_of_ble_eq_true rfl⟩ ⟨Nat.zero_le _, Nat.zero_le _⟩ hK (zr_recv hK hP zk_0 rfl rfl) hP hl.1 (Nat.le_of_ble_eq_true rfl) hS (fun _ h => h) d_D_lose_47 rfl (fun o H locs hpo _ _ hS => ?_)
                  obtain ⟨rfl, hP⟩ := hpo
                  refine W.eq (g2 := F0 m 50 ls []) rfl ?_
                  replace hF : F_D_lose_L2_s4 n (F_D_lose_L2 n f) r13 v1 v2 v3 st47 = some out := hF
                  replace hP : zV (dC, dI) zcl (zKs n) ad (zcE n cI cZ cR cA ad) st47 H := hP
                  unfold F_D_lose_L2_s4 at hF
                  exact T_D_lose_L50 hn hD S hret hlk hK out (F_D_lose_L2 n f) ih v1 v2 v3 r13 hk_r13 st47 _ _ _ hP hS (lv_sub hl [1, 2, 3, 4, 0] rfl) hF
          · rw [if_neg h23] at hF
            refine lv_goto (tgt := 56) S.1 S.2.1 d_D_lose_26 (by decide) ?_
            exact T_D_lose_L56 hn hD S hret hlk hK out (F_D_lose_L2 n f) ih v1 v2 v3 st20 _ _ _ hP hS (lv_sub hl [1, 2, 3, 4] rfl) hF

set_option maxHeartbeats 4000000 in
set_option maxRecDepth 1000000 in
theorem C_D_lose {dC : Nat → ClassId} {dI : Nat → Nat → Nat} {cI cZ cR cA : ClassId} {n : Nat} {ad : zK → Nat} {A : Nat → Prop} (hn : 2 ≤ n ∧ n ≤ 6) (hD : zD A (zKs n) ad) (l : Launch) (v1 : Int32) (v2 : Int32) (st : zS) (out : Int32 × zS) (hF : F_D_lose n v1 v2 st = some out) : zC zT (dC, dI) zcl (zty cI cZ cR cA) A l y_D_lose b_D_lose 5 (none) rm_D_lose [.ref (ad (0, 0)), .int v1, .int v2] (fun H => zV (dC, dI) zcl (zKs n) ad (zcE n cI cZ cR cA ad) st H) (fun o H => o = none ∧ zV (dC, dI) zcl (zKs n) ad (zcE n cI cZ cR cA ad) out.2 H) := by
  refine zC_of (by decide) (Nat.le_of_ble_eq_true rfl) (fun p e s m args below meth c ls S hret hlk hK hP hl => ?_)
  have hS : va_S A s.heap s.heap [] := va_S.rf
  have hl : lv_has ls 5 [(0, .ref (ad (0, 0))), (1, .int v1), (2, .int v2)] := hl
  have hP : zV (dC, dI) zcl (zKs n) ad (zcE n cI cZ cR cA ad) st s.heap := hP
  unfold F_D_lose at hF
  refine lv_iconst (v := 0) S.1 S.2.1 d_D_lose_0 (by decide) ?_
  refine lv_istore_n S.1 S.2.1 d_D_lose_1 rfl hl (by decide) rfl (fun ls hl => ?_)
  have hl : lv_has ls 5 [(3, .int 0), (0, .ref (ad (0, 0))), (1, .int v1), (2, .int v2)] := hl
  exact T_D_lose_L2 hn hD S hret hlk hK out zFuel v1 v2 0 st _ _ _ hP hS (lv_sub hl [1, 2, 3, 0] rfl) hF

theorem d_D_cut_0 : decode b_D_cut 0 = .ok (.aload_n 0, 1) := by decide +kernel
theorem d_D_cut_1 : decode b_D_cut 1 = .ok (.iload_n 1, 1) := by decide +kernel
theorem d_D_cut_2 : decode b_D_cut 2 = .ok (.iload_n 2, 1) := by decide +kernel
theorem d_D_cut_3 : decode b_D_cut 3 = .ok (.invokevirtual 61, 3) := by decide +kernel
theorem d_D_cut_6 : decode b_D_cut 6 = .ok (.ifCond .ne 5, 3) := by decide +kernel
theorem d_D_cut_9 : decode b_D_cut 9 = .ok (.iconst (-1), 1) := by decide +kernel
theorem d_D_cut_10 : decode b_D_cut 10 = .ok (.ireturn, 1) := by decide +kernel
theorem d_D_cut_11 : decode b_D_cut 11 = .ok (.aload_n 0, 1) := by decide +kernel
theorem d_D_cut_12 : decode b_D_cut 12 = .ok (.getfield 39, 3) := by decide +kernel
theorem d_D_cut_15 : decode b_D_cut 15 = .ok (.invokevirtual 47, 3) := by decide +kernel
theorem d_D_cut_18 : decode b_D_cut 18 = .ok (.bipush 100, 2) := by decide +kernel
theorem d_D_cut_20 : decode b_D_cut 20 = .ok (.if_icmp .le 6, 3) := by decide +kernel
theorem d_D_cut_23 : decode b_D_cut 23 = .ok (.bipush (-2), 2) := by decide +kernel
theorem d_D_cut_25 : decode b_D_cut 25 = .ok (.ireturn, 1) := by decide +kernel
theorem d_D_cut_26 : decode b_D_cut 26 = .ok (.aload_n 0, 1) := by decide +kernel
theorem d_D_cut_27 : decode b_D_cut 27 = .ok (.getfield 39, 3) := by decide +kernel
theorem d_D_cut_30 : decode b_D_cut 30 = .ok (.iload_n 1, 1) := by decide +kernel
theorem d_D_cut_31 : decode b_D_cut 31 = .ok (.iload_n 2, 1) := by decide +kernel
theorem d_D_cut_32 : decode b_D_cut 32 = .ok (.invokevirtual 65, 3) := by decide +kernel
theorem d_D_cut_35 : decode b_D_cut 35 = .ok (.aload_n 0, 1) := by decide +kernel
theorem d_D_cut_36 : decode b_D_cut 36 = .ok (.getfield 39, 3) := by decide +kernel
theorem d_D_cut_39 : decode b_D_cut 39 = .ok (.iload_n 2, 1) := by decide +kernel
theorem d_D_cut_40 : decode b_D_cut 40 = .ok (.iload_n 1, 1) := by decide +kernel
theorem d_D_cut_41 : decode b_D_cut 41 = .ok (.invokevirtual 65, 3) := by decide +kernel
theorem d_D_cut_44 : decode b_D_cut 44 = .ok (.iadd, 1) := by decide +kernel
theorem d_D_cut_45 : decode b_D_cut 45 = .ok (.istore_n 3, 1) := by decide +kernel
theorem d_D_cut_46 : decode b_D_cut 46 = .ok (.aload_n 0, 1) := by decide +kernel
theorem d_D_cut_47 : decode b_D_cut 47 = .ok (.getfield 24, 3) := by decide +kernel
theorem d_D_cut_50 : decode b_D_cut 50 = .ok (.iload_n 1, 1) := by decide +kernel
theorem d_D_cut_51 : decode b_D_cut 51 = .ok (.aaload, 1) := by decide +kernel
theorem d_D_cut_52 : decode b_D_cut 52 = .ok (.iload_n 2, 1) := by decide +kernel
theorem d_D_cut_53 : decode b_D_cut 53 = .ok (.iconst 0, 1) := by decide +kernel
theorem d_D_cut_54 : decode b_D_cut 54 = .ok (.iastore, 1) := by decide +kernel
theorem d_D_cut_55 : decode b_D_cut 55 = .ok (.aload_n 0, 1) := by decide +kernel
theorem d_D_cut_56 : decode b_D_cut 56 = .ok (.getfield 24, 3) := by decide +kernel
theorem d_D_cut_59 : decode b_D_cut 59 = .ok (.iload_n 2, 1) := by decide +kernel
theorem d_D_cut_60 : decode b_D_cut 60 = .ok (.aaload, 1) := by decide +kernel
theorem d_D_cut_61 : decode b_D_cut 61 = .ok (.iload_n 1, 1) := by decide +kernel
theorem d_D_cut_62 : decode b_D_cut 62 = .ok (.iconst 0, 1) := by decide +kernel
theorem d_D_cut_63 : decode b_D_cut 63 = .ok (.iastore, 1) := by decide +kernel
theorem d_D_cut_64 : decode b_D_cut 64 = .ok (.aload_n 0, 1) := by decide +kernel
theorem d_D_cut_65 : decode b_D_cut 65 = .ok (.dup, 1) := by decide +kernel
theorem d_D_cut_66 : decode b_D_cut 66 = .ok (.getfield 51, 3) := by decide +kernel
theorem d_D_cut_69 : decode b_D_cut 69 = .ok (.iconst 1, 1) := by decide +kernel
theorem d_D_cut_70 : decode b_D_cut 70 = .ok (.isub, 1) := by decide +kernel
theorem d_D_cut_71 : decode b_D_cut 71 = .ok (.putfield 51, 3) := by decide +kernel
theorem d_D_cut_74 : decode b_D_cut 74 = .ok (.iload_n 1, 1) := by decide +kernel
theorem d_D_cut_75 : decode b_D_cut 75 = .ok (.iload_n 2, 1) := by decide +kernel
theorem d_D_cut_76 : decode b_D_cut 76 = .ok (.invokestatic 9, 3) := by decide +kernel
theorem d_D_cut_79 : decode b_D_cut 79 = .ok (.istore 4, 2) := by decide +kernel
theorem d_D_cut_81 : decode b_D_cut 81 = .ok (.iload_n 1, 1) := by decide +kernel
theorem d_D_cut_82 : decode b_D_cut 82 = .ok (.iload_n 2, 1) := by decide +kernel
theorem d_D_cut_83 : decode b_D_cut 83 = .ok (.invokestatic 15, 3) := by decide +kernel
theorem d_D_cut_86 : decode b_D_cut 86 = .ok (.istore 5, 2) := by decide +kernel
theorem d_D_cut_88 : decode b_D_cut 88 = .ok (.aload_n 0, 1) := by decide +kernel
theorem d_D_cut_89 : decode b_D_cut 89 = .ok (.iload 4, 2) := by decide +kernel
theorem d_D_cut_91 : decode b_D_cut 91 = .ok (.iload 5, 2) := by decide +kernel
theorem d_D_cut_93 : decode b_D_cut 93 = .ok (.invokevirtual 68, 3) := by decide +kernel
theorem d_D_cut_96 : decode b_D_cut 96 = .ok (.aload_n 0, 1) := by decide +kernel
theorem d_D_cut_97 : decode b_D_cut 97 = .ok (.iload 5, 2) := by decide +kernel
theorem d_D_cut_99 : decode b_D_cut 99 = .ok (.iload 4, 2) := by decide +kernel
theorem d_D_cut_101 : decode b_D_cut 101 = .ok (.invokevirtual 68, 3) := by decide +kernel
theorem d_D_cut_104 : decode b_D_cut 104 = .ok (.iload_n 3, 1) := by decide +kernel
theorem d_D_cut_105 : decode b_D_cut 105 = .ok (.ireturn, 1) := by decide +kernel
def F_D_cut_s9 (n : Nat) (v3 : Int32) (st : zS) : Option (Int32 × zS) :=
    some (v3, st)

def F_D_cut_s8 (n : Nat) (v5 : Int32) (v4 : Int32) (v3 : Int32) (st : zS) : Option (Int32 × zS) :=
    (F_D_lose n v5 v4 st).bind (fun u => F_D_cut_s9 n v3 u.2)

def F_D_cut_s7 (n : Nat) (v3 : Int32) (v1 : Int32) (v2 : Int32) (st : zS) : Option (Int32 × zS) :=
    (F_D_lose n (if v2 < v1 then v2 else v1) (if v1 < v2 then v2 else v1) st).bind (fun u => F_D_cut_s8 n (if v1 < v2 then v2 else v1) (if v2 < v1 then v2 else v1) v3 u.2)

def F_D_cut_s6 (n : Nat) (v3 : Int32) (v1 : Int32) (v2 : Int32) (st : zS) : Option (Int32 × zS) :=
    F_D_cut_s7 n v3 v1 v2 (zs st 0 0 0 ((st 0 0 0) - 1))

def F_D_cut_s5 (n : Nat) (v3 : Int32) (v1 : Int32) (v2 : Int32) (st : zS) : Option (Int32 × zS) :=
    if zOut v2 n then none else if zOut v1 n then none else F_D_cut_s6 n v3 v1 v2 (zs st 6 (Int32.toNatClampNeg v2) (Int32.toNatClampNeg v1) 0)

def F_D_cut_s4 (n : Nat) (v1 : Int32) (v2 : Int32) (t0 : Int32) (t1 : Int32) (st : zS) : Option (Int32 × zS) :=
    if zOut v1 n then none else if zOut v2 n then none else F_D_cut_s5 n (t0 + t1) v1 v2 (zs st 6 (Int32.toNatClampNeg v1) (Int32.toNatClampNeg v2) 0)

def F_D_cut_s3 (n : Nat) (v1 : Int32) (v2 : Int32) (t0 : Int32) (st : zS) : Option (Int32 × zS) :=
    (F_L_drop n v2 v1 st).bind (fun u => F_D_cut_s4 n v1 v2 t0 u.1 u.2)

def F_D_cut_s2 (n : Nat) (v1 : Int32) (v2 : Int32) (t0 : Int32) (st : zS) : Option (Int32 × zS) :=
    if t0 ≤ 100 then ((F_L_drop n v1 v2 st).bind (fun u => F_D_cut_s3 n v1 v2 u.1 u.2)) else (some ((-2), st))

def F_D_cut_s1 (n : Nat) (v1 : Int32) (v2 : Int32) (t0 : Int32) (st : zS) : Option (Int32 × zS) :=
    if t0 = 0 then (some ((-1), st)) else ((F_L_size n st).bind (fun u => F_D_cut_s2 n v1 v2 u.1 u.2))

def F_D_cut (n : Nat) (v1 : Int32) (v2 : Int32) (st : zS) : Option (Int32 × zS) :=
    (F_D_isLink n v1 v2 st).bind (fun u => F_D_cut_s1 n v1 v2 u.1 u.2)

set_option maxHeartbeats 4000000 in
set_option maxRecDepth 1000000 in
theorem C_D_cut {dC : Nat → ClassId} {dI : Nat → Nat → Nat} {cI cZ cR cA : ClassId} {n : Nat} {ad : zK → Nat} {A : Nat → Prop} (hn : 2 ≤ n ∧ n ≤ 6) (hD : zD A (zKs n) ad) (l : Launch) (v1 : Int32) (v2 : Int32) (st : zS) (out : Int32 × zS) (hF : F_D_cut n v1 v2 st = some out) : zC zT (dC, dI) zcl (zty cI cZ cR cA) A l y_D_cut b_D_cut 6 (some .int) rm_D_cut [.ref (ad (0, 0)), .int v1, .int v2] (fun H => zV (dC, dI) zcl (zKs n) ad (zcE n cI cZ cR cA ad) st H) (fun o H => o = some (.int out.1) ∧ zV (dC, dI) zcl (zKs n) ad (zcE n cI cZ cR cA ad) out.2 H) := by
  refine zC_of (by decide) (Nat.le_of_ble_eq_true rfl) (fun p e s m args below meth c ls S hret hlk hK hP hl => ?_)
  have hS : va_S A s.heap s.heap [] := va_S.rf
  have hl : lv_has ls 6 [(0, .ref (ad (0, 0))), (1, .int v1), (2, .int v2)] := hl
  have hP : zV (dC, dI) zcl (zKs n) ad (zcE n cI cZ cR cA ad) st s.heap := hP
  unfold F_D_cut at hF
  refine lv_aload_n S.1 S.2.1 d_D_cut_0 rfl (lv_at hl 0 rfl) ?_
  refine lv_iload_n S.1 S.2.1 d_D_cut_1 rfl (lv_at hl 1 rfl) ?_
  refine lv_iload_n S.1 S.2.1 d_D_cut_2 rfl (lv_at hl 2 rfl) ?_
  cases hc3 : F_D_isLink n v1 v2 st with
  | none => rw [hc3] at hF; cases hF
  | some u3 =>
    obtain ⟨r3, st3⟩ := u3
    rw [hc3] at hF
    replace hF := zbind hF
    refine zr_callV (rest := []) S zT_good (C_D_isLink hn hD l v1 v2 st (r3, st3) hc3) zn_D_isLink zx_82 ⟨rfl, rfl⟩ ⟨Nat.le_of_ble_eq_true rfl, Nat.le_of_ble_eq_true rfl⟩ ⟨Nat.zero_le _, Nat.zero_le _⟩ hK (zr_recv hK hP zk_0 rfl rfl) hP hl.1 (Nat.le_of_ble_eq_true rfl) hS (fun _ h => h) d_D_cut_3 rfl (fun o H locs hpo _ _ hS => ?_)
    obtain ⟨rfl, hP⟩ := hpo
    refine W.eq (g2 := F0 m 6 ls [.int r3]) rfl ?_
    replace hF : F_D_cut_s1 n v1 v2 r3 st3 = some out := hF
    replace hP : zV (dC, dI) zcl (zKs n) ad (zcE n cI cZ cR cA ad) st3 H := hP
    unfold F_D_cut_s1 at hF
    refine lv_if_ne (tgt := 11) S.1 S.2.1 d_D_cut_6 (by decide) (fun h6 => ?_) (fun h6 => ?_)
    · rw [if_neg h6] at hF
      refine lv_aload_n S.1 S.2.1 d_D_cut_11 rfl (lv_at hl 0 rfl) ?_
      refine zr_get (v := .ref (ad (3, 0))) S zi_D hK hP zk_0 rfl rfl 3 (by decide) zx_11 rfl d_D_cut_12 ?_
      cases hc15 : F_L_size n st3 with
      | none => rw [hc15] at hF; cases hF
      | some u15 =>
        obtain ⟨r15, st15⟩ := u15
        rw [hc15] at hF
        replace hF := zbind hF
        refine zr_callV (rest := []) S zT_good (C_L_size hn hD l st3 (r15, st15) hc15) zn_L_size zx_79 ⟨rfl, rfl⟩ ⟨Nat.le_of_ble_eq_true rfl, Nat.le_of_ble_eq_true rfl⟩ ⟨Nat.zero_le _, Nat.zero_le _⟩ hK (zr_recv hK hP zk_3 rfl rfl) hP hl.1 (Nat.le_of_ble_eq_true rfl) hS (fun _ h => h) d_D_cut_15 rfl (fun o H locs hpo _ _ hS => ?_)
        obtain ⟨rfl, hP⟩ := hpo
        refine W.eq (g2 := F0 m 18 ls [.int r15]) rfl ?_
        replace hF : F_D_cut_s2 n v1 v2 r15 st15 = some out := hF
        replace hP : zV (dC, dI) zcl (zKs n) ad (zcE n cI cZ cR cA ad) st15 H := hP
        unfold F_D_cut_s2 at hF
        refine lv_bipush (v := 100) S.1 S.2.1 d_D_cut_18 (by decide) ?_
        refine lv_icmp_le (tgt := 26) S.1 S.2.1 d_D_cut_20 (by decide) (fun h20 => ?_) (fun h20 => ?_)
        · rw [if_pos h20] at hF
          refine lv_aload_n S.1 S.2.1 d_D_cut_26 rfl (lv_at hl 0 rfl) ?_
          refine zr_get (v := .ref (ad (3, 0))) S zi_D hK hP zk_0 rfl rfl 3 (by decide) zx_11 rfl d_D_cut_27 ?_
          refine lv_iload_n S.1 S.2.1 d_D_cut_30 rfl (lv_at hl 1 rfl) ?_
          refine lv_iload_n S.1 S.2.1 d_D_cut_31 rfl (lv_at hl 2 rfl) ?_
          cases hc32 : F_L_drop n v1 v2 st15 with
          | none => rw [hc32] at hF; cases hF
          | some u32 =>
            obtain ⟨r32, st32⟩ := u32
            rw [hc32] at hF
            replace hF := zbind hF
            refine zr_callV (rest := []) S zT_good (C_L_drop hn hD l v1 v2 st15 (r32, st32) hc32) zn_L_drop zx_83 ⟨rfl, rfl⟩ ⟨Nat.le_of_ble_eq_true rfl, Nat.le_of_ble_eq_true rfl⟩ ⟨Nat.zero_le _, Nat.zero_le _⟩ hK (zr_recv hK hP zk_3 rfl rfl) hP hl.1 (Nat.le_of_ble_eq_true rfl) hS (fun _ h => h) d_D_cut_32 rfl (fun o H locs hpo _ _ hS => ?_)
            obtain ⟨rfl, hP⟩ := hpo
            refine W.eq (g2 := F0 m 35 ls [.int r32]) rfl ?_
            replace hF : F_D_cut_s3 n v1 v2 r32 st32 = some out := hF
            replace hP : zV (dC, dI) zcl (zKs n) ad (zcE n cI cZ cR cA ad) st32 H := hP
            unfold F_D_cut_s3 at hF
            refine lv_aload_n S.1 S.2.1 d_D_cut_35 rfl (lv_at hl 0 rfl) ?_
            refine zr_get (v := .ref (ad (3, 0))) S zi_D hK hP zk_0 rfl rfl 3 (by decide) zx_11 rfl d_D_cut_36 ?_
            refine lv_iload_n S.1 S.2.1 d_D_cut_39 rfl (lv_at hl 2 rfl) ?_
            refine lv_iload_n S.1 S.2.1 d_D_cut_40 rfl (lv_at hl 1 rfl) ?_
            cases hc41 : F_L_drop n v2 v1 st32 with
            | none => rw [hc41] at hF; cases hF
            | some u41 =>
              obtain ⟨r41, st41⟩ := u41
              rw [hc41] at hF
              replace hF := zbind hF
              refine zr_callV (rest := [.int r32]) S zT_good (C_L_drop hn hD l v2 v1 st32 (r41, st41) hc41) zn_L_drop zx_83 ⟨rfl, rfl⟩ ⟨Nat.le_of_ble_eq_true rfl, Nat.le_of_ble_eq_true rfl⟩ ⟨Nat.zero_le _, Nat.zero_le _⟩ hK (zr_recv hK hP zk_3 rfl rfl) hP hl.1 (Nat.le_of_ble_eq_true rfl) hS (fun _ h => h) d_D_cut_41 rfl (fun o H locs hpo _ _ hS => ?_)
              obtain ⟨rfl, hP⟩ := hpo
              refine W.eq (g2 := F0 m 44 ls [.int r41, .int r32]) rfl ?_
              replace hF : F_D_cut_s4 n v1 v2 r32 r41 st41 = some out := hF
              replace hP : zV (dC, dI) zcl (zKs n) ad (zcE n cI cZ cR cA ad) st41 H := hP
              unfold F_D_cut_s4 at hF
              refine lv_iadd S.1 S.2.1 d_D_cut_44 ?_
              refine lv_istore_n S.1 S.2.1 d_D_cut_45 rfl hl (by decide) rfl (fun ls hl => ?_)
              have hl : lv_has ls 6 [(3, .int (r32 + r41)), (0, .ref (ad (0, 0))), (1, .int v1), (2, .int v2)] := hl
              refine lv_aload_n S.1 S.2.1 d_D_cut_46 rfl (lv_at hl 1 rfl) ?_
              refine zr_get (v := .ref (ad (1, 0))) S zi_D hK hP zk_0 rfl rfl 1 (by decide) zx_9 rfl d_D_cut_47 ?_
              refine lv_iload_n S.1 S.2.1 d_D_cut_50 rfl (lv_at hl 2 rfl) ?_
              by_cases g51 : zOut v1 n
              · rw [if_pos g51] at hF; cases hF
              rw [if_neg g51] at hF
              refine zr_aald (b := ad (6, (Int32.toNatClampNeg v1))) S hK hP zk_1 rfl 3 rfl rfl g51 rfl d_D_cut_51 ?_
              refine lv_iload_n S.1 S.2.1 d_D_cut_52 rfl (lv_at hl 3 rfl) ?_
              refine lv_iconst (v := 0) S.1 S.2.1 d_D_cut_53 (by decide) ?_
              by_cases g54 : zOut v2 n
              · rw [if_pos g54] at hF; cases hF
              rw [if_neg g54] at hF
              refine zr_iast S hK hP hD hS (zk_6 g51) (fun _ => rfl) 0 rfl g54 d_D_cut_54 (fun H locs hP hS => ?_)
              replace hF : F_D_cut_s5 n (r32 + r41) v1 v2 (zs st41 6 (Int32.toNatClampNeg v1) (Int32.toNatClampNeg v2) 0) = some out := hF
              generalize zs st41 6 (Int32.toNatClampNeg v1) (Int32.toNatClampNeg v2) 0 = st55 at hP hF
              unfold F_D_cut_s5 at hF
              refine lv_aload_n S.1 S.2.1 d_D_cut_55 rfl (lv_at hl 1 rfl) ?_
              refine zr_get (v := .ref (ad (1, 0))) S zi_D hK hP zk_0 rfl rfl 1 (by decide) zx_9 rfl d_D_cut_56 ?_
              refine lv_iload_n S.1 S.2.1 d_D_cut_59 rfl (lv_at hl 3 rfl) ?_
              by_cases g60 : zOut v2 n
              · rw [if_pos g60] at hF; cases hF
              rw [if_neg g60] at hF
              refine zr_aald (b := ad (6, (Int32.toNatClampNeg v2))) S hK hP zk_1 rfl 3 rfl rfl g60 rfl d_D_cut_60 ?_
              refine lv_iload_n S.1 S.2.1 d_D_cut_61 rfl (lv_at hl 2 rfl) ?_
              refine lv_iconst (v := 0) S.1 S.2.1 d_D_cut_62 (by decide) ?_
              by_cases g63 : zOut v1 n
              · rw [if_pos g63] at hF; cases hF
              rw [if_neg g63] at hF
              refine zr_iast S hK hP hD hS (zk_6 g60) (fun _ => rfl) 0 rfl g63 d_D_cut_63 (fun H locs hP hS => ?_)
              replace hF : F_D_cut_s6 n (r32 + r41) v1 v2 (zs st55 6 (Int32.toNatClampNeg v2) (Int32.toNatClampNeg v1) 0) = some out := hF
              generalize zs st55 6 (Int32.toNatClampNeg v2) (Int32.toNatClampNeg v1) 0 = st64 at hP hF
              unfold F_D_cut_s6 at hF
              refine lv_aload_n S.1 S.2.1 d_D_cut_64 rfl (lv_at hl 1 rfl) ?_
              refine lv_dup S.1 S.2.1 d_D_cut_65 rfl ?_
              refine zr_get (v := .int (st64 0 0 0)) S zi_D hK hP zk_0 rfl rfl 4 (by decide) zx_12 rfl d_D_cut_66 ?_
              refine lv_iconst (v := 1) S.1 S.2.1 d_D_cut_69 (by decide) ?_
              refine lv_isub S.1 S.2.1 d_D_cut_70 ?_
              refine zr_put (v := (st64 0 0 0) - 1) S zi_D t_D t_D_ok n_D hK hP hD hS zk_0 rfl rfl 4 (by decide) zx_12 rfl rfl rfl (Nat.le_of_ble_eq_true rfl) 0 rfl d_D_cut_71 (fun H locs hP hS => ?_)
              replace hF : F_D_cut_s7 n (r32 + r41) v1 v2 (zs st64 0 0 0 ((st64 0 0 0) - 1)) = some out := hF
              generalize zs st64 0 0 0 ((st64 0 0 0) - 1) = st74 at hP hF
              unfold F_D_cut_s7 at hF
              refine lv_iload_n S.1 S.2.1 d_D_cut_74 rfl (lv_at hl 2 rfl) ?_
              refine lv_iload_n S.1 S.2.1 d_D_cut_75 rfl (lv_at hl 3 rfl) ?_
              refine va_mmin S.1 S.2.1 (S.2.2.1.trans hl.1.symm) S.2.2.2.1 (S.2.2.2.2 _ zx_89) (S.2.2.2.2 _ zx_122) (S.2.2.2.2 _ zx_53) (S.2.2.2.2 _ zx_1) (Nat.le_of_ble_eq_true rfl) (Nat.le_of_ble_eq_true rfl) (Nat.zero_le _) (Nat.zero_le _) d_D_cut_76 ?_
              refine lv_istore S.1 S.2.1 d_D_cut_79 hl (by decide) rfl (fun ls hl => ?_)
              have hl : lv_has ls 6 [(4, .int (if v2 < v1 then v2 else v1)), (3, .int (r32 + r41)), (0, .ref (ad (0, 0))), (1, .int v1), (2, .int v2)] := hl
              refine lv_iload_n S.1 S.2.1 d_D_cut_81 rfl (lv_at hl 3 rfl) ?_
              refine lv_iload_n S.1 S.2.1 d_D_cut_82 rfl (lv_at hl 4 rfl) ?_
              refine va_mmax S.1 S.2.1 (S.2.2.1.trans hl.1.symm) S.2.2.2.1 (S.2.2.2.2 _ zx_64) (S.2.2.2.2 _ zx_121) (S.2.2.2.2 _ zx_53) (S.2.2.2.2 _ zx_0) (Nat.le_of_ble_eq_true rfl) (Nat.le_of_ble_eq_true rfl) (Nat.zero_le _) (Nat.zero_le _) d_D_cut_83 ?_
              refine lv_istore S.1 S.2.1 d_D_cut_86 hl (by decide) rfl (fun ls hl => ?_)
              have hl : lv_has ls 6 [(5, .int (if v1 < v2 then v2 else v1)), (4, .int (if v2 < v1 then v2 else v1)), (3, .int (r32 + r41)), (0, .ref (ad (0, 0))), (1, .int v1), (2, .int v2)] := hl
              refine lv_aload_n S.1 S.2.1 d_D_cut_88 rfl (lv_at hl 3 rfl) ?_
              refine lv_iload S.1 S.2.1 d_D_cut_89 (lv_at hl 1 rfl) ?_
              refine lv_iload S.1 S.2.1 d_D_cut_91 (lv_at hl 0 rfl) ?_
              cases hc93 : F_D_lose n (if v2 < v1 then v2 else v1) (if v1 < v2 then v2 else v1) st74 with
              | none => rw [hc93] at hF; cases hF
              | some u93 =>
                obtain ⟨r93, st93⟩ := u93
                rw [hc93] at hF
                replace hF := zbind hF
                refine zr_callV (rest := []) S zT_good (C_D_lose hn hD l (if v2 < v1 then v2 else v1) (if v1 < v2 then v2 else v1) st74 (r93, st93) hc93) zn_D_lose zx_84 ⟨rfl, rfl⟩ ⟨Nat.le_of_ble_eq_true rfl, Nat.le_of_ble_eq_true rfl⟩ ⟨Nat.zero_le _, Nat.zero_le _⟩ hK (zr_recv hK hP zk_0 rfl rfl) hP hl.1 (Nat.le_of_ble_eq_true rfl) hS (fun _ h => h) d_D_cut_93 rfl (fun o H locs hpo _ _ hS => ?_)
                obtain ⟨rfl, hP⟩ := hpo
                refine W.eq (g2 := F0 m 96 ls []) rfl ?_
                replace hF : F_D_cut_s8 n (if v1 < v2 then v2 else v1) (if v2 < v1 then v2 else v1) (r32 + r41) st93 = some out := hF
                replace hP : zV (dC, dI) zcl (zKs n) ad (zcE n cI cZ cR cA ad) st93 H := hP
                unfold F_D_cut_s8 at hF
                refine lv_aload_n S.1 S.2.1 d_D_cut_96 rfl (lv_at hl 3 rfl) ?_
                refine lv_iload S.1 S.2.1 d_D_cut_97 (lv_at hl 0 rfl) ?_
                refine lv_iload S.1 S.2.1 d_D_cut_99 (lv_at hl 1 rfl) ?_
                cases hc101 : F_D_lose n (if v1 < v2 then v2 else v1) (if v2 < v1 then v2 else v1) st93 with
                | none => rw [hc101] at hF; cases hF
                | some u101 =>
                  obtain ⟨r101, st101⟩ := u101
                  rw [hc101] at hF
                  replace hF := zbind hF
                  refine zr_callV (rest := []) S zT_good (C_D_lose hn hD l (if v1 < v2 then v2 else v1) (if v2 < v1 then v2 else v1) st93 (r101, st101) hc101) zn_D_lose zx_84 ⟨rfl, rfl⟩ ⟨Nat.le_of_ble_eq_true rfl, Nat.le_of_ble_eq_true rfl⟩ ⟨Nat.zero_le _, Nat.zero_le _⟩ hK (zr_recv hK hP zk_0 rfl rfl) hP hl.1 (Nat.le_of_ble_eq_true rfl) hS (fun _ h => h) d_D_cut_101 rfl (fun o H locs hpo _ _ hS => ?_)
                  obtain ⟨rfl, hP⟩ := hpo
                  refine W.eq (g2 := F0 m 104 ls []) rfl ?_
                  replace hF : F_D_cut_s9 n (r32 + r41) st101 = some out := hF
                  replace hP : zV (dC, dI) zcl (zKs n) ad (zcE n cI cZ cR cA ad) st101 H := hP
                  unfold F_D_cut_s9 at hF
                  refine lv_iload_n S.1 S.2.1 d_D_cut_104 rfl (lv_at hl 2 rfl) ?_
                  cases hF
                  exact zr_iret S hret hlk hS d_D_cut_105 ⟨rfl, hP⟩
        · rw [if_neg h20] at hF
          refine lv_bipush (v := (-2)) S.1 S.2.1 d_D_cut_23 (by decide) ?_
          cases hF
          exact zr_iret S hret hlk hS d_D_cut_25 ⟨rfl, hP⟩
    · rw [if_pos h6] at hF
      refine lv_iconst (v := (-1)) S.1 S.2.1 d_D_cut_9 (by decide) ?_
      cases hF
      exact zr_iret S hret hlk hS d_D_cut_10 ⟨rfl, hP⟩

