theorem d_M_run_0 : decode b_M_run 0 = .ok (.iload_n 1, 1) := by decide +kernel
theorem d_M_run_1 : decode b_M_run 1 = .ok (.ifCond .lt 10, 3) := by decide +kernel
theorem d_M_run_4 : decode b_M_run 4 = .ok (.iload_n 1, 1) := by decide +kernel
theorem d_M_run_5 : decode b_M_run 5 = .ok (.sipush 200, 3) := by decide +kernel
theorem d_M_run_8 : decode b_M_run 8 = .ok (.if_icmp .le 5, 3) := by decide +kernel
theorem d_M_run_11 : decode b_M_run 11 = .ok (.iconst (-1), 1) := by decide +kernel
theorem d_M_run_12 : decode b_M_run 12 = .ok (.ireturn, 1) := by decide +kernel
theorem d_M_run_13 : decode b_M_run 13 = .ok (.iconst 0, 1) := by decide +kernel
theorem d_M_run_14 : decode b_M_run 14 = .ok (.istore_n 2, 1) := by decide +kernel
theorem d_M_run_15 : decode b_M_run 15 = .ok (.iload_n 2, 1) := by decide +kernel
theorem d_M_run_16 : decode b_M_run 16 = .ok (.iload_n 1, 1) := by decide +kernel
theorem d_M_run_17 : decode b_M_run 17 = .ok (.if_icmp .ge 32, 3) := by decide +kernel
theorem d_M_run_20 : decode b_M_run 20 = .ok (.aload_n 0, 1) := by decide +kernel
theorem d_M_run_21 : decode b_M_run 21 = .ok (.getfield 64, 3) := by decide +kernel
theorem d_M_run_24 : decode b_M_run 24 = .ok (.ifCond .le 25, 3) := by decide +kernel
theorem d_M_run_27 : decode b_M_run 27 = .ok (.aload_n 0, 1) := by decide +kernel
theorem d_M_run_28 : decode b_M_run 28 = .ok (.getfield 64, 3) := by decide +kernel
theorem d_M_run_31 : decode b_M_run 31 = .ok (.sipush 400, 3) := by decide +kernel
theorem d_M_run_34 : decode b_M_run 34 = .ok (.if_icmp .gt 15, 3) := by decide +kernel
theorem d_M_run_37 : decode b_M_run 37 = .ok (.aload_n 0, 1) := by decide +kernel
theorem d_M_run_38 : decode b_M_run 38 = .ok (.iconst 0, 1) := by decide +kernel
theorem d_M_run_39 : decode b_M_run 39 = .ok (.invokevirtual 135, 3) := by decide +kernel
theorem d_M_run_42 : decode b_M_run 42 = .ok (.istore_n 3, 1) := by decide +kernel
theorem d_M_run_43 : decode b_M_run 43 = .ok (.iinc 2 1, 3) := by decide +kernel
theorem d_M_run_46 : decode b_M_run 46 = .ok (.goto (-31), 3) := by decide +kernel
theorem d_M_run_49 : decode b_M_run 49 = .ok (.iload_n 2, 1) := by decide +kernel
theorem d_M_run_50 : decode b_M_run 50 = .ok (.ireturn, 1) := by decide +kernel
def F_M_run_L15_s1 (n : Nat) (c15 : Int32 → Int32 → zS → Option (Int32 × zS)) (v1 : Int32) (v2 : Int32) (t0 : Int32) (st : zS) : Option (Int32 × zS) :=
    c15 v1 (v2 + 1) st

def F_M_run_L15 (n : Nat) : Nat → Int32 → Int32 → zS → Option (Int32 × zS)
  | 0, _, _, _ => none
  | f + 1, v1, v2, st =>
    if v1 ≤ v2 then (some (v2, st)) else (if (st 0 0 0) ≤ 0 then (some (v2, st)) else (if 400 < (st 0 0 0) then (some (v2, st)) else ((F_M_arrive n 0 st).bind (fun u => F_M_run_L15_s1 n (F_M_run_L15 n f) v1 v2 u.1 u.2))))

def F_M_run (n : Nat) (v1 : Int32) (st : zS) : Option (Int32 × zS) :=
    if v1 < 0 then (some ((-1), st)) else (if v1 ≤ 200 then (F_M_run_L15 n zFuel v1 0 st) else (some ((-1), st)))

set_option maxHeartbeats 4000000 in
set_option maxRecDepth 1000000 in
theorem T_M_run_L15 {dC : Nat → ClassId} {dI : Nat → Nat → Nat} {cI cZ cR cA : ClassId} {n : Nat} {ad : zK → Nat} {A : Nat → Prop} (hn : 2 ≤ n ∧ n ≤ 6) (hD : zD A zKm ad) {p : Program} {l : Launch} {e : Env} {s : State} {m : MethodId} {args : Array Value} {below : List Frame} {meth : Method} {c : Code} (S : CallFix p m c b_M_run 4 s args zT N_M) (hret : meth.sig.returnType = some .int) (hlk : meth.locks = false) (hK : va_K (dC, dI) zcl (zty cI cZ cR cA) s) (out : Int32 × zS) : ∀ (fu : Nat) (v1 : Int32) (v2 : Int32) (st : zS) (H : Heap) (locs : List Loc) (ls : Array Slot) (hP : zV (dC, dI) zcl zKm ad (zmE n cI cZ ad) st H) (hS : va_S A s.heap H locs) (hl : lv_has ls 4 [(0, .ref (ad (0, 0))), (1, .int v1), (2, .int v2)]) (hF : F_M_run_L15 n fu v1 v2 st = some out), W p l e rm_M_run s m args below meth c H locs 0 0 (zQ below A (fun o H => o = some (.int out.1) ∧ zV (dC, dI) zcl zKm ad (zmE n cI cZ ad) out.2 H) args s) (F0 m 15 ls []) := by
  intro fu
  induction fu with
  | zero => intro v1 v2 st H locs ls hP hS hl hF; rw [F_M_run_L15] at hF; cases hF
  | succ f ih =>
    intro v1 v2 st H locs ls hP hS hl hF
    rw [F_M_run_L15] at hF
    refine lv_iload_n S.1 S.2.1 d_M_run_15 rfl (lv_at hl 2 rfl) ?_
    refine lv_iload_n S.1 S.2.1 d_M_run_16 rfl (lv_at hl 1 rfl) ?_
    refine lv_icmp_ge (tgt := 49) S.1 S.2.1 d_M_run_17 (by decide) (fun h17 => ?_) (fun h17 => ?_)
    · rw [if_pos h17] at hF
      refine lv_iload_n S.1 S.2.1 d_M_run_49 rfl (lv_at hl 2 rfl) ?_
      cases hF
      exact zr_iret S hret hlk hS d_M_run_50 ⟨rfl, hP⟩
    · rw [if_neg h17] at hF
      refine lv_aload_n S.1 S.2.1 d_M_run_20 rfl (lv_at hl 0 rfl) ?_
      refine zr_get (v := .int (st 0 0 0)) S zi_M hK hP zkm_0 rfl rfl 10 (by decide) zx_40 rfl d_M_run_21 ?_
      refine lv_if_le (tgt := 49) S.1 S.2.1 d_M_run_24 (by decide) (fun h24 => ?_) (fun h24 => ?_)
      · rw [if_pos h24] at hF
        refine lv_iload_n S.1 S.2.1 d_M_run_49 rfl (lv_at hl 2 rfl) ?_
        cases hF
        exact zr_iret S hret hlk hS d_M_run_50 ⟨rfl, hP⟩
      · rw [if_neg h24] at hF
        refine lv_aload_n S.1 S.2.1 d_M_run_27 rfl (lv_at hl 0 rfl) ?_
        refine zr_get (v := .int (st 0 0 0)) S zi_M hK hP zkm_0 rfl rfl 10 (by decide) zx_40 rfl d_M_run_28 ?_
        refine lv_sipush (v := 400) S.1 S.2.1 d_M_run_31 (by decide) ?_
        refine lv_icmp_gt (tgt := 49) S.1 S.2.1 d_M_run_34 (by decide) (fun h34 => ?_) (fun h34 => ?_)
        · rw [if_pos h34] at hF
          refine lv_iload_n S.1 S.2.1 d_M_run_49 rfl (lv_at hl 2 rfl) ?_
          cases hF
          exact zr_iret S hret hlk hS d_M_run_50 ⟨rfl, hP⟩
        · rw [if_neg h34] at hF
          refine lv_aload_n S.1 S.2.1 d_M_run_37 rfl (lv_at hl 0 rfl) ?_
          refine lv_iconst (v := 0) S.1 S.2.1 d_M_run_38 (by decide) ?_
          cases hc39 : F_M_arrive n 0 st with
          | none => rw [hc39] at hF; cases hF
          | some u39 =>
            obtain ⟨r39, st39⟩ := u39
            rw [hc39] at hF
            replace hF := zbind hF
            refine zr_callV (rest := []) S zT_good (C_M_arrive hn hD l 0 st (r39, st39) hc39) zn_M_arrive zx_105 ⟨rfl, rfl⟩ ⟨Nat.le_of_ble_eq_true rfl, Nat.le_of_ble_eq_true rfl⟩ ⟨Nat.zero_le _, Nat.zero_le _⟩ hK (zr_recv hK hP zkm_0 rfl rfl) hP hl.1 (Nat.le_of_ble_eq_true rfl) hS (fun _ h => h) d_M_run_39 rfl (fun o H locs hpo _ _ hS => ?_)
            obtain ⟨rfl, hP⟩ := hpo
            refine W.eq (g2 := F0 m 42 ls [.int r39]) rfl ?_
            replace hF : F_M_run_L15_s1 n (F_M_run_L15 n f) v1 v2 r39 st39 = some out := hF
            replace hP : zV (dC, dI) zcl zKm ad (zmE n cI cZ ad) st39 H := hP
            unfold F_M_run_L15_s1 at hF
            refine lv_istore_n S.1 S.2.1 d_M_run_42 rfl hl (by decide) rfl (fun ls hl => ?_)
            have hl : lv_has ls 4 [(3, .int r39), (0, .ref (ad (0, 0))), (1, .int v1), (2, .int v2)] := hl
            refine lv_iinc (k := 3) (v := v2 + 1) S.1 S.2.1 d_M_run_43 hl rfl rfl (by decide) rfl (fun ls hl => ?_)
            have hl : lv_has ls 4 [(2, .int (v2 + 1)), (3, .int r39), (0, .ref (ad (0, 0))), (1, .int v1)] := hl
            refine lv_goto (tgt := 15) S.1 S.2.1 d_M_run_46 (by decide) ?_
            exact ih v1 (v2 + 1) st39 _ _ _ hP hS (lv_sub hl [2, 3, 0] rfl) hF

set_option maxHeartbeats 4000000 in
set_option maxRecDepth 1000000 in
theorem C_M_run {dC : Nat → ClassId} {dI : Nat → Nat → Nat} {cI cZ cR cA : ClassId} {n : Nat} {ad : zK → Nat} {A : Nat → Prop} (hn : 2 ≤ n ∧ n ≤ 6) (hD : zD A zKm ad) (l : Launch) (v1 : Int32) (st : zS) (out : Int32 × zS) (hF : F_M_run n v1 st = some out) : zC zT (dC, dI) zcl (zty cI cZ cR cA) A l y_M_run b_M_run 4 (some .int) rm_M_run [.ref (ad (0, 0)), .int v1] (fun H => zV (dC, dI) zcl zKm ad (zmE n cI cZ ad) st H) (fun o H => o = some (.int out.1) ∧ zV (dC, dI) zcl zKm ad (zmE n cI cZ ad) out.2 H) := by
  refine zC_of (by decide) (Nat.le_of_ble_eq_true rfl) (fun p e s m args below meth c ls S hret hlk hK hP hl => ?_)
  have hS : va_S A s.heap s.heap [] := va_S.rf
  have hl : lv_has ls 4 [(0, .ref (ad (0, 0))), (1, .int v1)] := hl
  have hP : zV (dC, dI) zcl zKm ad (zmE n cI cZ ad) st s.heap := hP
  unfold F_M_run at hF
  refine lv_iload_n S.1 S.2.1 d_M_run_0 rfl (lv_at hl 1 rfl) ?_
  refine lv_if_lt (tgt := 11) S.1 S.2.1 d_M_run_1 (by decide) (fun h1 => ?_) (fun h1 => ?_)
  · rw [if_pos h1] at hF
    refine lv_iconst (v := (-1)) S.1 S.2.1 d_M_run_11 (by decide) ?_
    cases hF
    exact zr_iret S hret hlk hS d_M_run_12 ⟨rfl, hP⟩
  · rw [if_neg h1] at hF
    refine lv_iload_n S.1 S.2.1 d_M_run_4 rfl (lv_at hl 1 rfl) ?_
    refine lv_sipush (v := 200) S.1 S.2.1 d_M_run_5 (by decide) ?_
    refine lv_icmp_le (tgt := 13) S.1 S.2.1 d_M_run_8 (by decide) (fun h8 => ?_) (fun h8 => ?_)
    · rw [if_pos h8] at hF
      refine lv_iconst (v := 0) S.1 S.2.1 d_M_run_13 (by decide) ?_
      refine lv_istore_n S.1 S.2.1 d_M_run_14 rfl hl (by decide) rfl (fun ls hl => ?_)
      have hl : lv_has ls 4 [(2, .int 0), (0, .ref (ad (0, 0))), (1, .int v1)] := hl
      exact T_M_run_L15 hn hD S hret hlk hK out zFuel v1 0 st _ _ _ hP hS (lv_sub hl [1, 2, 0] rfl) hF
    · rw [if_neg h8] at hF
      refine lv_iconst (v := (-1)) S.1 S.2.1 d_M_run_11 (by decide) ?_
      cases hF
      exact zr_iret S hret hlk hS d_M_run_12 ⟨rfl, hP⟩

theorem d_M_cost_0 : decode b_M_cost 0 = .ok (.aload_n 0, 1) := by decide +kernel
theorem d_M_cost_1 : decode b_M_cost 1 = .ok (.iload_n 1, 1) := by decide +kernel
theorem d_M_cost_2 : decode b_M_cost 2 = .ok (.iload_n 2, 1) := by decide +kernel
theorem d_M_cost_3 : decode b_M_cost 3 = .ok (.invokevirtual 108, 3) := by decide +kernel
theorem d_M_cost_6 : decode b_M_cost 6 = .ok (.ifCond .eq 17, 3) := by decide +kernel
theorem d_M_cost_9 : decode b_M_cost 9 = .ok (.aload_n 0, 1) := by decide +kernel
theorem d_M_cost_10 : decode b_M_cost 10 = .ok (.getfield 7, 3) := by decide +kernel
theorem d_M_cost_13 : decode b_M_cost 13 = .ok (.bipush 6, 2) := by decide +kernel
theorem d_M_cost_15 : decode b_M_cost 15 = .ok (.iload_n 1, 1) := by decide +kernel
theorem d_M_cost_16 : decode b_M_cost 16 = .ok (.imul, 1) := by decide +kernel
theorem d_M_cost_17 : decode b_M_cost 17 = .ok (.iload_n 2, 1) := by decide +kernel
theorem d_M_cost_18 : decode b_M_cost 18 = .ok (.iadd, 1) := by decide +kernel
theorem d_M_cost_19 : decode b_M_cost 19 = .ok (.iaload, 1) := by decide +kernel
theorem d_M_cost_20 : decode b_M_cost 20 = .ok (.goto 4, 3) := by decide +kernel
theorem d_M_cost_23 : decode b_M_cost 23 = .ok (.iconst (-1), 1) := by decide +kernel
theorem d_M_cost_24 : decode b_M_cost 24 = .ok (.ireturn, 1) := by decide +kernel
def F_M_cost_s1 (n : Nat) (v1 : Int32) (v2 : Int32) (t0 : Int32) (st : zS) : Option (Int32 × zS) :=
    if t0 = 0 then (some ((-1), st)) else (if zOut ((6 * v1) + v2) 36 then none else some (st 1 0 (Int32.toNatClampNeg ((6 * v1) + v2)), st))

def F_M_cost (n : Nat) (v1 : Int32) (v2 : Int32) (st : zS) : Option (Int32 × zS) :=
    (F_M_isLink n v1 v2 st).bind (fun u => F_M_cost_s1 n v1 v2 u.1 u.2)

set_option maxHeartbeats 4000000 in
set_option maxRecDepth 1000000 in
theorem C_M_cost {dC : Nat → ClassId} {dI : Nat → Nat → Nat} {cI cZ cR cA : ClassId} {n : Nat} {ad : zK → Nat} {A : Nat → Prop} (hn : 2 ≤ n ∧ n ≤ 6) (hD : zD A zKm ad) (l : Launch) (v1 : Int32) (v2 : Int32) (st : zS) (out : Int32 × zS) (hF : F_M_cost n v1 v2 st = some out) : zC zT (dC, dI) zcl (zty cI cZ cR cA) A l y_M_cost b_M_cost 3 (some .int) rm_M_cost [.ref (ad (0, 0)), .int v1, .int v2] (fun H => zV (dC, dI) zcl zKm ad (zmE n cI cZ ad) st H) (fun o H => o = some (.int out.1) ∧ zV (dC, dI) zcl zKm ad (zmE n cI cZ ad) out.2 H) := by
  refine zC_of (by decide) (Nat.le_of_ble_eq_true rfl) (fun p e s m args below meth c ls S hret hlk hK hP hl => ?_)
  have hS : va_S A s.heap s.heap [] := va_S.rf
  have hl : lv_has ls 3 [(0, .ref (ad (0, 0))), (1, .int v1), (2, .int v2)] := hl
  have hP : zV (dC, dI) zcl zKm ad (zmE n cI cZ ad) st s.heap := hP
  unfold F_M_cost at hF
  refine lv_aload_n S.1 S.2.1 d_M_cost_0 rfl (lv_at hl 0 rfl) ?_
  refine lv_iload_n S.1 S.2.1 d_M_cost_1 rfl (lv_at hl 1 rfl) ?_
  refine lv_iload_n S.1 S.2.1 d_M_cost_2 rfl (lv_at hl 2 rfl) ?_
  cases hc3 : F_M_isLink n v1 v2 st with
  | none => rw [hc3] at hF; cases hF
  | some u3 =>
    obtain ⟨r3, st3⟩ := u3
    rw [hc3] at hF
    replace hF := zbind hF
    refine zr_callV (rest := []) S zT_good (C_M_isLink hn hD l v1 v2 st (r3, st3) hc3) zn_M_isLink zx_97 ⟨rfl, rfl⟩ ⟨Nat.le_of_ble_eq_true rfl, Nat.le_of_ble_eq_true rfl⟩ ⟨Nat.zero_le _, Nat.zero_le _⟩ hK (zr_recv hK hP zkm_0 rfl rfl) hP hl.1 (Nat.le_of_ble_eq_true rfl) hS (fun _ h => h) d_M_cost_3 rfl (fun o H locs hpo _ _ hS => ?_)
    obtain ⟨rfl, hP⟩ := hpo
    refine W.eq (g2 := F0 m 6 ls [.int r3]) rfl ?_
    replace hF : F_M_cost_s1 n v1 v2 r3 st3 = some out := hF
    replace hP : zV (dC, dI) zcl zKm ad (zmE n cI cZ ad) st3 H := hP
    unfold F_M_cost_s1 at hF
    refine lv_if_eq (tgt := 23) S.1 S.2.1 d_M_cost_6 (by decide) (fun h6 => ?_) (fun h6 => ?_)
    · rw [if_pos h6] at hF
      refine lv_iconst (v := (-1)) S.1 S.2.1 d_M_cost_23 (by decide) ?_
      cases hF
      exact zr_iret S hret hlk hS d_M_cost_24 ⟨rfl, hP⟩
    · rw [if_neg h6] at hF
      refine lv_aload_n S.1 S.2.1 d_M_cost_9 rfl (lv_at hl 0 rfl) ?_
      refine zr_get (v := .ref (ad (1, 0))) S zi_M hK hP zkm_0 rfl rfl 1 (by decide) zx_41 rfl d_M_cost_10 ?_
      refine lv_bipush (v := 6) S.1 S.2.1 d_M_cost_13 (by decide) ?_
      refine lv_iload_n S.1 S.2.1 d_M_cost_15 rfl (lv_at hl 1 rfl) ?_
      refine lv_imul S.1 S.2.1 d_M_cost_16 ?_
      refine lv_iload_n S.1 S.2.1 d_M_cost_17 rfl (lv_at hl 2 rfl) ?_
      refine lv_iadd S.1 S.2.1 d_M_cost_18 ?_
      by_cases g19 : zOut ((6 * v1) + v2) 36
      · rw [if_pos g19] at hF; cases hF
      rw [if_neg g19] at hF
      refine zr_iald S hK hP zkm_1 rfl 0 rfl g19 d_M_cost_19 ?_
      refine lv_goto (tgt := 24) S.1 S.2.1 d_M_cost_20 (by decide) ?_
      cases hF
      exact zr_iret S hret hlk hS d_M_cost_24 ⟨rfl, hP⟩

theorem d_M_distance_0 : decode b_M_distance 0 = .ok (.aload_n 0, 1) := by decide +kernel
theorem d_M_distance_1 : decode b_M_distance 1 = .ok (.iload_n 1, 1) := by decide +kernel
theorem d_M_distance_2 : decode b_M_distance 2 = .ok (.invokevirtual 60, 3) := by decide +kernel
theorem d_M_distance_5 : decode b_M_distance 5 = .ok (.ifCond .eq 25, 3) := by decide +kernel
theorem d_M_distance_8 : decode b_M_distance 8 = .ok (.aload_n 0, 1) := by decide +kernel
theorem d_M_distance_9 : decode b_M_distance 9 = .ok (.iload_n 2, 1) := by decide +kernel
theorem d_M_distance_10 : decode b_M_distance 10 = .ok (.invokevirtual 60, 3) := by decide +kernel
theorem d_M_distance_13 : decode b_M_distance 13 = .ok (.ifCond .eq 17, 3) := by decide +kernel
theorem d_M_distance_16 : decode b_M_distance 16 = .ok (.aload_n 0, 1) := by decide +kernel
theorem d_M_distance_17 : decode b_M_distance 17 = .ok (.getfield 13, 3) := by decide +kernel
theorem d_M_distance_20 : decode b_M_distance 20 = .ok (.bipush 6, 2) := by decide +kernel
theorem d_M_distance_22 : decode b_M_distance 22 = .ok (.iload_n 1, 1) := by decide +kernel
theorem d_M_distance_23 : decode b_M_distance 23 = .ok (.imul, 1) := by decide +kernel
theorem d_M_distance_24 : decode b_M_distance 24 = .ok (.iload_n 2, 1) := by decide +kernel
theorem d_M_distance_25 : decode b_M_distance 25 = .ok (.iadd, 1) := by decide +kernel
theorem d_M_distance_26 : decode b_M_distance 26 = .ok (.iaload, 1) := by decide +kernel
theorem d_M_distance_27 : decode b_M_distance 27 = .ok (.goto 4, 3) := by decide +kernel
theorem d_M_distance_30 : decode b_M_distance 30 = .ok (.iconst (-1), 1) := by decide +kernel
theorem d_M_distance_31 : decode b_M_distance 31 = .ok (.ireturn, 1) := by decide +kernel
def F_M_distance_s2 (n : Nat) (v1 : Int32) (v2 : Int32) (t0 : Int32) (st : zS) : Option (Int32 × zS) :=
    if t0 = 0 then (some ((-1), st)) else (if zOut ((6 * v1) + v2) 36 then none else some (st 2 0 (Int32.toNatClampNeg ((6 * v1) + v2)), st))

def F_M_distance_s1 (n : Nat) (v1 : Int32) (v2 : Int32) (t0 : Int32) (st : zS) : Option (Int32 × zS) :=
    if t0 = 0 then (some ((-1), st)) else ((F_M_isRouter n v2 st).bind (fun u => F_M_distance_s2 n v1 v2 u.1 u.2))

def F_M_distance (n : Nat) (v1 : Int32) (v2 : Int32) (st : zS) : Option (Int32 × zS) :=
    (F_M_isRouter n v1 st).bind (fun u => F_M_distance_s1 n v1 v2 u.1 u.2)

set_option maxHeartbeats 4000000 in
set_option maxRecDepth 1000000 in
theorem C_M_distance {dC : Nat → ClassId} {dI : Nat → Nat → Nat} {cI cZ cR cA : ClassId} {n : Nat} {ad : zK → Nat} {A : Nat → Prop} (hn : 2 ≤ n ∧ n ≤ 6) (hD : zD A zKm ad) (l : Launch) (v1 : Int32) (v2 : Int32) (st : zS) (out : Int32 × zS) (hF : F_M_distance n v1 v2 st = some out) : zC zT (dC, dI) zcl (zty cI cZ cR cA) A l y_M_distance b_M_distance 3 (some .int) rm_M_distance [.ref (ad (0, 0)), .int v1, .int v2] (fun H => zV (dC, dI) zcl zKm ad (zmE n cI cZ ad) st H) (fun o H => o = some (.int out.1) ∧ zV (dC, dI) zcl zKm ad (zmE n cI cZ ad) out.2 H) := by
  refine zC_of (by decide) (Nat.le_of_ble_eq_true rfl) (fun p e s m args below meth c ls S hret hlk hK hP hl => ?_)
  have hS : va_S A s.heap s.heap [] := va_S.rf
  have hl : lv_has ls 3 [(0, .ref (ad (0, 0))), (1, .int v1), (2, .int v2)] := hl
  have hP : zV (dC, dI) zcl zKm ad (zmE n cI cZ ad) st s.heap := hP
  unfold F_M_distance at hF
  refine lv_aload_n S.1 S.2.1 d_M_distance_0 rfl (lv_at hl 0 rfl) ?_
  refine lv_iload_n S.1 S.2.1 d_M_distance_1 rfl (lv_at hl 1 rfl) ?_
  cases hc2 : F_M_isRouter n v1 st with
  | none => rw [hc2] at hF; cases hF
  | some u2 =>
    obtain ⟨r2, st2⟩ := u2
    rw [hc2] at hF
    replace hF := zbind hF
    refine zr_callV (rest := []) S zT_good (C_M_isRouter hn hD l v1 st (r2, st2) hc2) zn_M_isRouter zx_106 ⟨rfl, rfl⟩ ⟨Nat.le_of_ble_eq_true rfl, Nat.le_of_ble_eq_true rfl⟩ ⟨Nat.zero_le _, Nat.zero_le _⟩ hK (zr_recv hK hP zkm_0 rfl rfl) hP hl.1 (Nat.le_of_ble_eq_true rfl) hS (fun _ h => h) d_M_distance_2 rfl (fun o H locs hpo _ _ hS => ?_)
    obtain ⟨rfl, hP⟩ := hpo
    refine W.eq (g2 := F0 m 5 ls [.int r2]) rfl ?_
    replace hF : F_M_distance_s1 n v1 v2 r2 st2 = some out := hF
    replace hP : zV (dC, dI) zcl zKm ad (zmE n cI cZ ad) st2 H := hP
    unfold F_M_distance_s1 at hF
    refine lv_if_eq (tgt := 30) S.1 S.2.1 d_M_distance_5 (by decide) (fun h5 => ?_) (fun h5 => ?_)
    · rw [if_pos h5] at hF
      refine lv_iconst (v := (-1)) S.1 S.2.1 d_M_distance_30 (by decide) ?_
      cases hF
      exact zr_iret S hret hlk hS d_M_distance_31 ⟨rfl, hP⟩
    · rw [if_neg h5] at hF
      refine lv_aload_n S.1 S.2.1 d_M_distance_8 rfl (lv_at hl 0 rfl) ?_
      refine lv_iload_n S.1 S.2.1 d_M_distance_9 rfl (lv_at hl 2 rfl) ?_
      cases hc10 : F_M_isRouter n v2 st2 with
      | none => rw [hc10] at hF; cases hF
      | some u10 =>
        obtain ⟨r10, st10⟩ := u10
        rw [hc10] at hF
        replace hF := zbind hF
        refine zr_callV (rest := []) S zT_good (C_M_isRouter hn hD l v2 st2 (r10, st10) hc10) zn_M_isRouter zx_106 ⟨rfl, rfl⟩ ⟨Nat.le_of_ble_eq_true rfl, Nat.le_of_ble_eq_true rfl⟩ ⟨Nat.zero_le _, Nat.zero_le _⟩ hK (zr_recv hK hP zkm_0 rfl rfl) hP hl.1 (Nat.le_of_ble_eq_true rfl) hS (fun _ h => h) d_M_distance_10 rfl (fun o H locs hpo _ _ hS => ?_)
        obtain ⟨rfl, hP⟩ := hpo
        refine W.eq (g2 := F0 m 13 ls [.int r10]) rfl ?_
        replace hF : F_M_distance_s2 n v1 v2 r10 st10 = some out := hF
        replace hP : zV (dC, dI) zcl zKm ad (zmE n cI cZ ad) st10 H := hP
        unfold F_M_distance_s2 at hF
        refine lv_if_eq (tgt := 30) S.1 S.2.1 d_M_distance_13 (by decide) (fun h13 => ?_) (fun h13 => ?_)
        · rw [if_pos h13] at hF
          refine lv_iconst (v := (-1)) S.1 S.2.1 d_M_distance_30 (by decide) ?_
          cases hF
          exact zr_iret S hret hlk hS d_M_distance_31 ⟨rfl, hP⟩
        · rw [if_neg h13] at hF
          refine lv_aload_n S.1 S.2.1 d_M_distance_16 rfl (lv_at hl 0 rfl) ?_
          refine zr_get (v := .ref (ad (2, 0))) S zi_M hK hP zkm_0 rfl rfl 2 (by decide) zx_25 rfl d_M_distance_17 ?_
          refine lv_bipush (v := 6) S.1 S.2.1 d_M_distance_20 (by decide) ?_
          refine lv_iload_n S.1 S.2.1 d_M_distance_22 rfl (lv_at hl 1 rfl) ?_
          refine lv_imul S.1 S.2.1 d_M_distance_23 ?_
          refine lv_iload_n S.1 S.2.1 d_M_distance_24 rfl (lv_at hl 2 rfl) ?_
          refine lv_iadd S.1 S.2.1 d_M_distance_25 ?_
          by_cases g26 : zOut ((6 * v1) + v2) 36
          · rw [if_pos g26] at hF; cases hF
          rw [if_neg g26] at hF
          refine zr_iald S hK hP zkm_2 rfl 0 rfl g26 d_M_distance_26 ?_
          refine lv_goto (tgt := 31) S.1 S.2.1 d_M_distance_27 (by decide) ?_
          cases hF
          exact zr_iret S hret hlk hS d_M_distance_31 ⟨rfl, hP⟩

theorem d_M_limit_0 : decode b_M_limit 0 = .ok (.aload_n 0, 1) := by decide +kernel
theorem d_M_limit_1 : decode b_M_limit 1 = .ok (.iload_n 1, 1) := by decide +kernel
theorem d_M_limit_2 : decode b_M_limit 2 = .ok (.invokevirtual 60, 3) := by decide +kernel
theorem d_M_limit_5 : decode b_M_limit 5 = .ok (.ifCond .eq 25, 3) := by decide +kernel
theorem d_M_limit_8 : decode b_M_limit 8 = .ok (.aload_n 0, 1) := by decide +kernel
theorem d_M_limit_9 : decode b_M_limit 9 = .ok (.iload_n 2, 1) := by decide +kernel
theorem d_M_limit_10 : decode b_M_limit 10 = .ok (.invokevirtual 60, 3) := by decide +kernel
theorem d_M_limit_13 : decode b_M_limit 13 = .ok (.ifCond .eq 17, 3) := by decide +kernel
theorem d_M_limit_16 : decode b_M_limit 16 = .ok (.aload_n 0, 1) := by decide +kernel
theorem d_M_limit_17 : decode b_M_limit 17 = .ok (.getfield 16, 3) := by decide +kernel
theorem d_M_limit_20 : decode b_M_limit 20 = .ok (.bipush 6, 2) := by decide +kernel
theorem d_M_limit_22 : decode b_M_limit 22 = .ok (.iload_n 1, 1) := by decide +kernel
theorem d_M_limit_23 : decode b_M_limit 23 = .ok (.imul, 1) := by decide +kernel
theorem d_M_limit_24 : decode b_M_limit 24 = .ok (.iload_n 2, 1) := by decide +kernel
theorem d_M_limit_25 : decode b_M_limit 25 = .ok (.iadd, 1) := by decide +kernel
theorem d_M_limit_26 : decode b_M_limit 26 = .ok (.iaload, 1) := by decide +kernel
theorem d_M_limit_27 : decode b_M_limit 27 = .ok (.goto 4, 3) := by decide +kernel
theorem d_M_limit_30 : decode b_M_limit 30 = .ok (.iconst (-1), 1) := by decide +kernel
theorem d_M_limit_31 : decode b_M_limit 31 = .ok (.ireturn, 1) := by decide +kernel
def F_M_limit_s2 (n : Nat) (v1 : Int32) (v2 : Int32) (t0 : Int32) (st : zS) : Option (Int32 × zS) :=
    if t0 = 0 then (some ((-1), st)) else (if zOut ((6 * v1) + v2) 36 then none else some (st 3 0 (Int32.toNatClampNeg ((6 * v1) + v2)), st))

def F_M_limit_s1 (n : Nat) (v1 : Int32) (v2 : Int32) (t0 : Int32) (st : zS) : Option (Int32 × zS) :=
    if t0 = 0 then (some ((-1), st)) else ((F_M_isRouter n v2 st).bind (fun u => F_M_limit_s2 n v1 v2 u.1 u.2))

def F_M_limit (n : Nat) (v1 : Int32) (v2 : Int32) (st : zS) : Option (Int32 × zS) :=
    (F_M_isRouter n v1 st).bind (fun u => F_M_limit_s1 n v1 v2 u.1 u.2)

set_option maxHeartbeats 4000000 in
set_option maxRecDepth 1000000 in
theorem C_M_limit {dC : Nat → ClassId} {dI : Nat → Nat → Nat} {cI cZ cR cA : ClassId} {n : Nat} {ad : zK → Nat} {A : Nat → Prop} (hn : 2 ≤ n ∧ n ≤ 6) (hD : zD A zKm ad) (l : Launch) (v1 : Int32) (v2 : Int32) (st : zS) (out : Int32 × zS) (hF : F_M_limit n v1 v2 st = some out) : zC zT (dC, dI) zcl (zty cI cZ cR cA) A l y_M_limit b_M_limit 3 (some .int) rm_M_limit [.ref (ad (0, 0)), .int v1, .int v2] (fun H => zV (dC, dI) zcl zKm ad (zmE n cI cZ ad) st H) (fun o H => o = some (.int out.1) ∧ zV (dC, dI) zcl zKm ad (zmE n cI cZ ad) out.2 H) := by
  refine zC_of (by decide) (Nat.le_of_ble_eq_true rfl) (fun p e s m args below meth c ls S hret hlk hK hP hl => ?_)
  have hS : va_S A s.heap s.heap [] := va_S.rf
  have hl : lv_has ls 3 [(0, .ref (ad (0, 0))), (1, .int v1), (2, .int v2)] := hl
  have hP : zV (dC, dI) zcl zKm ad (zmE n cI cZ ad) st s.heap := hP
  unfold F_M_limit at hF
  refine lv_aload_n S.1 S.2.1 d_M_limit_0 rfl (lv_at hl 0 rfl) ?_
  refine lv_iload_n S.1 S.2.1 d_M_limit_1 rfl (lv_at hl 1 rfl) ?_
  cases hc2 : F_M_isRouter n v1 st with
  | none => rw [hc2] at hF; cases hF
  | some u2 =>
    obtain ⟨r2, st2⟩ := u2
    rw [hc2] at hF
    replace hF := zbind hF
    refine zr_callV (rest := []) S zT_good (C_M_isRouter hn hD l v1 st (r2, st2) hc2) zn_M_isRouter zx_106 ⟨rfl, rfl⟩ ⟨Nat.le_of_ble_eq_true rfl, Nat.le_of_ble_eq_true rfl⟩ ⟨Nat.zero_le _, Nat.zero_le _⟩ hK (zr_recv hK hP zkm_0 rfl rfl) hP hl.1 (Nat.le_of_ble_eq_true rfl) hS (fun _ h => h) d_M_limit_2 rfl (fun o H locs hpo _ _ hS => ?_)
    obtain ⟨rfl, hP⟩ := hpo
    refine W.eq (g2 := F0 m 5 ls [.int r2]) rfl ?_
    replace hF : F_M_limit_s1 n v1 v2 r2 st2 = some out := hF
    replace hP : zV (dC, dI) zcl zKm ad (zmE n cI cZ ad) st2 H := hP
    unfold F_M_limit_s1 at hF
    refine lv_if_eq (tgt := 30) S.1 S.2.1 d_M_limit_5 (by decide) (fun h5 => ?_) (fun h5 => ?_)
    · rw [if_pos h5] at hF
      refine lv_iconst (v := (-1)) S.1 S.2.1 d_M_limit_30 (by decide) ?_
      cases hF
      exact zr_iret S hret hlk hS d_M_limit_31 ⟨rfl, hP⟩
    · rw [if_neg h5] at hF
      refine lv_aload_n S.1 S.2.1 d_M_limit_8 rfl (lv_at hl 0 rfl) ?_
      refine lv_iload_n S.1 S.2.1 d_M_limit_9 rfl (lv_at hl 2 rfl) ?_
      cases hc10 : F_M_isRouter n v2 st2 with
      | none => rw [hc10] at hF; cases hF
      | some u10 =>
        obtain ⟨r10, st10⟩ := u10
        rw [hc10] at hF
        replace hF := zbind hF
        refine zr_callV (rest := []) S zT_good (C_M_isRouter hn hD l v2 st2 (r10, st10) hc10) zn_M_isRouter zx_106 ⟨rfl, rfl⟩ ⟨Nat.le_of_ble_eq_true rfl, Nat.le_of_ble_eq_true rfl⟩ ⟨Nat.zero_le _, Nat.zero_le _⟩ hK (zr_recv hK hP zkm_0 rfl rfl) hP hl.1 (Nat.le_of_ble_eq_true rfl) hS (fun _ h => h) d_M_limit_10 rfl (fun o H locs hpo _ _ hS => ?_)
        obtain ⟨rfl, hP⟩ := hpo
        refine W.eq (g2 := F0 m 13 ls [.int r10]) rfl ?_
        replace hF : F_M_limit_s2 n v1 v2 r10 st10 = some out := hF
        replace hP : zV (dC, dI) zcl zKm ad (zmE n cI cZ ad) st10 H := hP
        unfold F_M_limit_s2 at hF
        refine lv_if_eq (tgt := 30) S.1 S.2.1 d_M_limit_13 (by decide) (fun h13 => ?_) (fun h13 => ?_)
        · rw [if_pos h13] at hF
          refine lv_iconst (v := (-1)) S.1 S.2.1 d_M_limit_30 (by decide) ?_
          cases hF
          exact zr_iret S hret hlk hS d_M_limit_31 ⟨rfl, hP⟩
        · rw [if_neg h13] at hF
          refine lv_aload_n S.1 S.2.1 d_M_limit_16 rfl (lv_at hl 0 rfl) ?_
          refine zr_get (v := .ref (ad (3, 0))) S zi_M hK hP zkm_0 rfl rfl 3 (by decide) zx_26 rfl d_M_limit_17 ?_
          refine lv_bipush (v := 6) S.1 S.2.1 d_M_limit_20 (by decide) ?_
          refine lv_iload_n S.1 S.2.1 d_M_limit_22 rfl (lv_at hl 1 rfl) ?_
          refine lv_imul S.1 S.2.1 d_M_limit_23 ?_
          refine lv_iload_n S.1 S.2.1 d_M_limit_24 rfl (lv_at hl 2 rfl) ?_
          refine lv_iadd S.1 S.2.1 d_M_limit_25 ?_
          by_cases g26 : zOut ((6 * v1) + v2) 36
          · rw [if_pos g26] at hF; cases hF
          rw [if_neg g26] at hF
          refine zr_iald S hK hP zkm_3 rfl 0 rfl g26 d_M_limit_26 ?_
          refine lv_goto (tgt := 31) S.1 S.2.1 d_M_limit_27 (by decide) ?_
          cases hF
          exact zr_iret S hret hlk hS d_M_limit_31 ⟨rfl, hP⟩

theorem d_M_next_0 : decode b_M_next 0 = .ok (.aload_n 0, 1) := by decide +kernel
theorem d_M_next_1 : decode b_M_next 1 = .ok (.iload_n 1, 1) := by decide +kernel
theorem d_M_next_2 : decode b_M_next 2 = .ok (.invokevirtual 60, 3) := by decide +kernel
theorem d_M_next_5 : decode b_M_next 5 = .ok (.ifCond .eq 25, 3) := by decide +kernel
theorem d_M_next_8 : decode b_M_next 8 = .ok (.aload_n 0, 1) := by decide +kernel
theorem d_M_next_9 : decode b_M_next 9 = .ok (.iload_n 2, 1) := by decide +kernel
theorem d_M_next_10 : decode b_M_next 10 = .ok (.invokevirtual 60, 3) := by decide +kernel
theorem d_M_next_13 : decode b_M_next 13 = .ok (.ifCond .eq 17, 3) := by decide +kernel
theorem d_M_next_16 : decode b_M_next 16 = .ok (.aload_n 0, 1) := by decide +kernel
theorem d_M_next_17 : decode b_M_next 17 = .ok (.getfield 19, 3) := by decide +kernel
theorem d_M_next_20 : decode b_M_next 20 = .ok (.bipush 6, 2) := by decide +kernel
theorem d_M_next_22 : decode b_M_next 22 = .ok (.iload_n 1, 1) := by decide +kernel
theorem d_M_next_23 : decode b_M_next 23 = .ok (.imul, 1) := by decide +kernel
theorem d_M_next_24 : decode b_M_next 24 = .ok (.iload_n 2, 1) := by decide +kernel
theorem d_M_next_25 : decode b_M_next 25 = .ok (.iadd, 1) := by decide +kernel
theorem d_M_next_26 : decode b_M_next 26 = .ok (.iaload, 1) := by decide +kernel
theorem d_M_next_27 : decode b_M_next 27 = .ok (.goto 4, 3) := by decide +kernel
theorem d_M_next_30 : decode b_M_next 30 = .ok (.iconst (-1), 1) := by decide +kernel
theorem d_M_next_31 : decode b_M_next 31 = .ok (.ireturn, 1) := by decide +kernel
def F_M_next_s2 (n : Nat) (v1 : Int32) (v2 : Int32) (t0 : Int32) (st : zS) : Option (Int32 × zS) :=
    if t0 = 0 then (some ((-1), st)) else (if zOut ((6 * v1) + v2) 36 then none else some (st 4 0 (Int32.toNatClampNeg ((6 * v1) + v2)), st))

def F_M_next_s1 (n : Nat) (v1 : Int32) (v2 : Int32) (t0 : Int32) (st : zS) : Option (Int32 × zS) :=
    if t0 = 0 then (some ((-1), st)) else ((F_M_isRouter n v2 st).bind (fun u => F_M_next_s2 n v1 v2 u.1 u.2))

def F_M_next (n : Nat) (v1 : Int32) (v2 : Int32) (st : zS) : Option (Int32 × zS) :=
    (F_M_isRouter n v1 st).bind (fun u => F_M_next_s1 n v1 v2 u.1 u.2)

set_option maxHeartbeats 4000000 in
set_option maxRecDepth 1000000 in
theorem C_M_next {dC : Nat → ClassId} {dI : Nat → Nat → Nat} {cI cZ cR cA : ClassId} {n : Nat} {ad : zK → Nat} {A : Nat → Prop} (hn : 2 ≤ n ∧ n ≤ 6) (hD : zD A zKm ad) (l : Launch) (v1 : Int32) (v2 : Int32) (st : zS) (out : Int32 × zS) (hF : F_M_next n v1 v2 st = some out) : zC zT (dC, dI) zcl (zty cI cZ cR cA) A l y_M_next b_M_next 3 (some .int) rm_M_next [.ref (ad (0, 0)), .int v1, .int v2] (fun H => zV (dC, dI) zcl zKm ad (zmE n cI cZ ad) st H) (fun o H => o = some (.int out.1) ∧ zV (dC, dI) zcl zKm ad (zmE n cI cZ ad) out.2 H) := by
  refine zC_of (by decide) (Nat.le_of_ble_eq_true rfl) (fun p e s m args below meth c ls S hret hlk hK hP hl => ?_)
  have hS : va_S A s.heap s.heap [] := va_S.rf
  have hl : lv_has ls 3 [(0, .ref (ad (0, 0))), (1, .int v1), (2, .int v2)] := hl
  have hP : zV (dC, dI) zcl zKm ad (zmE n cI cZ ad) st s.heap := hP
  unfold F_M_next at hF
  refine lv_aload_n S.1 S.2.1 d_M_next_0 rfl (lv_at hl 0 rfl) ?_
  refine lv_iload_n S.1 S.2.1 d_M_next_1 rfl (lv_at hl 1 rfl) ?_
  cases hc2 : F_M_isRouter n v1 st with
  | none => rw [hc2] at hF; cases hF
  | some u2 =>
    obtain ⟨r2, st2⟩ := u2
    rw [hc2] at hF
    replace hF := zbind hF
    refine zr_callV (rest := []) S zT_good (C_M_isRouter hn hD l v1 st (r2, st2) hc2) zn_M_isRouter zx_106 ⟨rfl, rfl⟩ ⟨Nat.le_of_ble_eq_true rfl, Nat.le_of_ble_eq_true rfl⟩ ⟨Nat.zero_le _, Nat.zero_le _⟩ hK (zr_recv hK hP zkm_0 rfl rfl) hP hl.1 (Nat.le_of_ble_eq_true rfl) hS (fun _ h => h) d_M_next_2 rfl (fun o H locs hpo _ _ hS => ?_)
    obtain ⟨rfl, hP⟩ := hpo
    refine W.eq (g2 := F0 m 5 ls [.int r2]) rfl ?_
    replace hF : F_M_next_s1 n v1 v2 r2 st2 = some out := hF
    replace hP : zV (dC, dI) zcl zKm ad (zmE n cI cZ ad) st2 H := hP
    unfold F_M_next_s1 at hF
    refine lv_if_eq (tgt := 30) S.1 S.2.1 d_M_next_5 (by decide) (fun h5 => ?_) (fun h5 => ?_)
    · rw [if_pos h5] at hF
      refine lv_iconst (v := (-1)) S.1 S.2.1 d_M_next_30 (by decide) ?_
      cases hF
      exact zr_iret S hret hlk hS d_M_next_31 ⟨rfl, hP⟩
    · rw [if_neg h5] at hF
      refine lv_aload_n S.1 S.2.1 d_M_next_8 rfl (lv_at hl 0 rfl) ?_
      refine lv_iload_n S.1 S.2.1 d_M_next_9 rfl (lv_at hl 2 rfl) ?_
      cases hc10 : F_M_isRouter n v2 st2 with
      | none => rw [hc10] at hF; cases hF
      | some u10 =>
        obtain ⟨r10, st10⟩ := u10
        rw [hc10] at hF
        replace hF := zbind hF
        refine zr_callV (rest := []) S zT_good (C_M_isRouter hn hD l v2 st2 (r10, st10) hc10) zn_M_isRouter zx_106 ⟨rfl, rfl⟩ ⟨Nat.le_of_ble_eq_true rfl, Nat.le_of_ble_eq_true rfl⟩ ⟨Nat.zero_le _, Nat.zero_le _⟩ hK (zr_recv hK hP zkm_0 rfl rfl) hP hl.1 (Nat.le_of_ble_eq_true rfl) hS (fun _ h => h) d_M_next_10 rfl (fun o H locs hpo _ _ hS => ?_)
        obtain ⟨rfl, hP⟩ := hpo
        refine W.eq (g2 := F0 m 13 ls [.int r10]) rfl ?_
        replace hF : F_M_next_s2 n v1 v2 r10 st10 = some out := hF
        replace hP : zV (dC, dI) zcl zKm ad (zmE n cI cZ ad) st10 H := hP
        unfold F_M_next_s2 at hF
        refine lv_if_eq (tgt := 30) S.1 S.2.1 d_M_next_13 (by decide) (fun h13 => ?_) (fun h13 => ?_)
        · rw [if_pos h13] at hF
          refine lv_iconst (v := (-1)) S.1 S.2.1 d_M_next_30 (by decide) ?_
          cases hF
          exact zr_iret S hret hlk hS d_M_next_31 ⟨rfl, hP⟩
        · rw [if_neg h13] at hF
          refine lv_aload_n S.1 S.2.1 d_M_next_16 rfl (lv_at hl 0 rfl) ?_
          refine zr_get (v := .ref (ad (4, 0))) S zi_M hK hP zkm_0 rfl rfl 4 (by decide) zx_27 rfl d_M_next_17 ?_
          refine lv_bipush (v := 6) S.1 S.2.1 d_M_next_20 (by decide) ?_
          refine lv_iload_n S.1 S.2.1 d_M_next_22 rfl (lv_at hl 1 rfl) ?_
          refine lv_imul S.1 S.2.1 d_M_next_23 ?_
          refine lv_iload_n S.1 S.2.1 d_M_next_24 rfl (lv_at hl 2 rfl) ?_
          refine lv_iadd S.1 S.2.1 d_M_next_25 ?_
          by_cases g26 : zOut ((6 * v1) + v2) 36
          · rw [if_pos g26] at hF; cases hF
          rw [if_neg g26] at hF
          refine zr_iald S hK hP zkm_4 rfl 0 rfl g26 d_M_next_26 ?_
          refine lv_goto (tgt := 31) S.1 S.2.1 d_M_next_27 (by decide) ?_
          cases hF
          exact zr_iret S hret hlk hS d_M_next_31 ⟨rfl, hP⟩

theorem d_M_state_0 : decode b_M_state 0 = .ok (.aload_n 0, 1) := by decide +kernel
theorem d_M_state_1 : decode b_M_state 1 = .ok (.iload_n 1, 1) := by decide +kernel
theorem d_M_state_2 : decode b_M_state 2 = .ok (.invokevirtual 60, 3) := by decide +kernel
theorem d_M_state_5 : decode b_M_state 5 = .ok (.ifCond .eq 11, 3) := by decide +kernel
theorem d_M_state_8 : decode b_M_state 8 = .ok (.aload_n 0, 1) := by decide +kernel
theorem d_M_state_9 : decode b_M_state 9 = .ok (.iload_n 2, 1) := by decide +kernel
theorem d_M_state_10 : decode b_M_state 10 = .ok (.invokevirtual 60, 3) := by decide +kernel
theorem d_M_state_13 : decode b_M_state 13 = .ok (.ifCond .ne 5, 3) := by decide +kernel
theorem d_M_state_16 : decode b_M_state 16 = .ok (.iconst (-1), 1) := by decide +kernel
theorem d_M_state_17 : decode b_M_state 17 = .ok (.ireturn, 1) := by decide +kernel
theorem d_M_state_18 : decode b_M_state 18 = .ok (.bipush 6, 2) := by decide +kernel
theorem d_M_state_20 : decode b_M_state 20 = .ok (.iload_n 1, 1) := by decide +kernel
theorem d_M_state_21 : decode b_M_state 21 = .ok (.imul, 1) := by decide +kernel
theorem d_M_state_22 : decode b_M_state 22 = .ok (.iload_n 2, 1) := by decide +kernel
theorem d_M_state_23 : decode b_M_state 23 = .ok (.iadd, 1) := by decide +kernel
theorem d_M_state_24 : decode b_M_state 24 = .ok (.istore_n 3, 1) := by decide +kernel
theorem d_M_state_25 : decode b_M_state 25 = .ok (.aload_n 0, 1) := by decide +kernel
theorem d_M_state_26 : decode b_M_state 26 = .ok (.getfield 22, 3) := by decide +kernel
theorem d_M_state_29 : decode b_M_state 29 = .ok (.iload_n 3, 1) := by decide +kernel
theorem d_M_state_30 : decode b_M_state 30 = .ok (.baload, 1) := by decide +kernel
theorem d_M_state_31 : decode b_M_state 31 = .ok (.ifCond .eq 37, 3) := by decide +kernel
theorem d_M_state_34 : decode b_M_state 34 = .ok (.iconst 1, 1) := by decide +kernel
theorem d_M_state_35 : decode b_M_state 35 = .ok (.aload_n 0, 1) := by decide +kernel
theorem d_M_state_36 : decode b_M_state 36 = .ok (.getfield 29, 3) := by decide +kernel
theorem d_M_state_39 : decode b_M_state 39 = .ok (.iload_n 3, 1) := by decide +kernel
theorem d_M_state_40 : decode b_M_state 40 = .ok (.baload, 1) := by decide +kernel
theorem d_M_state_41 : decode b_M_state 41 = .ok (.ifCond .eq 7, 3) := by decide +kernel
theorem d_M_state_44 : decode b_M_state 44 = .ok (.iconst 1, 1) := by decide +kernel
theorem d_M_state_45 : decode b_M_state 45 = .ok (.goto 4, 3) := by decide +kernel
theorem d_M_state_48 : decode b_M_state 48 = .ok (.iconst 0, 1) := by decide +kernel
theorem d_M_state_49 : decode b_M_state 49 = .ok (.iadd, 1) := by decide +kernel
theorem d_M_state_50 : decode b_M_state 50 = .ok (.aload_n 0, 1) := by decide +kernel
theorem d_M_state_51 : decode b_M_state 51 = .ok (.getfield 26, 3) := by decide +kernel
theorem d_M_state_54 : decode b_M_state 54 = .ok (.iload_n 3, 1) := by decide +kernel
theorem d_M_state_55 : decode b_M_state 55 = .ok (.baload, 1) := by decide +kernel
theorem d_M_state_56 : decode b_M_state 56 = .ok (.ifCond .eq 7, 3) := by decide +kernel
theorem d_M_state_59 : decode b_M_state 59 = .ok (.iconst 2, 1) := by decide +kernel
theorem d_M_state_60 : decode b_M_state 60 = .ok (.goto 4, 3) := by decide +kernel
theorem d_M_state_63 : decode b_M_state 63 = .ok (.iconst 0, 1) := by decide +kernel
theorem d_M_state_64 : decode b_M_state 64 = .ok (.iadd, 1) := by decide +kernel
theorem d_M_state_65 : decode b_M_state 65 = .ok (.goto 4, 3) := by decide +kernel
theorem d_M_state_68 : decode b_M_state 68 = .ok (.iconst 0, 1) := by decide +kernel
theorem d_M_state_69 : decode b_M_state 69 = .ok (.ireturn, 1) := by decide +kernel
def F_M_state_L64 (n : Nat) (t0 : Int32) (t1 : Int32) (st : zS) : Option (Int32 × zS) :=
    some (t0 + t1, st)

def F_M_state_L49 (n : Nat) (v3 : Int32) (t0 : Int32) (t1 : Int32) (st : zS) : Option (Int32 × zS) :=
    if zOut v3 36 then none else if (st 6 0 (Int32.toNatClampNeg v3)) = 0 then (F_M_state_L64 n (t0 + t1) 0 st) else (F_M_state_L64 n (t0 + t1) 2 st)

def F_M_state_s2 (n : Nat) (v1 : Int32) (v2 : Int32) (t0 : Int32) (st : zS) : Option (Int32 × zS) :=
    if t0 = 0 then (some ((-1), st)) else (if zOut ((6 * v1) + v2) 36 then none else if (st 5 0 (Int32.toNatClampNeg ((6 * v1) + v2))) = 0 then (some (0, st)) else (if zOut ((6 * v1) + v2) 36 then none else if (st 7 0 (Int32.toNatClampNeg ((6 * v1) + v2))) = 0 then (F_M_state_L49 n ((6 * v1) + v2) 1 0 st) else (F_M_state_L49 n ((6 * v1) + v2) 1 1 st)))

def F_M_state_s1 (n : Nat) (v1 : Int32) (v2 : Int32) (t0 : Int32) (st : zS) : Option (Int32 × zS) :=
    if t0 = 0 then (some ((-1), st)) else ((F_M_isRouter n v2 st).bind (fun u => F_M_state_s2 n v1 v2 u.1 u.2))

def F_M_state (n : Nat) (v1 : Int32) (v2 : Int32) (st : zS) : Option (Int32 × zS) :=
    (F_M_isRouter n v1 st).bind (fun u => F_M_state_s1 n v1 v2 u.1 u.2)

set_option maxHeartbeats 4000000 in
set_option maxRecDepth 1000000 in
theorem T_M_state_L64 {dC : Nat → ClassId} {dI : Nat → Nat → Nat} {cI cZ cR cA : ClassId} {n : Nat} {ad : zK → Nat} {A : Nat → Prop} (hn : 2 ≤ n ∧ n ≤ 6) (hD : zD A zKm ad) {p : Program} {l : Launch} {e : Env} {s : State} {m : MethodId} {args : Array Value} {below : List Frame} {meth : Method} {c : Code} (S : CallFix p m c b_M_state 4 s args zT N_M) (hret : meth.sig.returnType = some .int) (hlk : meth.locks = false) (hK : va_K (dC, dI) zcl (zty cI cZ cR cA) s) (out : Int32 × zS) (t0 : Int32) (t1 : Int32) (st : zS) (H : Heap) (locs : List Loc) (ls : Array Slot) (hP : zV (dC, dI) zcl zKm ad (zmE n cI cZ ad) st H) (hS : va_S A s.heap H locs) (hl : lv_has ls 4 []) (hF : F_M_state_L64 n t0 t1 st = some out) : W p l e rm_M_state s m args below meth c H locs 0 0 (zQ below A (fun o H => o = some (.int out.1) ∧ zV (dC, dI) zcl zKm ad (zmE n cI cZ ad) out.2 H) args s) (F0 m 64 ls [.int t1, .int t0]) := by
  unfold F_M_state_L64 at hF
  refine lv_iadd S.1 S.2.1 d_M_state_64 ?_
  refine lv_goto (tgt := 69) S.1 S.2.1 d_M_state_65 (by decide) ?_
  cases hF
  exact zr_iret S hret hlk hS d_M_state_69 ⟨rfl, hP⟩

set_option maxHeartbeats 4000000 in
set_option maxRecDepth 1000000 in
theorem T_M_state_L49 {dC : Nat → ClassId} {dI : Nat → Nat → Nat} {cI cZ cR cA : ClassId} {n : Nat} {ad : zK → Nat} {A : Nat → Prop} (hn : 2 ≤ n ∧ n ≤ 6) (hD : zD A zKm ad) {p : Program} {l : Launch} {e : Env} {s : State} {m : MethodId} {args : Array Value} {below : List Frame} {meth : Method} {c : Code} (S : CallFix p m c b_M_state 4 s args zT N_M) (hret : meth.sig.returnType = some .int) (hlk : meth.locks = false) (hK : va_K (dC, dI) zcl (zty cI cZ cR cA) s) (out : Int32 × zS) (v3 : Int32) (t0 : Int32) (t1 : Int32) (st : zS) (H : Heap) (locs : List Loc) (ls : Array Slot) (hP : zV (dC, dI) zcl zKm ad (zmE n cI cZ ad) st H) (hS : va_S A s.heap H locs) (hl : lv_has ls 4 [(0, .ref (ad (0, 0))), (3, .int v3)]) (hF : F_M_state_L49 n v3 t0 t1 st = some out) : W p l e rm_M_state s m args below meth c H locs 0 0 (zQ below A (fun o H => o = some (.int out.1) ∧ zV (dC, dI) zcl zKm ad (zmE n cI cZ ad) out.2 H) args s) (F0 m 49 ls [.int t1, .int t0]) := by
  unfold F_M_state_L49 at hF
  refine lv_iadd S.1 S.2.1 d_M_state_49 ?_
  refine lv_aload_n S.1 S.2.1 d_M_state_50 rfl (lv_at hl 0 rfl) ?_
  refine zr_get (v := .ref (ad (6, 0))) S zi_M hK hP zkm_0 rfl rfl 6 (by decide) zx_29 rfl d_M_state_51 ?_
  refine lv_iload_n S.1 S.2.1 d_M_state_54 rfl (lv_at hl 1 rfl) ?_
  by_cases g55 : zOut v3 36
  · rw [if_pos g55] at hF; cases hF
  rw [if_neg g55] at hF
  refine zr_zald S hK hP zkm_6 rfl 1 rfl g55 d_M_state_55 ?_
  refine lv_if_eq (tgt := 63) S.1 S.2.1 d_M_state_56 (by decide) (fun h56 => ?_) (fun h56 => ?_)
  · rw [if_pos h56] at hF
    refine lv_iconst (v := 0) S.1 S.2.1 d_M_state_63 (by decide) ?_
    exact T_M_state_L64 hn hD S hret hlk hK out (t0 + t1) 0 st _ _ _ hP hS (lv_sub hl [] rfl) hF
  · rw [if_neg h56] at hF
    refine lv_iconst (v := 2) S.1 S.2.1 d_M_state_59 (by decide) ?_
    refine lv_goto (tgt := 64) S.1 S.2.1 d_M_state_60 (by decide) ?_
    exact T_M_state_L64 hn hD S hret hlk hK out (t0 + t1) 2 st _ _ _ hP hS (lv_sub hl [] rfl) hF

set_option maxHeartbeats 4000000 in
set_option maxRecDepth 1000000 in
theorem C_M_state {dC : Nat → ClassId} {dI : Nat → Nat → Nat} {cI cZ cR cA : ClassId} {n : Nat} {ad : zK → Nat} {A : Nat → Prop} (hn : 2 ≤ n ∧ n ≤ 6) (hD : zD A zKm ad) (l : Launch) (v1 : Int32) (v2 : Int32) (st : zS) (out : Int32 × zS) (hF : F_M_state n v1 v2 st = some out) : zC zT (dC, dI) zcl (zty cI cZ cR cA) A l y_M_state b_M_state 4 (some .int) rm_M_state [.ref (ad (0, 0)), .int v1, .int v2] (fun H => zV (dC, dI) zcl zKm ad (zmE n cI cZ ad) st H) (fun o H => o = some (.int out.1) ∧ zV (dC, dI) zcl zKm ad (zmE n cI cZ ad) out.2 H) := by
  refine zC_of (by decide) (Nat.le_of_ble_eq_true rfl) (fun p e s m args below meth c ls S hret hlk hK hP hl => ?_)
  have hS : va_S A s.heap s.heap [] := va_S.rf
  have hl : lv_has ls 4 [(0, .ref (ad (0, 0))), (1, .int v1), (2, .int v2)] := hl
  have hP : zV (dC, dI) zcl zKm ad (zmE n cI cZ ad) st s.heap := hP
  unfold F_M_state at hF
  refine lv_aload_n S.1 S.2.1 d_M_state_0 rfl (lv_at hl 0 rfl) ?_
  refine lv_iload_n S.1 S.2.1 d_M_state_1 rfl (lv_at hl 1 rfl) ?_
  cases hc2 : F_M_isRouter n v1 st with
  | none => rw [hc2] at hF; cases hF
  | some u2 =>
    obtain ⟨r2, st2⟩ := u2
    rw [hc2] at hF
    replace hF := zbind hF
    refine zr_callV (rest := []) S zT_good (C_M_isRouter hn hD l v1 st (r2, st2) hc2) zn_M_isRouter zx_106 ⟨rfl, rfl⟩ ⟨Nat.le_of_ble_eq_true rfl, Nat.le_of_ble_eq_true rfl⟩ ⟨Nat.zero_le _, Nat.zero_le _⟩ hK (zr_recv hK hP zkm_0 rfl rfl) hP hl.1 (Nat.le_of_ble_eq_true rfl) hS (fun _ h => h) d_M_state_2 rfl (fun o H locs hpo _ _ hS => ?_)
    obtain ⟨rfl, hP⟩ := hpo
    refine W.eq (g2 := F0 m 5 ls [.int r2]) rfl ?_
    replace hF : F_M_state_s1 n v1 v2 r2 st2 = some out := hF
    replace hP : zV (dC, dI) zcl zKm ad (zmE n cI cZ ad) st2 H := hP
    unfold F_M_state_s1 at hF
    refine lv_if_eq (tgt := 16) S.1 S.2.1 d_M_state_5 (by decide) (fun h5 => ?_) (fun h5 => ?_)
    · rw [if_pos h5] at hF
      refine lv_iconst (v := (-1)) S.1 S.2.1 d_M_state_16 (by decide) ?_
      cases hF
      exact zr_iret S hret hlk hS d_M_state_17 ⟨rfl, hP⟩
    · rw [if_neg h5] at hF
      refine lv_aload_n S.1 S.2.1 d_M_state_8 rfl (lv_at hl 0 rfl) ?_
      refine lv_iload_n S.1 S.2.1 d_M_state_9 rfl (lv_at hl 2 rfl) ?_
      cases hc10 : F_M_isRouter n v2 st2 with
      | none => rw [hc10] at hF; cases hF
      | some u10 =>
        obtain ⟨r10, st10⟩ := u10
        rw [hc10] at hF
        replace hF := zbind hF
        refine zr_callV (rest := []) S zT_good (C_M_isRouter hn hD l v2 st2 (r10, st10) hc10) zn_M_isRouter zx_106 ⟨rfl, rfl⟩ ⟨Nat.le_of_ble_eq_true rfl, Nat.le_of_ble_eq_true rfl⟩ ⟨Nat.zero_le _, Nat.zero_le _⟩ hK (zr_recv hK hP zkm_0 rfl rfl) hP hl.1 (Nat.le_of_ble_eq_true rfl) hS (fun _ h => h) d_M_state_10 rfl (fun o H locs hpo _ _ hS => ?_)
        obtain ⟨rfl, hP⟩ := hpo
        refine W.eq (g2 := F0 m 13 ls [.int r10]) rfl ?_
        replace hF : F_M_state_s2 n v1 v2 r10 st10 = some out := hF
        replace hP : zV (dC, dI) zcl zKm ad (zmE n cI cZ ad) st10 H := hP
        unfold F_M_state_s2 at hF
        refine lv_if_ne (tgt := 18) S.1 S.2.1 d_M_state_13 (by decide) (fun h13 => ?_) (fun h13 => ?_)
        · rw [if_neg h13] at hF
          refine lv_bipush (v := 6) S.1 S.2.1 d_M_state_18 (by decide) ?_
          refine lv_iload_n S.1 S.2.1 d_M_state_20 rfl (lv_at hl 1 rfl) ?_
          refine lv_imul S.1 S.2.1 d_M_state_21 ?_
          refine lv_iload_n S.1 S.2.1 d_M_state_22 rfl (lv_at hl 2 rfl) ?_
          refine lv_iadd S.1 S.2.1 d_M_state_23 ?_
          refine lv_istore_n S.1 S.2.1 d_M_state_24 rfl hl (by decide) rfl (fun ls hl => ?_)
          have hl : lv_has ls 4 [(3, .int ((6 * v1) + v2)), (0, .ref (ad (0, 0))), (1, .int v1), (2, .int v2)] := hl
          refine lv_aload_n S.1 S.2.1 d_M_state_25 rfl (lv_at hl 1 rfl) ?_
          refine zr_get (v := .ref (ad (5, 0))) S zi_M hK hP zkm_0 rfl rfl 5 (by decide) zx_28 rfl d_M_state_26 ?_
          refine lv_iload_n S.1 S.2.1 d_M_state_29 rfl (lv_at hl 0 rfl) ?_
          by_cases g30 : zOut ((6 * v1) + v2) 36
          · rw [if_pos g30] at hF; cases hF
          rw [if_neg g30] at hF
          refine zr_zald S hK hP zkm_5 rfl 1 rfl g30 d_M_state_30 ?_
          refine lv_if_eq (tgt := 68) S.1 S.2.1 d_M_state_31 (by decide) (fun h31 => ?_) (fun h31 => ?_)
          · rw [if_pos h31] at hF
            refine lv_iconst (v := 0) S.1 S.2.1 d_M_state_68 (by decide) ?_
            cases hF
            exact zr_iret S hret hlk hS d_M_state_69 ⟨rfl, hP⟩
          · rw [if_neg h31] at hF
            refine lv_iconst (v := 1) S.1 S.2.1 d_M_state_34 (by decide) ?_
            refine lv_aload_n S.1 S.2.1 d_M_state_35 rfl (lv_at hl 1 rfl) ?_
            refine zr_get (v := .ref (ad (7, 0))) S zi_M hK hP zkm_0 rfl rfl 7 (by decide) zx_30 rfl d_M_state_36 ?_
            refine lv_iload_n S.1 S.2.1 d_M_state_39 rfl (lv_at hl 0 rfl) ?_
            by_cases g40 : zOut ((6 * v1) + v2) 36
            · rw [if_pos g40] at hF; cases hF
            rw [if_neg g40] at hF
            refine zr_zald S hK hP zkm_7 rfl 1 rfl g40 d_M_state_40 ?_
            refine lv_if_eq (tgt := 48) S.1 S.2.1 d_M_state_41 (by decide) (fun h41 => ?_) (fun h41 => ?_)
            · rw [if_pos h41] at hF
              refine lv_iconst (v := 0) S.1 S.2.1 d_M_state_48 (by decide) ?_
              exact T_M_state_L49 hn hD S hret hlk hK out ((6 * v1) + v2) 1 0 st10 _ _ _ hP hS (lv_sub hl [1, 0] rfl) hF
            · rw [if_neg h41] at hF
              refine lv_iconst (v := 1) S.1 S.2.1 d_M_state_44 (by decide) ?_
              refine lv_goto (tgt := 49) S.1 S.2.1 d_M_state_45 (by decide) ?_
              exact T_M_state_L49 hn hD S hret hlk hK out ((6 * v1) + v2) 1 1 st10 _ _ _ hP hS (lv_sub hl [1, 0] rfl) hF
        · rw [if_pos h13] at hF
          refine lv_iconst (v := (-1)) S.1 S.2.1 d_M_state_16 (by decide) ?_
          cases hF
          exact zr_iret S hret hlk hS d_M_state_17 ⟨rfl, hP⟩

theorem d_M_told_0 : decode b_M_told 0 = .ok (.aload_n 0, 1) := by decide +kernel
theorem d_M_told_1 : decode b_M_told 1 = .ok (.iload_n 1, 1) := by decide +kernel
theorem d_M_told_2 : decode b_M_told 2 = .ok (.iload_n 2, 1) := by decide +kernel
theorem d_M_told_3 : decode b_M_told 3 = .ok (.invokevirtual 108, 3) := by decide +kernel
theorem d_M_told_6 : decode b_M_told 6 = .ok (.ifCond .eq 35, 3) := by decide +kernel
theorem d_M_told_9 : decode b_M_told 9 = .ok (.aload_n 0, 1) := by decide +kernel
theorem d_M_told_10 : decode b_M_told 10 = .ok (.iload_n 3, 1) := by decide +kernel
theorem d_M_told_11 : decode b_M_told 11 = .ok (.invokevirtual 60, 3) := by decide +kernel
theorem d_M_told_14 : decode b_M_told 14 = .ok (.ifCond .eq 27, 3) := by decide +kernel
theorem d_M_told_17 : decode b_M_told 17 = .ok (.iload_n 3, 1) := by decide +kernel
theorem d_M_told_18 : decode b_M_told 18 = .ok (.iload_n 1, 1) := by decide +kernel
theorem d_M_told_19 : decode b_M_told 19 = .ok (.if_icmp .eq 22, 3) := by decide +kernel
theorem d_M_told_22 : decode b_M_told 22 = .ok (.aload_n 0, 1) := by decide +kernel
theorem d_M_told_23 : decode b_M_told 23 = .ok (.getfield 32, 3) := by decide +kernel
theorem d_M_told_26 : decode b_M_told 26 = .ok (.bipush 36, 2) := by decide +kernel
theorem d_M_told_28 : decode b_M_told 28 = .ok (.iload_n 2, 1) := by decide +kernel
theorem d_M_told_29 : decode b_M_told 29 = .ok (.imul, 1) := by decide +kernel
theorem d_M_told_30 : decode b_M_told 30 = .ok (.bipush 6, 2) := by decide +kernel
theorem d_M_told_32 : decode b_M_told 32 = .ok (.iload_n 1, 1) := by decide +kernel
theorem d_M_told_33 : decode b_M_told 33 = .ok (.imul, 1) := by decide +kernel
theorem d_M_told_34 : decode b_M_told 34 = .ok (.iadd, 1) := by decide +kernel
theorem d_M_told_35 : decode b_M_told 35 = .ok (.iload_n 3, 1) := by decide +kernel
theorem d_M_told_36 : decode b_M_told 36 = .ok (.iadd, 1) := by decide +kernel
theorem d_M_told_37 : decode b_M_told 37 = .ok (.iaload, 1) := by decide +kernel
theorem d_M_told_38 : decode b_M_told 38 = .ok (.goto 4, 3) := by decide +kernel
theorem d_M_told_41 : decode b_M_told 41 = .ok (.iconst (-1), 1) := by decide +kernel
theorem d_M_told_42 : decode b_M_told 42 = .ok (.ireturn, 1) := by decide +kernel
def F_M_told_s2 (n : Nat) (v1 : Int32) (v2 : Int32) (v3 : Int32) (t0 : Int32) (st : zS) : Option (Int32 × zS) :=
    if t0 = 0 then (some ((-1), st)) else (if v3 = v1 then (some ((-1), st)) else (if zOut (((36 * v2) + (6 * v1)) + v3) 216 then none else some (st 8 0 (Int32.toNatClampNeg (((36 * v2) + (6 * v1)) + v3)), st)))

def F_M_told_s1 (n : Nat) (v1 : Int32) (v2 : Int32) (v3 : Int32) (t0 : Int32) (st : zS) : Option (Int32 × zS) :=
    if t0 = 0 then (some ((-1), st)) else ((F_M_isRouter n v3 st).bind (fun u => F_M_told_s2 n v1 v2 v3 u.1 u.2))

def F_M_told (n : Nat) (v1 : Int32) (v2 : Int32) (v3 : Int32) (st : zS) : Option (Int32 × zS) :=
    (F_M_isLink n v1 v2 st).bind (fun u => F_M_told_s1 n v1 v2 v3 u.1 u.2)

set_option maxHeartbeats 4000000 in
set_option maxRecDepth 1000000 in
theorem C_M_told {dC : Nat → ClassId} {dI : Nat → Nat → Nat} {cI cZ cR cA : ClassId} {n : Nat} {ad : zK → Nat} {A : Nat → Prop} (hn : 2 ≤ n ∧ n ≤ 6) (hD : zD A zKm ad) (l : Launch) (v1 : Int32) (v2 : Int32) (v3 : Int32) (st : zS) (out : Int32 × zS) (hF : F_M_told n v1 v2 v3 st = some out) : zC zT (dC, dI) zcl (zty cI cZ cR cA) A l y_M_told b_M_told 4 (some .int) rm_M_told [.ref (ad (0, 0)), .int v1, .int v2, .int v3] (fun H => zV (dC, dI) zcl zKm ad (zmE n cI cZ ad) st H) (fun o H => o = some (.int out.1) ∧ zV (dC, dI) zcl zKm ad (zmE n cI cZ ad) out.2 H) := by
  refine zC_of (by decide) (Nat.le_of_ble_eq_true rfl) (fun p e s m args below meth c ls S hret hlk hK hP hl => ?_)
  have hS : va_S A s.heap s.heap [] := va_S.rf
  have hl : lv_has ls 4 [(0, .ref (ad (0, 0))), (1, .int v1), (2, .int v2), (3, .int v3)] := hl
  have hP : zV (dC, dI) zcl zKm ad (zmE n cI cZ ad) st s.heap := hP
  unfold F_M_told at hF
  refine lv_aload_n S.1 S.2.1 d_M_told_0 rfl (lv_at hl 0 rfl) ?_
  refine lv_iload_n S.1 S.2.1 d_M_told_1 rfl (lv_at hl 1 rfl) ?_
  refine lv_iload_n S.1 S.2.1 d_M_told_2 rfl (lv_at hl 2 rfl) ?_
  cases hc3 : F_M_isLink n v1 v2 st with
  | none => rw [hc3] at hF; cases hF
  | some u3 =>
    obtain ⟨r3, st3⟩ := u3
    rw [hc3] at hF
    replace hF := zbind hF
    refine zr_callV (rest := []) S zT_good (C_M_isLink hn hD l v1 v2 st (r3, st3) hc3) zn_M_isLink zx_97 ⟨rfl, rfl⟩ ⟨Nat.le_of_ble_eq_true rfl, Nat.le_of_ble_eq_true rfl⟩ ⟨Nat.zero_le _, Nat.zero_le _⟩ hK (zr_recv hK hP zkm_0 rfl rfl) hP hl.1 (Nat.le_of_ble_eq_true rfl) hS (fun _ h => h) d_M_told_3 rfl (fun o H locs hpo _ _ hS => ?_)
    obtain ⟨rfl, hP⟩ := hpo
    refine W.eq (g2 := F0 m 6 ls [.int r3]) rfl ?_
    replace hF : F_M_told_s1 n v1 v2 v3 r3 st3 = some out := hF
    replace hP : zV (dC, dI) zcl zKm ad (zmE n cI cZ ad) st3 H := hP
    unfold F_M_told_s1 at hF
    refine lv_if_eq (tgt := 41) S.1 S.2.1 d_M_told_6 (by decide) (fun h6 => ?_) (fun h6 => ?_)
    · rw [if_pos h6] at hF
      refine lv_iconst (v := (-1)) S.1 S.2.1 d_M_told_41 (by decide) ?_
      cases hF
      exact zr_iret S hret hlk hS d_M_told_42 ⟨rfl, hP⟩
    · rw [if_neg h6] at hF
      refine lv_aload_n S.1 S.2.1 d_M_told_9 rfl (lv_at hl 0 rfl) ?_
      refine lv_iload_n S.1 S.2.1 d_M_told_10 rfl (lv_at hl 3 rfl) ?_
      cases hc11 : F_M_isRouter n v3 st3 with
      | none => rw [hc11] at hF; cases hF
      | some u11 =>
        obtain ⟨r11, st11⟩ := u11
        rw [hc11] at hF
        replace hF := zbind hF
        refine zr_callV (rest := []) S zT_good (C_M_isRouter hn hD l v3 st3 (r11, st11) hc11) zn_M_isRouter zx_106 ⟨rfl, rfl⟩ ⟨Nat.le_of_ble_eq_true rfl, Nat.le_of_ble_eq_true rfl⟩ ⟨Nat.zero_le _, Nat.zero_le _⟩ hK (zr_recv hK hP zkm_0 rfl rfl) hP hl.1 (Nat.le_of_ble_eq_true rfl) hS (fun _ h => h) d_M_told_11 rfl (fun o H locs hpo _ _ hS => ?_)
        obtain ⟨rfl, hP⟩ := hpo
        refine W.eq (g2 := F0 m 14 ls [.int r11]) rfl ?_
        replace hF : F_M_told_s2 n v1 v2 v3 r11 st11 = some out := hF
        replace hP : zV (dC, dI) zcl zKm ad (zmE n cI cZ ad) st11 H := hP
        unfold F_M_told_s2 at hF
        refine lv_if_eq (tgt := 41) S.1 S.2.1 d_M_told_14 (by decide) (fun h14 => ?_) (fun h14 => ?_)
        · rw [if_pos h14] at hF
          refine lv_iconst (v := (-1)) S.1 S.2.1 d_M_told_41 (by decide) ?_
          cases hF
          exact zr_iret S hret hlk hS d_M_told_42 ⟨rfl, hP⟩
        · rw [if_neg h14] at hF
          refine lv_iload_n S.1 S.2.1 d_M_told_17 rfl (lv_at hl 3 rfl) ?_
          refine lv_iload_n S.1 S.2.1 d_M_told_18 rfl (lv_at hl 1 rfl) ?_
          refine lv_icmp_eq (tgt := 41) S.1 S.2.1 d_M_told_19 (by decide) (fun h19 => ?_) (fun h19 => ?_)
          · rw [if_pos h19] at hF
            refine lv_iconst (v := (-1)) S.1 S.2.1 d_M_told_41 (by decide) ?_
            cases hF
            exact zr_iret S hret hlk hS d_M_told_42 ⟨rfl, hP⟩
          · rw [if_neg h19] at hF
            refine lv_aload_n S.1 S.2.1 d_M_told_22 rfl (lv_at hl 0 rfl) ?_
            refine zr_get (v := .ref (ad (8, 0))) S zi_M hK hP zkm_0 rfl rfl 8 (by decide) zx_31 rfl d_M_told_23 ?_
            refine lv_bipush (v := 36) S.1 S.2.1 d_M_told_26 (by decide) ?_
            refine lv_iload_n S.1 S.2.1 d_M_told_28 rfl (lv_at hl 2 rfl) ?_
            refine lv_imul S.1 S.2.1 d_M_told_29 ?_
            refine lv_bipush (v := 6) S.1 S.2.1 d_M_told_30 (by decide) ?_
            refine lv_iload_n S.1 S.2.1 d_M_told_32 rfl (lv_at hl 1 rfl) ?_
            refine lv_imul S.1 S.2.1 d_M_told_33 ?_
            refine lv_iadd S.1 S.2.1 d_M_told_34 ?_
            refine lv_iload_n S.1 S.2.1 d_M_told_35 rfl (lv_at hl 3 rfl) ?_
            refine lv_iadd S.1 S.2.1 d_M_told_36 ?_
            by_cases g37 : zOut (((36 * v2) + (6 * v1)) + v3) 216
            · rw [if_pos g37] at hF; cases hF
            rw [if_neg g37] at hF
            refine zr_iald S hK hP zkm_8 rfl 0 rfl g37 d_M_told_37 ?_
            refine lv_goto (tgt := 42) S.1 S.2.1 d_M_told_38 (by decide) ?_
            cases hF
            exact zr_iret S hret hlk hS d_M_told_42 ⟨rfl, hP⟩

