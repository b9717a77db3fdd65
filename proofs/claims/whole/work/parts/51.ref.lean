theorem d_M_waits_0 : decode b_M_waits 0 = .ok (.aload_n 0, 1) := by decide +kernel
theorem d_M_waits_1 : decode b_M_waits 1 = .ok (.iload_n 1, 1) := by decide +kernel
theorem d_M_waits_2 : decode b_M_waits 2 = .ok (.invokevirtual 60, 3) := by decide +kernel
theorem d_M_waits_5 : decode b_M_waits 5 = .ok (.ifCond .eq 42, 3) := by decide +kernel
theorem d_M_waits_8 : decode b_M_waits 8 = .ok (.aload_n 0, 1) := by decide +kernel
theorem d_M_waits_9 : decode b_M_waits 9 = .ok (.iload_n 2, 1) := by decide +kernel
theorem d_M_waits_10 : decode b_M_waits 10 = .ok (.invokevirtual 60, 3) := by decide +kernel
theorem d_M_waits_13 : decode b_M_waits 13 = .ok (.ifCond .eq 34, 3) := by decide +kernel
theorem d_M_waits_16 : decode b_M_waits 16 = .ok (.aload_n 0, 1) := by decide +kernel
theorem d_M_waits_17 : decode b_M_waits 17 = .ok (.iload_n 3, 1) := by decide +kernel
theorem d_M_waits_18 : decode b_M_waits 18 = .ok (.invokevirtual 60, 3) := by decide +kernel
theorem d_M_waits_21 : decode b_M_waits 21 = .ok (.ifCond .eq 26, 3) := by decide +kernel
theorem d_M_waits_24 : decode b_M_waits 24 = .ok (.aload_n 0, 1) := by decide +kernel
theorem d_M_waits_25 : decode b_M_waits 25 = .ok (.getfield 35, 3) := by decide +kernel
theorem d_M_waits_28 : decode b_M_waits 28 = .ok (.bipush 36, 2) := by decide +kernel
theorem d_M_waits_30 : decode b_M_waits 30 = .ok (.iload_n 2, 1) := by decide +kernel
theorem d_M_waits_31 : decode b_M_waits 31 = .ok (.imul, 1) := by decide +kernel
theorem d_M_waits_32 : decode b_M_waits 32 = .ok (.bipush 6, 2) := by decide +kernel
theorem d_M_waits_34 : decode b_M_waits 34 = .ok (.iload_n 1, 1) := by decide +kernel
theorem d_M_waits_35 : decode b_M_waits 35 = .ok (.imul, 1) := by decide +kernel
theorem d_M_waits_36 : decode b_M_waits 36 = .ok (.iadd, 1) := by decide +kernel
theorem d_M_waits_37 : decode b_M_waits 37 = .ok (.iload_n 3, 1) := by decide +kernel
theorem d_M_waits_38 : decode b_M_waits 38 = .ok (.iadd, 1) := by decide +kernel
theorem d_M_waits_39 : decode b_M_waits 39 = .ok (.baload, 1) := by decide +kernel
theorem d_M_waits_40 : decode b_M_waits 40 = .ok (.ifCond .eq 7, 3) := by decide +kernel
theorem d_M_waits_43 : decode b_M_waits 43 = .ok (.iconst 1, 1) := by decide +kernel
theorem d_M_waits_44 : decode b_M_waits 44 = .ok (.goto 4, 3) := by decide +kernel
theorem d_M_waits_47 : decode b_M_waits 47 = .ok (.iconst 0, 1) := by decide +kernel
theorem d_M_waits_48 : decode b_M_waits 48 = .ok (.ireturn, 1) := by decide +kernel
def F_M_waits_s3 (n : Nat) (v1 : Int32) (v2 : Int32) (v3 : Int32) (t0 : Int32) (st : zS) : Option (Int32 × zS) :=
    if t0 = 0 then (some (0, st)) else (if zOut (((36 * v2) + (6 * v1)) + v3) 216 then none else if (st 9 0 (Int32.toNatClampNeg (((36 * v2) + (6 * v1)) + v3))) = 0 then (some (0, st)) else (some (1, st)))

def F_M_waits_s2 (n : Nat) (v1 : Int32) (v2 : Int32) (v3 : Int32) (t0 : Int32) (st : zS) : Option (Int32 × zS) :=
    if t0 = 0 then (some (0, st)) else ((F_M_isRouter n v3 st).bind (fun u => F_M_waits_s3 n v1 v2 v3 u.1 u.2))

def F_M_waits_s1 (n : Nat) (v1 : Int32) (v2 : Int32) (v3 : Int32) (t0 : Int32) (st : zS) : Option (Int32 × zS) :=
    if t0 = 0 then (some (0, st)) else ((F_M_isRouter n v2 st).bind (fun u => F_M_waits_s2 n v1 v2 v3 u.1 u.2))

def F_M_waits (n : Nat) (v1 : Int32) (v2 : Int32) (v3 : Int32) (st : zS) : Option (Int32 × zS) :=
    (F_M_isRouter n v1 st).bind (fun u => F_M_waits_s1 n v1 v2 v3 u.1 u.2)

set_option maxHeartbeats 4000000 in
set_option maxRecDepth 1000000 in
theorem C_M_waits {dC : Nat → ClassId} {dI : Nat → Nat → Nat} {cI cZ cR cA : ClassId} {n : Nat} {ad : zK → Nat} {A : Nat → Prop} (hn : 2 ≤ n ∧ n ≤ 6) (hD : zD A zKm ad) (l : Launch) (v1 : Int32) (v2 : Int32) (v3 : Int32) (st : zS) (out : Int32 × zS) (hF : F_M_waits n v1 v2 v3 st = some out) : zC zT (dC, dI) zcl (zty cI cZ cR cA) A l y_M_waits b_M_waits 4 (some .boolean) rm_M_waits [.ref (ad (0, 0)), .int v1, .int v2, .int v3] (fun H => zV (dC, dI) zcl zKm ad (zmE n cI cZ ad) st H) (fun o H => o = some (.int out.1) ∧ zV (dC, dI) zcl zKm ad (zmE n cI cZ ad) out.2 H) := by
  refine zC_of (by decide) (Nat.le_of_ble_eq_true rfl) (fun p e s m args below meth c ls S hret hlk hK hP hl => ?_)
  have hS : va_S A s.heap s.heap [] := va_S.rf
  have hl : lv_has ls 4 [(0, .ref (ad (0, 0))), (1, .int v1), (2, .int v2), (3, .int v3)] := hl
  have hP : zV (dC, dI) zcl zKm ad (zmE n cI cZ ad) st s.heap := hP
  unfold F_M_waits at hF
  refine lv_aload_n S.1 S.2.1 d_M_waits_0 rfl (lv_at hl 0 rfl) ?_
  refine lv_iload_n S.1 S.2.1 d_M_waits_1 rfl (lv_at hl 1 rfl) ?_
  cases hc2 : F_M_isRouter n v1 st with
  | none => rw [hc2] at hF; cases hF
  | some u2 =>
    obtain ⟨r2, st2⟩ := u2
    rw [hc2] at hF
    replace hF := zbind hF
    refine zr_callV (rest := []) S zT_good (C_M_isRouter hn hD l v1 st (r2, st2) hc2) zn_M_isRouter zx_106 ⟨rfl, rfl⟩ ⟨Nat.le_of_ble_eq_true rfl, Nat.le_of_ble_eq_true rfl⟩ ⟨Nat.zero_le _, Nat.zero_le _⟩ hK (zr_recv hK hP zkm_0 rfl rfl) hP hl.1 (Nat.le_of_ble_eq_true rfl) hS (fun _ h => h) d_M_waits_2 rfl (fun o H locs hpo _ _ hS => ?_)
    obtain ⟨rfl, hP⟩ := hpo
    refine W.eq (g2 := F0 m 5 ls [.int r2]) rfl ?_
    replace hF : F_M_waits_s1 n v1 v2 v3 r2 st2 = some out := hF
    replace hP : zV (dC, dI) zcl zKm ad (zmE n cI cZ ad) st2 H := hP
    unfold F_M_waits_s1 at hF
    refine lv_if_eq (tgt := 47) S.1 S.2.1 d_M_waits_5 (by decide) (fun h5 => ?_) (fun h5 => ?_)
    · rw [if_pos h5] at hF
      refine lv_iconst (v := 0) S.1 S.2.1 d_M_waits_47 (by decide) ?_
      cases hF
      exact zr_zret S hret hlk (by decide) hS d_M_waits_48 ⟨rfl, hP⟩
    · rw [if_neg h5] at hF
      refine lv_aload_n S.1 S.2.1 d_M_waits_8 rfl (lv_at hl 0 rfl) ?_
      refine lv_iload_n S.1 S.2.1 d_M_waits_9 rfl (lv_at hl 2 rfl) ?_
      cases hc10 : F_M_isRouter n v2 st2 with
      | none => rw [hc10] at hF; cases hF
      | some u10 =>
        obtain ⟨r10, st10⟩ := u10
        rw [hc10] at hF
        replace hF := zbind hF
        refine zr_callV (rest := []) S zT_good (C_M_isRouter hn hD l v2 st2 (r10, st10) hc10) zn_M_isRouter zx_106 ⟨rfl, rfl⟩ ⟨Nat.le_of_ble_eq_true rfl, Nat.le_of_ble_eq_true rfl⟩ ⟨Nat.zero_le _, Nat.zero_le _⟩ hK (zr_recv hK hP zkm_0 rfl rfl) hP hl.1 (Nat.le_of_ble_eq_true rfl) hS (fun _ h => h) d_M_waits_10 rfl (fun o H locs hpo _ _ hS => ?_)
        obtain ⟨rfl, hP⟩ := hpo
        refine W.eq (g2 := F0 m 13 ls [.int r10]) rfl ?_
        replace hF : F_M_waits_s2 n v1 v2 v3 r10 st10 = some out := hF
        replace hP : zV (dC, dI) zcl zKm ad (zmE n cI cZ ad) st10 H := hP
        unfold F_M_waits_s2 at hF
        refine lv_if_eq (tgt := 47) S.1 S.2.1 d_M_waits_13 (by decide) (fun h13 => ?_) (fun h13 => ?_)
        · rw [if_pos h13] at hF
          refine lv_iconst (v := 0) S.1 S.2.1 d_M_waits_47 (by decide) ?_
          cases hF
          exact zr_zret S hret hlk (by decide) hS d_M_waits_48 ⟨rfl, hP⟩
        · rw [if_neg h13] at hF
          refine lv_aload_n S.1 S.2.1 d_M_waits_16 rfl (lv_at hl 0 rfl) ?_
          refine lv_iload_n S.1 S.2.1 d_M_waits_17 rfl (lv_at hl 3 rfl) ?_
          cases hc18 : F_M_isRouter n v3 st10 with
          | none => rw [hc18] at hF; cases hF
          | some u18 =>
            obtain ⟨r18, st18⟩ := u18
            rw [hc18] at hF
            replace hF := zbind hF
            refine zr_callV (rest := []) S zT_good (C_M_isRouter hn hD l v3 st10 (r18, st18) hc18) zn_M_isRouter zx_106 ⟨rfl, rfl⟩ ⟨Nat.le_of_ble_eq_true rfl, Nat.le_of_ble_eq_true rfl⟩ ⟨Nat.zero_le _, Nat.zero_le _⟩ hK (zr_recv hK hP zkm_0 rfl rfl) hP hl.1 (Nat.le_of_ble_eq_true rfl) hS (fun _ h => h) d_M_waits_18 rfl (fun o H locs hpo _ _ hS => ?_)
            obtain ⟨rfl, hP⟩ := hpo
            refine W.eq (g2 := F0 m 21 ls [.int r18]) rfl ?_
            replace hF : F_M_waits_s3 n v1 v2 v3 r18 st18 = some out := hF
            replace hP : zV (dC, dI) zcl zKm ad (zmE n cI cZ ad) st18 H := hP
            unfold F_M_waits_s3 at hF
            refine lv_if_eq (tgt := 47) S.1 S.2.1 d_M_waits_21 (by decide) (fun h21 => ?_) (fun h21 => ?_)
            · rw [if_pos h21] at hF
              refine lv_iconst (v := 0) S.1 S.2.1 d_M_waits_47 (by decide) ?_
              cases hF
              exact zr_zret S hret hlk (by decide) hS d_M_waits_48 ⟨rfl, hP⟩
            · rw [if_neg h21] at hF
              refine lv_aload_n S.1 S.2.1 d_M_waits_24 rfl (lv_at hl 0 rfl) ?_
              refine zr_get (v := .ref (ad (9, 0))) S zi_M hK hP zkm_0 rfl rfl 9 (by decide) zx_32 rfl d_M_waits_25 ?_
              refine lv_bipush (v := 36) S.1 S.2.1 d_M_waits_28 (by decide) ?_
              refine lv_iload_n S.1 S.2.1 d_M_waits_30 rfl (lv_at hl 2 rfl) ?_
              refine lv_imul S.1 S.2.1 d_M_waits_31 ?_
              refine lv_bipush (v := 6) S.1 S.2.1 d_M_waits_32 (by decide) ?_
              refine lv_iload_n S.1 S.2.1 d_M_waits_34 rfl (lv_at hl 1 rfl) ?_
              refine lv_imul S.1 S.2.1 d_M_waits_35 ?_
              refine lv_iadd S.1 S.2.1 d_M_waits_36 ?_
              refine lv_iload_n S.1 S.2.1 d_M_waits_37 rfl (lv_at hl 3 rfl) ?_
              refine lv_iadd S.1 S.2.1 d_M_waits_38 ?_
              by_cases g39 : zOut (((36 * v2) + (6 * v1)) + v3) 216
              · rw [if_pos g39] at hF; cases hF
              rw [if_neg g39] at hF
              refine zr_zald S hK hP zkm_9 rfl 1 rfl g39 d_M_waits_39 ?_
              refine lv_if_eq (tgt := 47) S.1 S.2.1 d_M_waits_40 (by decide) (fun h40 => ?_) (fun h40 => ?_)
              · rw [if_pos h40] at hF
                refine lv_iconst (v := 0) S.1 S.2.1 d_M_waits_47 (by decide) ?_
                cases hF
                exact zr_zret S hret hlk (by decide) hS d_M_waits_48 ⟨rfl, hP⟩
              · rw [if_neg h40] at hF
                refine lv_iconst (v := 1) S.1 S.2.1 d_M_waits_43 (by decide) ?_
                refine lv_goto (tgt := 48) S.1 S.2.1 d_M_waits_44 (by decide) ?_
                cases hF
                exact zr_zret S hret hlk (by decide) hS d_M_waits_48 ⟨rfl, hP⟩

theorem d_M_flight_0 : decode b_M_flight 0 = .ok (.aload_n 0, 1) := by decide +kernel
theorem d_M_flight_1 : decode b_M_flight 1 = .ok (.iload_n 1, 1) := by decide +kernel
theorem d_M_flight_2 : decode b_M_flight 2 = .ok (.iload_n 2, 1) := by decide +kernel
theorem d_M_flight_3 : decode b_M_flight 3 = .ok (.invokevirtual 108, 3) := by decide +kernel
theorem d_M_flight_6 : decode b_M_flight 6 = .ok (.ifCond .ne 5, 3) := by decide +kernel
theorem d_M_flight_9 : decode b_M_flight 9 = .ok (.iconst (-1), 1) := by decide +kernel
theorem d_M_flight_10 : decode b_M_flight 10 = .ok (.ireturn, 1) := by decide +kernel
theorem d_M_flight_11 : decode b_M_flight 11 = .ok (.iconst 0, 1) := by decide +kernel
theorem d_M_flight_12 : decode b_M_flight 12 = .ok (.istore_n 3, 1) := by decide +kernel
theorem d_M_flight_13 : decode b_M_flight 13 = .ok (.iconst 0, 1) := by decide +kernel
theorem d_M_flight_14 : decode b_M_flight 14 = .ok (.istore 4, 2) := by decide +kernel
theorem d_M_flight_16 : decode b_M_flight 16 = .ok (.iload 4, 2) := by decide +kernel
theorem d_M_flight_18 : decode b_M_flight 18 = .ok (.aload_n 0, 1) := by decide +kernel
theorem d_M_flight_19 : decode b_M_flight 19 = .ok (.getfield 64, 3) := by decide +kernel
theorem d_M_flight_22 : decode b_M_flight 22 = .ok (.if_icmp .ge 39, 3) := by decide +kernel
theorem d_M_flight_25 : decode b_M_flight 25 = .ok (.aload_n 0, 1) := by decide +kernel
theorem d_M_flight_26 : decode b_M_flight 26 = .ok (.getfield 38, 3) := by decide +kernel
theorem d_M_flight_29 : decode b_M_flight 29 = .ok (.iload 4, 2) := by decide +kernel
theorem d_M_flight_31 : decode b_M_flight 31 = .ok (.iaload, 1) := by decide +kernel
theorem d_M_flight_32 : decode b_M_flight 32 = .ok (.iload_n 1, 1) := by decide +kernel
theorem d_M_flight_33 : decode b_M_flight 33 = .ok (.if_icmp .ne 20, 3) := by decide +kernel
theorem d_M_flight_36 : decode b_M_flight 36 = .ok (.aload_n 0, 1) := by decide +kernel
theorem d_M_flight_37 : decode b_M_flight 37 = .ok (.getfield 41, 3) := by decide +kernel
theorem d_M_flight_40 : decode b_M_flight 40 = .ok (.iload 4, 2) := by decide +kernel
theorem d_M_flight_42 : decode b_M_flight 42 = .ok (.iaload, 1) := by decide +kernel
theorem d_M_flight_43 : decode b_M_flight 43 = .ok (.iload_n 2, 1) := by decide +kernel
theorem d_M_flight_44 : decode b_M_flight 44 = .ok (.if_icmp .ne 9, 3) := by decide +kernel
theorem d_M_flight_47 : decode b_M_flight 47 = .ok (.iload_n 3, 1) := by decide +kernel
theorem d_M_flight_48 : decode b_M_flight 48 = .ok (.iconst 1, 1) := by decide +kernel
theorem d_M_flight_49 : decode b_M_flight 49 = .ok (.iadd, 1) := by decide +kernel
theorem d_M_flight_50 : decode b_M_flight 50 = .ok (.goto 4, 3) := by decide +kernel
theorem d_M_flight_53 : decode b_M_flight 53 = .ok (.iload_n 3, 1) := by decide +kernel
theorem d_M_flight_54 : decode b_M_flight 54 = .ok (.istore_n 3, 1) := by decide +kernel
theorem d_M_flight_55 : decode b_M_flight 55 = .ok (.iinc 4 1, 3) := by decide +kernel
theorem d_M_flight_58 : decode b_M_flight 58 = .ok (.goto (-42), 3) := by decide +kernel
theorem d_M_flight_61 : decode b_M_flight 61 = .ok (.iload_n 3, 1) := by decide +kernel
theorem d_M_flight_62 : decode b_M_flight 62 = .ok (.ireturn, 1) := by decide +kernel
def F_M_flight_L54 (n : Nat) (c16 : Int32 → Int32 → Int32 → Int32 → zS → Option (Int32 × zS)) (v1 : Int32) (v2 : Int32) (v4 : Int32) (t0 : Int32) (st : zS) : Option (Int32 × zS) :=
    c16 v1 v2 t0 (v4 + 1) st

def F_M_flight_L53 (n : Nat) (c16 : Int32 → Int32 → Int32 → Int32 → zS → Option (Int32 × zS)) (v1 : Int32) (v2 : Int32) (v3 : Int32) (v4 : Int32) (st : zS) : Option (Int32 × zS) :=
    F_M_flight_L54 n c16 v1 v2 v4 v3 st

def F_M_flight_L16 (n : Nat) : Nat → Int32 → Int32 → Int32 → Int32 → zS → Option (Int32 × zS)
  | 0, _, _, _, _, _ => none
  | f + 1, v1, v2, v3, v4, st =>
    if (st 0 0 0) ≤ v4 then (some (v3, st)) else (if zOut v4 1024 then none else if (st 10 0 (Int32.toNatClampNeg v4)) = v1 then (if zOut v4 1024 then none else if (st 11 0 (Int32.toNatClampNeg v4)) = v2 then (F_M_flight_L54 n (F_M_flight_L16 n f) v1 v2 v4 (v3 + 1) st) else (F_M_flight_L53 n (F_M_flight_L16 n f) v1 v2 v3 v4 st)) else (F_M_flight_L53 n (F_M_flight_L16 n f) v1 v2 v3 v4 st))

def F_M_flight_s1 (n : Nat) (v1 : Int32) (v2 : Int32) (t0 : Int32) (st : zS) : Option (Int32 × zS) :=
    if t0 = 0 then (some ((-1), st)) else (F_M_flight_L16 n zFuel v1 v2 0 0 st)

def F_M_flight (n : Nat) (v1 : Int32) (v2 : Int32) (st : zS) : Option (Int32 × zS) :=
    (F_M_isLink n v1 v2 st).bind (fun u => F_M_flight_s1 n v1 v2 u.1 u.2)

set_option maxHeartbeats 4000000 in
set_option maxRecDepth 1000000 in
theorem T_M_flight_L54 {dC : Nat → ClassId} {dI : Nat → Nat → Nat} {cI cZ cR cA : ClassId} {n : Nat} {ad : zK → Nat} {A : Nat → Prop} (hn : 2 ≤ n ∧ n ≤ 6) (hD : zD A zKm ad) {p : Program} {l : Launch} {e : Env} {s : State} {m : MethodId} {args : Array Value} {below : List Frame} {meth : Method} {c : Code} (S : CallFix p m c b_M_flight 5 s args zT N_M) (hret : meth.sig.returnType = some .int) (hlk : meth.locks = false) (hK : va_K (dC, dI) zcl (zty cI cZ cR cA) s) (out : Int32 × zS) (c16 : Int32 → Int32 → Int32 → Int32 → zS → Option (Int32 × zS)) (hc16 : ∀ (v1 : Int32) (v2 : Int32) (v3 : Int32) (v4 : Int32) (st : zS) (H : Heap) (locs : List Loc) (ls : Array Slot), zV (dC, dI) zcl zKm ad (zmE n cI cZ ad) st H → va_S A s.heap H locs → lv_has ls 5 [(0, .ref (ad (0, 0))), (1, .int v1), (2, .int v2), (3, .int v3), (4, .int v4)] → c16 v1 v2 v3 v4 st = some out → W p l e rm_M_flight s m args below meth c H locs 0 0 (zQ below A (fun o H => o = some (.int out.1) ∧ zV (dC, dI) zcl zKm ad (zmE n cI cZ ad) out.2 H) args s) (F0 m 16 ls [])) (v1 : Int32) (v2 : Int32) (v4 : Int32) (t0 : Int32) (st : zS) (H : Heap) (locs : List Loc) (ls : Array Slot) (hP : zV (dC, dI) zcl zKm ad (zmE n cI cZ ad) st H) (hS : va_S A s.heap H locs) (hl : lv_has ls 5 [(0, .ref (ad (0, 0))), (1, .int v1), (2, .int v2), (4, .int v4)]) (hF : F_M_flight_L54 n c16 v1 v2 v4 t0 st = some out) : W p l e rm_M_flight s m args below meth c H locs 0 0 (zQ below A (fun o H => o = some (.int out.1) ∧ zV (dC, dI) zcl zKm ad (zmE n cI cZ ad) out.2 H) args s) (F0 m 54 ls [.int t0]) := by
  unfold F_M_flight_L54 at hF
  refine lv_istore_n S.1 S.2.1 d_M_flight_54 rfl hl (by decide) rfl (fun ls hl => ?_)
  have hl : lv_has ls 5 [(3, .int t0), (0, .ref (ad (0, 0))), (1, .int v1), (2, .int v2), (4, .int v4)] := hl
  refine lv_iinc (k := 4) (v := v4 + 1) S.1 S.2.1 d_M_flight_55 hl rfl rfl (by decide) rfl (fun ls hl => ?_)
  have hl : lv_has ls 5 [(4, .int (v4 + 1)), (3, .int t0), (0, .ref (ad (0, 0))), (1, .int v1), (2, .int v2)] := hl
  refine lv_goto (tgt := 16) S.1 S.2.1 d_M_flight_58 (by decide) ?_
  exact hc16 v1 v2 t0 (v4 + 1) st _ _ _ hP hS (lv_sub hl [2, 3, 4, 1, 0] rfl) hF

set_option maxHeartbeats 4000000 in
set_option maxRecDepth 1000000 in
theorem T_M_flight_L53 {dC : Nat → ClassId} {dI : Nat → Nat → Nat} {cI cZ cR cA : ClassId} {n : Nat} {ad : zK → Nat} {A : Nat → Prop} (hn : 2 ≤ n ∧ n ≤ 6) (hD : zD A zKm ad) {p : Program} {l : Launch} {e : Env} {s : State} {m : MethodId} {args : Array Value} {below : List Frame} {meth : Method} {c : Code} (S : CallFix p m c b_M_flight 5 s args zT N_M) (hret : meth.sig.returnType = some .int) (hlk : meth.locks = false) (hK : va_K (dC, dI) zcl (zty cI cZ cR cA) s) (out : Int32 × zS) (c16 : Int32 → Int32 → Int32 → Int32 → zS → Option (Int32 × zS)) (hc16 : ∀ (v1 : Int32) (v2 : Int32) (v3 : Int32) (v4 : Int32) (st : zS) (H : Heap) (locs : List Loc) (ls : Array Slot), zV (dC, dI) zcl zKm ad (zmE n cI cZ ad) st H → va_S A s.heap H locs → lv_has ls 5 [(0, .ref (ad (0, 0))), (1, .int v1), (2, .int v2), (3, .int v3), (4, .int v4)] → c16 v1 v2 v3 v4 st = some out → W p l e rm_M_flight s m args below meth c H locs 0 0 (zQ below A (fun o H => o = some (.int out.1) ∧ zV (dC, dI) zcl zKm ad (zmE n cI cZ ad) out.2 H) args s) (F0 m 16 ls [])) (v1 : Int32) (v2 : Int32) (v3 : Int32) (v4 : Int32) (st : zS) (H : Heap) (locs : List Loc) (ls : Array Slot) (hP : zV (dC, dI) zcl zKm ad (zmE n cI cZ ad) st H) (hS : va_S A s.heap H locs) (hl : lv_has ls 5 [(0, .ref (ad (0, 0))), (1, .int v1), (2, .int v2), (3, .int v3), (4, .int v4)]) (hF : F_M_flight_L53 n c16 v1 v2 v3 v4 st = some out) : W p l e rm_M_flight s m args below meth c H locs 0 0 (zQ below A (fun o H => o = some (.int out.1) ∧ zV (dC, dI) zcl zKm ad (zmE n cI cZ ad) out.2 H) args s) (F0 m 53 ls []) := by
  unfold F_M_flight_L53 at hF
  refine lv_iload_n S.1 S.2.1 d_M_flight_53 rfl (lv_at hl 3 rfl) ?_
  exact T_M_flight_L54 hn hD S hret hlk hK out c16 hc16 v1 v2 v4 v3 st _ _ _ hP hS (lv_sub hl [0, 1, 2, 4] rfl) hF

set_option maxHeartbeats 4000000 in
set_option maxRecDepth 1000000 in
theorem T_M_flight_L16 {dC : Nat → ClassId} {dI : Nat → Nat → Nat} {cI cZ cR cA : ClassId} {n : Nat} {ad : zK → Nat} {A : Nat → Prop} (hn : 2 ≤ n ∧ n ≤ 6) (hD : zD A zKm ad) {p : Program} {l : Launch} {e : Env} {s : State} {m : MethodId} {args : Array Value} {below : List Frame} {meth : Method} {c : Code} (S : CallFix p m c b_M_flight 5 s args zT N_M) (hret : meth.sig.returnType = some .int) (hlk : meth.locks = false) (hK : va_K (dC, dI) zcl (zty cI cZ cR cA) s) (out : Int32 × zS) : ∀ (fu : Nat) (v1 : Int32) (v2 : Int32) (v3 : Int32) (v4 : Int32) (st : zS) (H : Heap) (locs : List Loc) (ls : Array Slot) (hP : zV (dC, dI) zcl zKm ad (zmE n cI cZ ad) st H) (hS : va_S A s.heap H locs) (hl : lv_has ls 5 [(0, .ref (ad (0, 0))), (1, .int v1), (2, .int v2), (3, .int v3), (4, .int v4)]) (hF : F_M_flight_L16 n fu v1 v2 v3 v4 st = some out), W p l e rm_M_flight s m args below meth c H locs 0 0 (zQ below A (fun o H => o = some (.int out.1) ∧ zV (dC, dI) zcl zKm ad (zmE n cI cZ ad) out.2 H) args s) (F0 m 16 ls []) := by
  intro fu
  induction fu with
  | zero => intro v1 v2 v3 v4 st H locs ls hP hS hl hF; rw [F_M_flight_L16] at hF; cases hF
  | succ f ih =>
    intro v1 v2 v3 v4 st H locs ls hP hS hl hF
    rw [F_M_flight_L16] at hF
    refine lv_iload S.1 S.2.1 d_M_flight_16 (lv_at hl 4 rfl) ?_
    refine lv_aload_n S.1 S.2.1 d_M_flight_18 rfl (lv_at hl 0 rfl) ?_
    refine zr_get (v := .int (st 0 0 0)) S zi_M hK hP zkm_0 rfl rfl 10 (by decide) zx_40 rfl d_M_flight_19 ?_
    refine lv_icmp_ge (tgt := 61) S.1 S.2.1 d_M_flight_22 (by decide) (fun h22 => ?_) (fun h22 => ?_)
    · rw [if_pos h22] at hF
      refine lv_iload_n S.1 S.2.1 d_M_flight_61 rfl (lv_at hl 3 rfl) ?_
      cases hF
      exact zr_iret S hret hlk hS d_M_flight_62 ⟨rfl, hP⟩
    · rw [if_neg h22] at hF
      refine lv_aload_n S.1 S.2.1 d_M_flight_25 rfl (lv_at hl 0 rfl) ?_
      refine zr_get (v := .ref (ad (10, 0))) S zi_M hK hP zkm_0 rfl rfl 11 (by decide) zx_33 rfl d_M_flight_26 ?_
      refine lv_iload S.1 S.2.1 d_M_flight_29 (lv_at hl 4 rfl) ?_
      by_cases g31 : zOut v4 1024
      · rw [if_pos g31] at hF; cases hF
      rw [if_neg g31] at hF
      refine zr_iald S hK hP zkm_10 rfl 0 rfl g31 d_M_flight_31 ?_
      refine lv_iload_n S.1 S.2.1 d_M_flight_32 rfl (lv_at hl 1 rfl) ?_
      refine lv_icmp_ne (tgt := 53) S.1 S.2.1 d_M_flight_33 (by decide) (fun h33 => ?_) (fun h33 => ?_)
      · rw [if_neg h33] at hF
        exact T_M_flight_L53 hn hD S hret hlk hK out (F_M_flight_L16 n f) ih v1 v2 v3 v4 st _ _ _ hP hS (lv_sub hl [0, 1, 2, 3, 4] rfl) hF
      · rw [if_pos h33] at hF
        refine lv_aload_n S.1 S.2.1 d_M_flight_36 rfl (lv_at hl 0 rfl) ?_
        refine zr_get (v := .ref (ad (11, 0))) S zi_M hK hP zkm_0 rfl rfl 12 (by decide) zx_34 rfl d_M_flight_37 ?_
        refine lv_iload S.1 S.2.1 d_M_flight_40 (lv_at hl 4 rfl) ?_
        by_cases g42 : zOut v4 1024
        · rw [if_pos g42] at hF; cases hF
        rw [if_neg g42] at hF
        refine zr_iald S hK hP zkm_11 rfl 0 rfl g42 d_M_flight_42 ?_
        refine lv_iload_n S.1 S.2.1 d_M_flight_43 rfl (lv_at hl 2 rfl) ?_
        refine lv_icmp_ne (tgt := 53) S.1 S.2.1 d_M_flight_44 (by decide) (fun h44 => ?_) (fun h44 => ?_)
        · rw [if_neg h44] at hF
          exact T_M_flight_L53 hn hD S hret hlk hK out (F_M_flight_L16 n f) ih v1 v2 v3 v4 st _ _ _ hP hS (lv_sub hl [0, 1, 2, 3, 4] rfl) hF
        · rw [if_pos h44] at hF
          refine lv_iload_n S.1 S.2.1 d_M_flight_47 rfl (lv_at hl 3 rfl) ?_
          refine lv_iconst (v := 1) S.1 S.2.1 d_M_flight_48 (by decide) ?_
          refine lv_iadd S.1 S.2.1 d_M_flight_49 ?_
          refine lv_goto (tgt := 54) S.1 S.2.1 d_M_flight_50 (by decide) ?_
          exact T_M_flight_L54 hn hD S hret hlk hK out (F_M_flight_L16 n f) ih v1 v2 v4 (v3 + 1) st _ _ _ hP hS (lv_sub hl [0, 1, 2, 4] rfl) hF

set_option maxHeartbeats 4000000 in
set_option maxRecDepth 1000000 in
theorem C_M_flight {dC : Nat → ClassId} {dI : Nat → Nat → Nat} {cI cZ cR cA : ClassId} {n : Nat} {ad : zK → Nat} {A : Nat → Prop} (hn : 2 ≤ n ∧ n ≤ 6) (hD : zD A zKm ad) (l : Launch) (v1 : Int32) (v2 : Int32) (st : zS) (out : Int32 × zS) (hF : F_M_flight n v1 v2 st = some out) : zC zT (dC, dI) zcl (zty cI cZ cR cA) A l y_M_flight b_M_flight 5 (some .int) rm_M_flight [.ref (ad (0, 0)), .int v1, .int v2] (fun H => zV (dC, dI) zcl zKm ad (zmE n cI cZ ad) st H) (fun o H => o = some (.int out.1) ∧ zV (dC, dI) zcl zKm ad (zmE n cI cZ ad) out.2 H) := by
  refine zC_of (by decide) (Nat.le_of_ble_eq_true rfl) (fun p e s m args below meth c ls S hret hlk hK hP hl => ?_)
  have hS : va_S A s.heap s.heap [] := va_S.rf
  have hl : lv_has ls 5 [(0, .ref (ad (0, 0))), (1, .int v1), (2, .int v2)] := hl
  have hP : zV (dC, dI) zcl zKm ad (zmE n cI cZ ad) st s.heap := hP
  unfold F_M_flight at hF
  refine lv_aload_n S.1 S.2.1 d_M_flight_0 rfl (lv_at hl 0 rfl) ?_
  refine lv_iload_n S.1 S.2.1 d_M_flight_1 rfl (lv_at hl 1 rfl) ?_
  refine lv_iload_n S.1 S.2.1 d_M_flight_2 rfl (lv_at hl 2 rfl) ?_
  cases hc3 : F_M_isLink n v1 v2 st with
  | none => rw [hc3] at hF; cases hF
  | some u3 =>
    obtain ⟨r3, st3⟩ := u3
    rw [hc3] at hF
    replace hF := zbind hF
    refine zr_callV (rest := []) S zT_good (C_M_isLink hn hD l v1 v2 st (r3, st3) hc3) zn_M_isLink zx_97 ⟨rfl, rfl⟩ ⟨Nat.le_of_ble_eq_true rfl, Nat.le_of_ble_eq_true rfl⟩ ⟨Nat.zero_le _, Nat.zero_le _⟩ hK (zr_recv hK hP zkm_0 rfl rfl) hP hl.1 (Nat.le_of_ble_eq_true rfl) hS (fun _ h => h) d_M_flight_3 rfl (fun o H locs hpo _ _ hS => ?_)
    obtain ⟨rfl, hP⟩ := hpo
    refine W.eq (g2 := F0 m 6 ls [.int r3]) rfl ?_
    replace hF : F_M_flight_s1 n v1 v2 r3 st3 = some out := hF
    replace hP : zV (dC, dI) zcl zKm ad (zmE n cI cZ ad) st3 H := hP
    unfold F_M_flight_s1 at hF
    refine lv_if_ne (tgt := 11) S.1 S.2.1 d_M_flight_6 (by decide) (fun h6 => ?_) (fun h6 => ?_)
    · rw [if_neg h6] at hF
      refine lv_iconst (v := 0) S.1 S.2.1 d_M_flight_11 (by decide) ?_
      refine lv_istore_n S.1 S.2.1 d_M_flight_12 rfl hl (by decide) rfl (fun ls hl => ?_)
      have hl : lv_has ls 5 [(3, .int 0), (0, .ref (ad (0, 0))), (1, .int v1), (2, .int v2)] := hl
      refine lv_iconst (v := 0) S.1 S.2.1 d_M_flight_13 (by decide) ?_
      refine lv_istore S.1 S.2.1 d_M_flight_14 hl (by decide) rfl (fun ls hl => ?_)
      have hl : lv_has ls 5 [(4, .int 0), (3, .int 0), (0, .ref (ad (0, 0))), (1, .int v1), (2, .int v2)] := hl
      exact T_M_flight_L16 hn hD S hret hlk hK out zFuel v1 v2 0 0 st3 _ _ _ hP hS (lv_sub hl [2, 3, 4, 1, 0] rfl) hF
    · rw [if_pos h6] at hF
      refine lv_iconst (v := (-1)) S.1 S.2.1 d_M_flight_9 (by decide) ?_
      cases hF
      exact zr_iret S hret hlk hS d_M_flight_10 ⟨rfl, hP⟩

theorem d_M_message_0 : decode b_M_message 0 = .ok (.iload_n 3, 1) := by decide +kernel
theorem d_M_message_1 : decode b_M_message 1 = .ok (.ifCond .lt 14, 3) := by decide +kernel
theorem d_M_message_4 : decode b_M_message 4 = .ok (.iload 4, 2) := by decide +kernel
theorem d_M_message_6 : decode b_M_message 6 = .ok (.ifCond .lt 9, 3) := by decide +kernel
theorem d_M_message_9 : decode b_M_message 9 = .ok (.iload 4, 2) := by decide +kernel
theorem d_M_message_11 : decode b_M_message 11 = .ok (.iconst 2, 1) := by decide +kernel
theorem d_M_message_12 : decode b_M_message 12 = .ok (.if_icmp .le 7, 3) := by decide +kernel
theorem d_M_message_15 : decode b_M_message 15 = .ok (.iconst (-1), 1) := by decide +kernel
theorem d_M_message_16 : decode b_M_message 16 = .ok (.goto 10, 3) := by decide +kernel
theorem d_M_message_19 : decode b_M_message 19 = .ok (.aload_n 0, 1) := by decide +kernel
theorem d_M_message_20 : decode b_M_message 20 = .ok (.iload_n 1, 1) := by decide +kernel
theorem d_M_message_21 : decode b_M_message 21 = .ok (.iload_n 2, 1) := by decide +kernel
theorem d_M_message_22 : decode b_M_message 22 = .ok (.iload_n 3, 1) := by decide +kernel
theorem d_M_message_23 : decode b_M_message 23 = .ok (.invokevirtual 132, 3) := by decide +kernel
theorem d_M_message_26 : decode b_M_message 26 = .ok (.istore 5, 2) := by decide +kernel
theorem d_M_message_28 : decode b_M_message 28 = .ok (.iload 5, 2) := by decide +kernel
theorem d_M_message_30 : decode b_M_message 30 = .ok (.ifCond .ge 7, 3) := by decide +kernel
theorem d_M_message_33 : decode b_M_message 33 = .ok (.iconst (-1), 1) := by decide +kernel
theorem d_M_message_34 : decode b_M_message 34 = .ok (.goto 41, 3) := by decide +kernel
theorem d_M_message_37 : decode b_M_message 37 = .ok (.iload 4, 2) := by decide +kernel
theorem d_M_message_39 : decode b_M_message 39 = .ok (.ifCond .ne 13, 3) := by decide +kernel
theorem d_M_message_42 : decode b_M_message 42 = .ok (.aload_n 0, 1) := by decide +kernel
theorem d_M_message_43 : decode b_M_message 43 = .ok (.getfield 44, 3) := by decide +kernel
theorem d_M_message_46 : decode b_M_message 46 = .ok (.iload 5, 2) := by decide +kernel
theorem d_M_message_48 : decode b_M_message 48 = .ok (.iaload, 1) := by decide +kernel
theorem d_M_message_49 : decode b_M_message 49 = .ok (.goto 26, 3) := by decide +kernel
theorem d_M_message_52 : decode b_M_message 52 = .ok (.iload 4, 2) := by decide +kernel
theorem d_M_message_54 : decode b_M_message 54 = .ok (.iconst 1, 1) := by decide +kernel
theorem d_M_message_55 : decode b_M_message 55 = .ok (.if_icmp .ne 13, 3) := by decide +kernel
theorem d_M_message_58 : decode b_M_message 58 = .ok (.aload_n 0, 1) := by decide +kernel
theorem d_M_message_59 : decode b_M_message 59 = .ok (.getfield 47, 3) := by decide +kernel
theorem d_M_message_62 : decode b_M_message 62 = .ok (.iload 5, 2) := by decide +kernel
theorem d_M_message_64 : decode b_M_message 64 = .ok (.iaload, 1) := by decide +kernel
theorem d_M_message_65 : decode b_M_message 65 = .ok (.goto 10, 3) := by decide +kernel
theorem d_M_message_68 : decode b_M_message 68 = .ok (.aload_n 0, 1) := by decide +kernel
theorem d_M_message_69 : decode b_M_message 69 = .ok (.getfield 50, 3) := by decide +kernel
theorem d_M_message_72 : decode b_M_message 72 = .ok (.iload 5, 2) := by decide +kernel
theorem d_M_message_74 : decode b_M_message 74 = .ok (.iaload, 1) := by decide +kernel
theorem d_M_message_75 : decode b_M_message 75 = .ok (.ireturn, 1) := by decide +kernel
def F_M_message_L26 (n : Nat) (v4 : Int32) (t0 : Int32) (st : zS) : Option (Int32 × zS) :=
    if 0 ≤ t0 then (if v4 = 0 then (if zOut t0 1024 then none else some (st 12 0 (Int32.toNatClampNeg t0), st)) else (if v4 = 1 then (if zOut t0 1024 then none else some (st 13 0 (Int32.toNatClampNeg t0), st)) else (if zOut t0 1024 then none else some (st 14 0 (Int32.toNatClampNeg t0), st)))) else (some ((-1), st))

def F_M_message_L15 (n : Nat) (v4 : Int32) (st : zS) : Option (Int32 × zS) :=
    F_M_message_L26 n v4 (-1) st

def F_M_message_s1 (n : Nat) (v4 : Int32) (t0 : Int32) (st : zS) : Option (Int32 × zS) :=
    F_M_message_L26 n v4 t0 st

def F_M_message (n : Nat) (v1 : Int32) (v2 : Int32) (v3 : Int32) (v4 : Int32) (st : zS) : Option (Int32 × zS) :=
    if v3 < 0 then (F_M_message_L15 n v4 st) else (if v4 < 0 then (F_M_message_L15 n v4 st) else (if v4 ≤ 2 then ((F_M_placeOf n v1 v2 v3 st).bind (fun u => F_M_message_s1 n v4 u.1 u.2)) else (F_M_message_L15 n v4 st)))

set_option maxHeartbeats 4000000 in
set_option maxRecDepth 1000000 in
theorem T_M_message_L26 {dC : Nat → ClassId} {dI : Nat → Nat → Nat} {cI cZ cR cA : ClassId} {n : Nat} {ad : zK → Nat} {A : Nat → Prop} (hn : 2 ≤ n ∧ n ≤ 6) (hD : zD A zKm ad) {p : Program} {l : Launch} {e : Env} {s : State} {m : MethodId} {args : Array Value} {below : List Frame} {meth : Method} {c : Code} (S : CallFix p m c b_M_message 6 s args zT N_M) (hret : meth.sig.returnType = some .int) (hlk : meth.locks = false) (hK : va_K (dC, dI) zcl (zty cI cZ cR cA) s) (out : Int32 × zS) (v4 : Int32) (t0 : Int32) (st : zS) (H : Heap) (locs : List Loc) (ls : Array Slot) (hP : zV (dC, dI) zcl zKm ad (zmE n cI cZ ad) st H) (hS : va_S A s.heap H locs) (hl : lv_has ls 6 [(0, .ref (ad (0, 0))), (4, .int v4)]) (hF : F_M_message_L26 n v4 t0 st = some out) : W p l e rm_M_message s m args below meth c H locs 0 0 (zQ below A (fun o H => o = some (.int out.1) ∧ zV (dC, dI) zcl zKm ad (zmE n cI cZ ad) out.2 H) args s) (F0 m 26 ls [.int t0]) := by
  unfold F_M_message_L26 at hF
  refine lv_istore S.1 S.2.1 d_M_message_26 hl (by decide) rfl (fun ls hl => ?_)
  have hl : lv_has ls 6 [(5, .int t0), (0, .ref (ad (0, 0))), (4, .int v4)] := hl
  refine lv_iload S.1 S.2.1 d_M_message_28 (lv_at hl 0 rfl) ?_
  refine lv_if_ge (tgt := 37) S.1 S.2.1 d_M_message_30 (by decide) (fun h30 => ?_) (fun h30 => ?_)
  · rw [if_pos h30] at hF
    refine lv_iload S.1 S.2.1 d_M_message_37 (lv_at hl 2 rfl) ?_
    refine lv_if_ne (tgt := 52) S.1 S.2.1 d_M_message_39 (by decide) (fun h39 => ?_) (fun h39 => ?_)
    · rw [if_neg h39] at hF
      refine lv_iload S.1 S.2.1 d_M_message_52 (lv_at hl 2 rfl) ?_
      refine lv_iconst (v := 1) S.1 S.2.1 d_M_message_54 (by decide) ?_
      refine lv_icmp_ne (tgt := 68) S.1 S.2.1 d_M_message_55 (by decide) (fun h55 => ?_) (fun h55 => ?_)
      · rw [if_neg h55] at hF
        refine lv_aload_n S.1 S.2.1 d_M_message_68 rfl (lv_at hl 1 rfl) ?_
        refine zr_get (v := .ref (ad (14, 0))) S zi_M hK hP zkm_0 rfl rfl 15 (by decide) zx_37 rfl d_M_message_69 ?_
        refine lv_iload S.1 S.2.1 d_M_message_72 (lv_at hl 0 rfl) ?_
        by_cases g74 : zOut t0 1024
        · rw [if_pos g74] at hF; cases hF
        rw [if_neg g74] at hF
        refine zr_iald S hK hP zkm_14 rfl 0 rfl g74 d_M_message_74 ?_
        cases hF
        exact zr_iret S hret hlk hS d_M_message_75 ⟨rfl, hP⟩
      · rw [if_pos h55] at hF
        refine lv_aload_n S.1 S.2.1 d_M_message_58 rfl (lv_at hl 1 rfl) ?_
        refine zr_get (v := .ref (ad (13, 0))) S zi_M hK hP zkm_0 rfl rfl 14 (by decide) zx_36 rfl d_M_message_59 ?_
        refine lv_iload S.1 S.2.1 d_M_message_62 (lv_at hl 0 rfl) ?_
        by_cases g64 : zOut t0 1024
        · rw [if_pos g64] at hF; cases hF
        rw [if_neg g64] at hF
        refine zr_iald S hK hP zkm_13 rfl 0 rfl g64 d_M_message_64 ?_
        refine lv_goto (tgt := 75) S.1 S.2.1 d_M_message_65 (by decide) ?_
        cases hF
        exact zr_iret S hret hlk hS d_M_message_75 ⟨rfl, hP⟩
    · rw [if_pos h39] at hF
      refine lv_aload_n S.1 S.2.1 d_M_message_42 rfl (lv_at hl 1 rfl) ?_
      refine zr_get (v := .ref (ad (12, 0))) S zi_M hK hP zkm_0 rfl rfl 13 (by decide) zx_35 rfl d_M_message_43 ?_
      refine lv_iload S.1 S.2.1 d_M_message_46 (lv_at hl 0 rfl) ?_
      by_cases g48 : zOut t0 1024
      · rw [if_pos g48] at hF; cases hF
      rw [if_neg g48] at hF
      refine zr_iald S hK hP zkm_12 rfl 0 rfl g48 d_M_message_48 ?_
      refine lv_goto (tgt := 75) S.1 S.2.1 d_M_message_49 (by decide) ?_
      cases hF
      exact zr_iret S hret hlk hS d_M_message_75 ⟨rfl, hP⟩
  · rw [if_neg h30] at hF
    refine lv_iconst (v := (-1)) S.1 S.2.1 d_M_message_33 (by decide) ?_
    refine lv_goto (tgt := 75) S.1 S.2.1 d_M_message_34 (by decide) ?_
    cases hF
    exact zr_iret S hret hlk hS d_M_message_75 ⟨rfl, hP⟩

set_option maxHeartbeats 4000000 in
set_option maxRecDepth 1000000 in
theorem T_M_message_L15 {dC : Nat → ClassId} {dI : Nat → Nat → Nat} {cI cZ cR cA : ClassId} {n : Nat} {ad : zK → Nat} {A : Nat → Prop} (hn : 2 ≤ n ∧ n ≤ 6) (hD : zD A zKm ad) {p : Program} {l : Launch} {e : Env} {s : State} {m : MethodId} {args : Array Value} {below : List Frame} {meth : Method} {c : Code} (S : CallFix p m c b_M_message 6 s args zT N_M) (hret : meth.sig.returnType = some .int) (hlk : meth.locks = false) (hK : va_K (dC, dI) zcl (zty cI cZ cR cA) s) (out : Int32 × zS) (v4 : Int32) (st : zS) (H : Heap) (locs : List Loc) (ls : Array Slot) (hP : zV (dC, dI) zcl zKm ad (zmE n cI cZ ad) st H) (hS : va_S A s.heap H locs) (hl : lv_has ls 6 [(0, .ref (ad (0, 0))), (4, .int v4)]) (hF : F_M_message_L15 n v4 st = some out) : W p l e rm_M_message s m args below meth c H locs 0 0 (zQ below A (fun o H => o = some (.int out.1) ∧ zV (dC, dI) zcl zKm ad (zmE n cI cZ ad) out.2 H) args s) (F0 m 15 ls []) := by
  unfold F_M_message_L15 at hF
  refine lv_iconst (v := (-1)) S.1 S.2.1 d_M_message_15 (by decide) ?_
  refine lv_goto (tgt := 26) S.1 S.2.1 d_M_message_16 (by decide) ?_
  exact T_M_message_L26 hn hD S hret hlk hK out v4 (-1) st _ _ _ hP hS (lv_sub hl [0, 1] rfl) hF

set_option maxHeartbeats 4000000 in
set_option maxRecDepth 1000000 in
theorem C_M_message {dC : Nat → ClassId} {dI : Nat → Nat → Nat} {cI cZ cR cA : ClassId} {n : Nat} {ad : zK → Nat} {A : Nat → Prop} (hn : 2 ≤ n ∧ n ≤ 6) (hD : zD A zKm ad) (l : Launch) (v1 : Int32) (v2 : Int32) (v3 : Int32) (v4 : Int32) (st : zS) (out : Int32 × zS) (hF : F_M_message n v1 v2 v3 v4 st = some out) : zC zT (dC, dI) zcl (zty cI cZ cR cA) A l y_M_message b_M_message 6 (some .int) rm_M_message [.ref (ad (0, 0)), .int v1, .int v2, .int v3, .int v4] (fun H => zV (dC, dI) zcl zKm ad (zmE n cI cZ ad) st H) (fun o H => o = some (.int out.1) ∧ zV (dC, dI) zcl zKm ad (zmE n cI cZ ad) out.2 H) := by
  refine zC_of (by decide) (Nat.le_of_ble_eq_true rfl) (fun p e s m args below meth c ls S hret hlk hK hP hl => ?_)
  have hS : va_S A s.heap s.heap [] := va_S.rf
  have hl : lv_has ls 6 [(0, .ref (ad (0, 0))), (1, .int v1), (2, .int v2), (3, .int v3), (4, .int v4)] := hl
  have hP : zV (dC, dI) zcl zKm ad (zmE n cI cZ ad) st s.heap := hP
  unfold F_M_message at hF
  refine lv_iload_n S.1 S.2.1 d_M_message_0 rfl (lv_at hl 3 rfl) ?_
  refine lv_if_lt (tgt := 15) S.1 S.2.1 d_M_message_1 (by decide) (fun h1 => ?_) (fun h1 => ?_)
  · rw [if_pos h1] at hF
    exact T_M_message_L15 hn hD S hret hlk hK out v4 st _ _ _ hP hS (lv_sub hl [0, 4] rfl) hF
  · rw [if_neg h1] at hF
    refine lv_iload S.1 S.2.1 d_M_message_4 (lv_at hl 4 rfl) ?_
    refine lv_if_lt (tgt := 15) S.1 S.2.1 d_M_message_6 (by decide) (fun h6 => ?_) (fun h6 => ?_)
    · rw [if_pos h6] at hF
      exact T_M_message_L15 hn hD S hret hlk hK out v4 st _ _ _ hP hS (lv_sub hl [0, 4] rfl) hF
    · rw [if_neg h6] at hF
      refine lv_iload S.1 S.2.1 d_M_message_9 (lv_at hl 4 rfl) ?_
      refine lv_iconst (v := 2) S.1 S.2.1 d_M_message_11 (by decide) ?_
      refine lv_icmp_le (tgt := 19) S.1 S.2.1 d_M_message_12 (by decide) (fun h12 => ?_) (fun h12 => ?_)
      · rw [if_pos h12] at hF
        refine lv_aload_n S.1 S.2.1 d_M_message_19 rfl (lv_at hl 0 rfl) ?_
        refine lv_iload_n S.1 S.2.1 d_M_message_20 rfl (lv_at hl 1 rfl) ?_
        refine lv_iload_n S.1 S.2.1 d_M_message_21 rfl (lv_at hl 2 rfl) ?_
        refine lv_iload_n S.1 S.2.1 d_M_message_22 rfl (lv_at hl 3 rfl) ?_
        cases hc23 : F_M_placeOf n v1 v2 v3 st with
        | none => rw [hc23] at hF; cases hF
        | some u23 =>
          obtain ⟨r23, st23⟩ := u23
          rw [hc23] at hF
          replace hF := zbind hF
          refine zr_callV (rest := []) S zT_good (C_M_placeOf hn hD l v1 v2 v3 st (r23, st23) hc23) zn_M_placeOf zx_104 ⟨rfl, rfl⟩ ⟨Nat.le_of_ble_eq_true rfl, Nat.le_of_ble_eq_true rfl⟩ ⟨Nat.zero_le _, Nat.zero_le _⟩ hK (zr_recv hK hP zkm_0 rfl rfl) hP hl.1 (Nat.le_of_ble_eq_true rfl) hS (fun _ h => h) d_M_message_23 rfl (fun o H locs hpo _ _ hS => ?_)
          obtain ⟨rfl, hP⟩ := hpo
          refine W.eq (g2 := F0 m 26 ls [.int r23]) rfl ?_
          replace hF : F_M_message_s1 n v4 r23 st23 = some out := hF
          replace hP : zV (dC, dI) zcl zKm ad (zmE n cI cZ ad) st23 H := hP
          unfold F_M_message_s1 at hF
          exact T_M_message_L26 hn hD S hret hlk hK out v4 r23 st23 _ _ _ hP hS (lv_sub hl [0, 4] rfl) hF
      · rw [if_neg h12] at hF
        exact T_M_message_L15 hn hD S hret hlk hK out v4 st _ _ _ hP hS (lv_sub hl [0, 4] rfl) hF

theorem d_M_hops_0 : decode b_M_hops 0 = .ok (.aload_n 0, 1) := by decide +kernel
theorem d_M_hops_1 : decode b_M_hops 1 = .ok (.iload_n 1, 1) := by decide +kernel
theorem d_M_hops_2 : decode b_M_hops 2 = .ok (.invokevirtual 60, 3) := by decide +kernel
theorem d_M_hops_5 : decode b_M_hops 5 = .ok (.ifCond .eq 11, 3) := by decide +kernel
theorem d_M_hops_8 : decode b_M_hops 8 = .ok (.aload_n 0, 1) := by decide +kernel
theorem d_M_hops_9 : decode b_M_hops 9 = .ok (.iload_n 2, 1) := by decide +kernel
theorem d_M_hops_10 : decode b_M_hops 10 = .ok (.invokevirtual 60, 3) := by decide +kernel
theorem d_M_hops_13 : decode b_M_hops 13 = .ok (.ifCond .ne 5, 3) := by decide +kernel
theorem d_M_hops_16 : decode b_M_hops 16 = .ok (.iconst (-1), 1) := by decide +kernel
theorem d_M_hops_17 : decode b_M_hops 17 = .ok (.ireturn, 1) := by decide +kernel
theorem d_M_hops_18 : decode b_M_hops 18 = .ok (.iload_n 1, 1) := by decide +kernel
theorem d_M_hops_19 : decode b_M_hops 19 = .ok (.istore_n 3, 1) := by decide +kernel
theorem d_M_hops_20 : decode b_M_hops 20 = .ok (.iconst 0, 1) := by decide +kernel
theorem d_M_hops_21 : decode b_M_hops 21 = .ok (.istore 4, 2) := by decide +kernel
theorem d_M_hops_23 : decode b_M_hops 23 = .ok (.iload_n 3, 1) := by decide +kernel
theorem d_M_hops_24 : decode b_M_hops 24 = .ok (.iload_n 2, 1) := by decide +kernel
theorem d_M_hops_25 : decode b_M_hops 25 = .ok (.if_icmp .eq 56, 3) := by decide +kernel
theorem d_M_hops_28 : decode b_M_hops 28 = .ok (.iload 4, 2) := by decide +kernel
theorem d_M_hops_30 : decode b_M_hops 30 = .ok (.aload_n 0, 1) := by decide +kernel
theorem d_M_hops_31 : decode b_M_hops 31 = .ok (.getfield 56, 3) := by decide +kernel
theorem d_M_hops_34 : decode b_M_hops 34 = .ok (.if_icmp .ge 47, 3) := by decide +kernel
theorem d_M_hops_37 : decode b_M_hops 37 = .ok (.aload_n 0, 1) := by decide +kernel
theorem d_M_hops_38 : decode b_M_hops 38 = .ok (.getfield 19, 3) := by decide +kernel
theorem d_M_hops_41 : decode b_M_hops 41 = .ok (.bipush 6, 2) := by decide +kernel
theorem d_M_hops_43 : decode b_M_hops 43 = .ok (.iload_n 3, 1) := by decide +kernel
theorem d_M_hops_44 : decode b_M_hops 44 = .ok (.imul, 1) := by decide +kernel
theorem d_M_hops_45 : decode b_M_hops 45 = .ok (.iload_n 2, 1) := by decide +kernel
theorem d_M_hops_46 : decode b_M_hops 46 = .ok (.iadd, 1) := by decide +kernel
theorem d_M_hops_47 : decode b_M_hops 47 = .ok (.iaload, 1) := by decide +kernel
theorem d_M_hops_48 : decode b_M_hops 48 = .ok (.istore 5, 2) := by decide +kernel
theorem d_M_hops_50 : decode b_M_hops 50 = .ok (.iload 5, 2) := by decide +kernel
theorem d_M_hops_52 : decode b_M_hops 52 = .ok (.ifCond .lt 18, 3) := by decide +kernel
theorem d_M_hops_55 : decode b_M_hops 55 = .ok (.aload_n 0, 1) := by decide +kernel
theorem d_M_hops_56 : decode b_M_hops 56 = .ok (.getfield 7, 3) := by decide +kernel
theorem d_M_hops_59 : decode b_M_hops 59 = .ok (.bipush 6, 2) := by decide +kernel
theorem d_M_hops_61 : decode b_M_hops 61 = .ok (.iload_n 3, 1) := by decide +kernel
theorem d_M_hops_62 : decode b_M_hops 62 = .ok (.imul, 1) := by decide +kernel
theorem d_M_hops_63 : decode b_M_hops 63 = .ok (.iload 5, 2) := by decide +kernel
theorem d_M_hops_65 : decode b_M_hops 65 = .ok (.iadd, 1) := by decide +kernel
theorem d_M_hops_66 : decode b_M_hops 66 = .ok (.iaload, 1) := by decide +kernel
theorem d_M_hops_67 : decode b_M_hops 67 = .ok (.ifCond .ne 5, 3) := by decide +kernel
theorem d_M_hops_70 : decode b_M_hops 70 = .ok (.iconst (-1), 1) := by decide +kernel
theorem d_M_hops_71 : decode b_M_hops 71 = .ok (.ireturn, 1) := by decide +kernel
theorem d_M_hops_72 : decode b_M_hops 72 = .ok (.iload 5, 2) := by decide +kernel
theorem d_M_hops_74 : decode b_M_hops 74 = .ok (.istore_n 3, 1) := by decide +kernel
theorem d_M_hops_75 : decode b_M_hops 75 = .ok (.iinc 4 1, 3) := by decide +kernel
theorem d_M_hops_78 : decode b_M_hops 78 = .ok (.goto (-55), 3) := by decide +kernel
theorem d_M_hops_81 : decode b_M_hops 81 = .ok (.iload_n 3, 1) := by decide +kernel
theorem d_M_hops_82 : decode b_M_hops 82 = .ok (.iload_n 2, 1) := by decide +kernel
theorem d_M_hops_83 : decode b_M_hops 83 = .ok (.if_icmp .ne 8, 3) := by decide +kernel
theorem d_M_hops_86 : decode b_M_hops 86 = .ok (.iload 4, 2) := by decide +kernel
theorem d_M_hops_88 : decode b_M_hops 88 = .ok (.goto 4, 3) := by decide +kernel
theorem d_M_hops_91 : decode b_M_hops 91 = .ok (.iconst (-1), 1) := by decide +kernel
theorem d_M_hops_92 : decode b_M_hops 92 = .ok (.ireturn, 1) := by decide +kernel
def F_M_hops_L81 (n : Nat) (v2 : Int32) (v3 : Int32) (v4 : Int32) (st : zS) : Option (Int32 × zS) :=
    if v3 = v2 then (some (v4, st)) else (some ((-1), st))

def F_M_hops_L23 (n : Nat) : Nat → Int32 → Int32 → Int32 → zS → Option (Int32 × zS)
  | 0, _, _, _, _ => none
  | f + 1, v2, v3, v4, st =>
    if v3 = v2 then (F_M_hops_L81 n v2 v3 v4 st) else (if (nI n) ≤ v4 then (F_M_hops_L81 n v2 v3 v4 st) else (if zOut ((6 * v3) + v2) 36 then none else if (st 4 0 (Int32.toNatClampNeg ((6 * v3) + v2))) < 0 then (some ((-1), st)) else (if zOut ((6 * v3) + (st 4 0 (Int32.toNatClampNeg ((6 * v3) + v2)))) 36 then none else if (st 1 0 (Int32.toNatClampNeg ((6 * v3) + (st 4 0 (Int32.toNatClampNeg ((6 * v3) + v2)))))) = 0 then (some ((-1), st)) else (F_M_hops_L23 n f v2 (st 4 0 (Int32.toNatClampNeg ((6 * v3) + v2))) (v4 + 1) st))))

def F_M_hops_s2 (n : Nat) (v1 : Int32) (v2 : Int32) (t0 : Int32) (st : zS) : Option (Int32 × zS) :=
    if t0 = 0 then (some ((-1), st)) else (F_M_hops_L23 n zFuel v2 v1 0 st)

def F_M_hops_s1 (n : Nat) (v1 : Int32) (v2 : Int32) (t0 : Int32) (st : zS) : Option (Int32 × zS) :=
    if t0 = 0 then (some ((-1), st)) else ((F_M_isRouter n v2 st).bind (fun u => F_M_hops_s2 n v1 v2 u.1 u.2))

def F_M_hops (n : Nat) (v1 : Int32) (v2 : Int32) (st : zS) : Option (Int32 × zS) :=
    (F_M_isRouter n v1 st).bind (fun u => F_M_hops_s1 n v1 v2 u.1 u.2)

set_option maxHeartbeats 4000000 in
set_option maxRecDepth 1000000 in
theorem T_M_hops_L81 {dC : Nat → ClassId} {dI : Nat → Nat → Nat} {cI cZ cR cA : ClassId} {n : Nat} {ad : zK → Nat} {A : Nat → Prop} (hn : 2 ≤ n ∧ n ≤ 6) (hD : zD A zKm ad) {p : Program} {l : Launch} {e : Env} {s : State} {m : MethodId} {args : Array Value} {below : List Frame} {meth : Method} {c : Code} (S : CallFix p m c b_M_hops 6 s args zT N_M) (hret : meth.sig.returnType = some .int) (hlk : meth.locks = false) (hK : va_K (dC, dI) zcl (zty cI cZ cR cA) s) (out : Int32 × zS) (v2 : Int32) (v3 : Int32) (v4 : Int32) (st : zS) (H : Heap) (locs : List Loc) (ls : Array Slot) (hP : zV (dC, dI) zcl zKm ad (zmE n cI cZ ad) st H) (hS : va_S A s.heap H locs) (hl : lv_has ls 6 [(2, .int v2), (3, .int v3), (4, .int v4)]) (hF : F_M_hops_L81 n v2 v3 v4 st = some out) : W p l e rm_M_hops s m args below meth c H locs 0 0 (zQ below A (fun o H => o = some (.int out.1) ∧ zV (dC, dI) zcl zKm ad (zmE n cI cZ ad) out.2 H) args s) (F0 m 81 ls []) := by
  unfold F_M_hops_L81 at hF
  refine lv_iload_n S.1 S.2.1 d_M_hops_81 rfl (lv_at hl 1 rfl) ?_
  refine lv_iload_n S.1 S.2.1 d_M_hops_82 rfl (lv_at hl 0 rfl) ?_
  refine lv_icmp_ne (tgt := 91) S.1 S.2.1 d_M_hops_83 (by decide) (fun h83 => ?_) (fun h83 => ?_)
  · rw [if_neg h83] at hF
    refine lv_iconst (v := (-1)) S.1 S.2.1 d_M_hops_91 (by decide) ?_
    cases hF
    exact zr_iret S hret hlk hS d_M_hops_92 ⟨rfl, hP⟩
  · rw [if_pos h83] at hF
    refine lv_iload S.1 S.2.1 d_M_hops_86 (lv_at hl 2 rfl) ?_
    refine lv_goto (tgt := 92) S.1 S.2.1 d_M_hops_88 (by decide) ?_
    cases hF
    exact zr_iret S hret hlk hS d_M_hops_92 ⟨rfl, hP⟩

set_option maxHeartbeats 4000000 in
set_option maxRecDepth 1000000 in
theorem T_M_hops_L23 {dC : Nat → ClassId} {dI : Nat → Nat → Nat} {cI cZ cR cA : ClassId} {n : Nat} {ad : zK → Nat} {A : Nat → Prop} (hn : 2 ≤ n ∧ n ≤ 6) (hD : zD A zKm ad) {p : Program} {l : Launch} {e : Env} {s : State} {m : MethodId} {args : Array Value} {below : List Frame} {meth : Method} {c : Code} (S : CallFix p m c b_M_hops 6 s args zT N_M) (hret : meth.sig.returnType = some .int) (hlk : meth.locks = false) (hK : va_K (dC, dI) zcl (zty cI cZ cR cA) s) (out : Int32 × zS) : ∀ (fu : Nat) (v2 : Int32) (v3 : Int32) (v4 : Int32) (st : zS) (H : Heap) (locs : List Loc) (ls : Array Slot) (hP : zV (dC, dI) zcl zKm ad (zmE n cI cZ ad) st H) (hS : va_S A s.heap H locs) (hl : lv_has ls 6 [(0, .ref (ad (0, 0))), (2, .int v2), (3, .int v3), (4, .int v4)]) (hF : F_M_hops_L23 n fu v2 v3 v4 st = some out), W p l e rm_M_hops s m args below meth c H locs 0 0 (zQ below A (fun o H => o = some (.int out.1) ∧ zV (dC, dI) zcl zKm ad (zmE n cI cZ ad) out.2 H) args s) (F0 m 23 ls []) := by
  intro fu
  induction fu with
  | zero => intro v2 v3 v4 st H locs ls hP hS hl hF; rw [F_M_hops_L23] at hF; cases hF
  | succ f ih =>
    intro v2 v3 v4 st H locs ls hP hS hl hF
    rw [F_M_hops_L23] at hF
    refine lv_iload_n S.1 S.2.1 d_M_hops_23 rfl (lv_at hl 2 rfl) ?_
    refine lv_iload_n S.1 S.2.1 d_M_hops_24 rfl (lv_at hl 1 rfl) ?_
    refine lv_icmp_eq (tgt := 81) S.1 S.2.1 d_M_hops_25 (by decide) (fun h25 => ?_) (fun h25 => ?_)
    · rw [if_pos h25] at hF
      exact T_M_hops_L81 hn hD S hret hlk hK out v2 v3 v4 st _ _ _ hP hS (lv_sub hl [1, 2, 3] rfl) hF
    · rw [if_neg h25] at hF
      refine lv_iload S.1 S.2.1 d_M_hops_28 (lv_at hl 3 rfl) ?_
      refine lv_aload_n S.1 S.2.1 d_M_hops_30 rfl (lv_at hl 0 rfl) ?_
      refine zr_get (v := .int (nI n)) S zi_M hK hP zkm_0 rfl rfl 0 (by decide) zx_39 rfl d_M_hops_31 ?_
      refine lv_icmp_ge (tgt := 81) S.1 S.2.1 d_M_hops_34 (by decide) (fun h34 => ?_) (fun h34 => ?_)
      · rw [if_pos h34] at hF
        exact T_M_hops_L81 hn hD S hret hlk hK out v2 v3 v4 st _ _ _ hP hS (lv_sub hl [1, 2, 3] rfl) hF
      · rw [if_neg h34] at hF
        refine lv_aload_n S.1 S.2.1 d_M_hops_37 rfl (lv_at hl 0 rfl) ?_
        refine zr_get (v := .ref (ad (4, 0))) S zi_M hK hP zkm_0 rfl rfl 4 (by decide) zx_27 rfl d_M_hops_38 ?_
        refine lv_bipush (v := 6) S.1 S.2.1 d_M_hops_41 (by decide) ?_
        refine lv_iload_n S.1 S.2.1 d_M_hops_43 rfl (lv_at hl 2 rfl) ?_
        refine lv_imul S.1 S.2.1 d_M_hops_44 ?_
        refine lv_iload_n S.1 S.2.1 d_M_hops_45 rfl (lv_at hl 1 rfl) ?_
        refine lv_iadd S.1 S.2.1 d_M_hops_46 ?_
        by_cases g47 : zOut ((6 * v3) + v2) 36
        · rw [if_pos g47] at hF; cases hF
        rw [if_neg g47] at hF
        refine zr_iald S hK hP zkm_4 rfl 0 rfl g47 d_M_hops_47 ?_
        refine lv_istore S.1 S.2.1 d_M_hops_48 hl (by decide) rfl (fun ls hl => ?_)
        have hl : lv_has ls 6 [(5, .int (st 4 0 (Int32.toNatClampNeg ((6 * v3) + v2)))), (0, .ref (ad (0, 0))), (2, .int v2), (3, .int v3), (4, .int v4)] := hl
        refine lv_iload S.1 S.2.1 d_M_hops_50 (lv_at hl 0 rfl) ?_
        refine lv_if_lt (tgt := 70) S.1 S.2.1 d_M_hops_52 (by decide) (fun h52 => ?_) (fun h52 => ?_)
        · rw [if_pos h52] at hF
          refine lv_iconst (v := (-1)) S.1 S.2.1 d_M_hops_70 (by decide) ?_
          cases hF
          exact zr_iret S hret hlk hS d_M_hops_71 ⟨rfl, hP⟩
        · rw [if_neg h52] at hF
          refine lv_aload_n S.1 S.2.1 d_M_hops_55 rfl (lv_at hl 1 rfl) ?_
          refine zr_get (v := .ref (ad (1, 0))) S zi_M hK hP zkm_0 rfl rfl 1 (by decide) zx_41 rfl d_M_hops_56 ?_
          refine lv_bipush (v := 6) S.1 S.2.1 d_M_hops_59 (by decide) ?_
          refine lv_iload_n S.1 S.2.1 d_M_hops_61 rfl (lv_at hl 3 rfl) ?_
          refine lv_imul S.1 S.2.1 d_M_hops_62 ?_
          refine lv_iload S.1 S.2.1 d_M_hops_63 (lv_at hl 0 rfl) ?_
          refine lv_iadd S.1 S.2.1 d_M_hops_65 ?_
          by_cases g66 : zOut ((6 * v3) + (st 4 0 (Int32.toNatClampNeg ((6 * v3) + v2)))) 36
          · rw [if_pos g66] at hF; cases hF
          rw [if_neg g66] at hF
          refine zr_iald S hK hP zkm_1 rfl 0 rfl g66 d_M_hops_66 ?_
          refine lv_if_ne (tgt := 72) S.1 S.2.1 d_M_hops_67 (by decide) (fun h67 => ?_) (fun h67 => ?_)
          · rw [if_neg h67] at hF
            refine lv_iload S.1 S.2.1 d_M_hops_72 (lv_at hl 0 rfl) ?_
            refine lv_istore_n S.1 S.2.1 d_M_hops_74 rfl hl (by decide) rfl (fun ls hl => ?_)
            have hl : lv_has ls 6 [(3, .int (st 4 0 (Int32.toNatClampNeg ((6 * v3) + v2)))), (5, .int (st 4 0 (Int32.toNatClampNeg ((6 * v3) + v2)))), (0, .ref (ad (0, 0))), (2, .int v2), (4, .int v4)] := hl
            refine lv_iinc (k := 4) (v := v4 + 1) S.1 S.2.1 d_M_hops_75 hl rfl rfl (by decide) rfl (fun ls hl => ?_)
            have hl : lv_has ls 6 [(4, .int (v4 + 1)), (3, .int (st 4 0 (Int32.toNatClampNeg ((6 * v3) + v2)))), (5, .int (st 4 0 (Int32.toNatClampNeg ((6 * v3) + v2)))), (0, .ref (ad (0, 0))), (2, .int v2)] := hl
            refine lv_goto (tgt := 23) S.1 S.2.1 d_M_hops_78 (by decide) ?_
            exact ih v2 (st 4 0 (Int32.toNatClampNeg ((6 * v3) + v2))) (v4 + 1) st _ _ _ hP hS (lv_sub hl [3, 4, 1, 0] rfl) hF
          · rw [if_pos h67] at hF
            refine lv_iconst (v := (-1)) S.1 S.2.1 d_M_hops_70 (by decide) ?_
            cases hF
            exact zr_iret S hret hlk hS d_M_hops_71 ⟨rfl, hP⟩

set_option maxHeartbeats 4000000 in
set_option maxRecDepth 1000000 in
theorem C_M_hops {dC : Nat → ClassId} {dI : Nat → Nat → Nat} {cI cZ cR cA : ClassId} {n : Nat} {ad : zK → Nat} {A : Nat → Prop} (hn : 2 ≤ n ∧ n ≤ 6) (hD : zD A zKm ad) (l : Launch) (v1 : Int32) (v2 : Int32) (st : zS) (out : Int32 × zS) (hF : F_M_hops n v1 v2 st = some out) : zC zT (dC, dI) zcl (zty cI cZ cR cA) A l y_M_hops b_M_hops 6 (some .int) rm_M_hops [.ref (ad (0, 0)), .int v1, .int v2] (fun H => zV (dC, dI) zcl zKm ad (zmE n cI cZ ad) st H) (fun o H => o = some (.int out.1) ∧ zV (dC, dI) zcl zKm ad (zmE n cI cZ ad) out.2 H) := by
  refine zC_of (by decide) (Nat.le_of_ble_eq_true rfl) (fun p e s m args below meth c ls S hret hlk hK hP hl => ?_)
  have hS : va_S A s.heap s.heap [] := va_S.rf
  have hl : lv_has ls 6 [(0, .ref (ad (0, 0))), (1, .int v1), (2, .int v2)] := hl
  have hP : zV (dC, dI) zcl zKm ad (zmE n cI cZ ad) st s.heap := hP
  unfold F_M_hops at hF
  refine lv_aload_n S.1 S.2.1 d_M_hops_0 rfl (lv_at hl 0 rfl) ?_
  refine lv_iload_n S.1 S.2.1 d_M_hops_1 rfl (lv_at hl 1 rfl) ?_
  cases hc2 : F_M_isRouter n v1 st with
  | none => rw [hc2] at hF; cases hF
  | some u2 =>
    obtain ⟨r2, st2⟩ := u2
    rw [hc2] at hF
    replace hF := zbind hF
    refine zr_callV (rest := []) S zT_good (C_M_isRouter hn hD l v1 st (r2, st2) hc2) zn_M_isRouter zx_106 ⟨rfl, rfl⟩ ⟨Nat.le_of_ble_eq_true rfl, Nat.le_of_ble_eq_true rfl⟩ ⟨Nat.zero_le _, Nat.zero_le _⟩ hK (zr_recv hK hP zkm_0 rfl rfl) hP hl.1 (Nat.le_of_ble_eq_true rfl) hS (fun _ h => h) d_M_hops_2 rfl (fun o H locs hpo _ _ hS => ?_)
    obtain ⟨rfl, hP⟩ := hpo
    refine W.eq (g2 := F0 m 5 ls [.int r2]) rfl ?_
    replace hF : F_M_hops_s1 n v1 v2 r2 st2 = some out := hF
    replace hP : zV (dC, dI) zcl zKm ad (zmE n cI cZ ad) st2 H := hP
    unfold F_M_hops_s1 at hF
    refine lv_if_eq (tgt := 16) S.1 S.2.1 d_M_hops_5 (by decide) (fun h5 => ?_) (fun h5 => ?_)
    · rw [if_pos h5] at hF
      refine lv_iconst (v := (-1)) S.1 S.2.1 d_M_hops_16 (by decide) ?_
      cases hF
      exact zr_iret S hret hlk hS d_M_hops_17 ⟨rfl, hP⟩
    · rw [if_neg h5] at hF
      refine lv_aload_n S.1 S.2.1 d_M_hops_8 rfl (lv_at hl 0 rfl) ?_
      refine lv_iload_n S.1 S.2.1 d_M_hops_9 rfl (lv_at hl 2 rfl) ?_
      cases hc10 : F_M_isRouter n v2 st2 with
      | none => rw [hc10] at hF; cases hF
      | some u10 =>
        obtain ⟨r10, st10⟩ := u10
        rw [hc10] at hF
        replace hF := zbind hF
        refine zr_callV (rest := []) S zT_good (C_M_isRouter hn hD l v2 st2 (r10, st10) hc10) zn_M_isRouter zx_106 ⟨rfl, rfl⟩ ⟨Nat.le_of_ble_eq_true rfl, Nat.le_of_ble_eq_true rfl⟩ ⟨Nat.zero_le _, Nat.zero_le _⟩ hK (zr_recv hK hP zkm_0 rfl rfl) hP hl.1 (Nat.le_of_ble_eq_true rfl) hS (fun _ h => h) d_M_hops_10 rfl (fun o H locs hpo _ _ hS => ?_)
        obtain ⟨rfl, hP⟩ := hpo
        refine W.eq (g2 := F0 m 13 ls [.int r10]) rfl ?_
        replace hF : F_M_hops_s2 n v1 v2 r10 st10 = some out := hF
        replace hP : zV (dC, dI) zcl zKm ad (zmE n cI cZ ad) st10 H := hP
        unfold F_M_hops_s2 at hF
        refine lv_if_ne (tgt := 18) S.1 S.2.1 d_M_hops_13 (by decide) (fun h13 => ?_) (fun h13 => ?_)
        · rw [if_neg h13] at hF
          refine lv_iload_n S.1 S.2.1 d_M_hops_18 rfl (lv_at hl 1 rfl) ?_
          refine lv_istore_n S.1 S.2.1 d_M_hops_19 rfl hl (by decide) rfl (fun ls hl => ?_)
          have hl : lv_has ls 6 [(3, .int v1), (0, .ref (ad (0, 0))), (1, .int v1), (2, .int v2)] := hl
          refine lv_iconst (v := 0) S.1 S.2.1 d_M_hops_20 (by decide) ?_
          refine lv_istore S.1 S.2.1 d_M_hops_21 hl (by decide) rfl (fun ls hl => ?_)
          have hl : lv_has ls 6 [(4, .int 0), (3, .int v1), (0, .ref (ad (0, 0))), (1, .int v1), (2, .int v2)] := hl
          exact T_M_hops_L23 hn hD S hret hlk hK out zFuel v2 v1 0 st10 _ _ _ hP hS (lv_sub hl [2, 4, 1, 0] rfl) hF
        · rw [if_pos h13] at hF
          refine lv_iconst (v := (-1)) S.1 S.2.1 d_M_hops_16 (by decide) ?_
          cases hF
          exact zr_iret S hret hlk hS d_M_hops_17 ⟨rfl, hP⟩

