theorem d_M_total_0 : decode b_M_total 0 = .ok (.iload_n 1, 1) := by decide +kernel
theorem d_M_total_1 : decode b_M_total 1 = .ok (.ifCond .lt 8, 3) := by decide +kernel
theorem d_M_total_4 : decode b_M_total 4 = .ok (.iload_n 1, 1) := by decide +kernel
theorem d_M_total_5 : decode b_M_total 5 = .ok (.iconst 5, 1) := by decide +kernel
theorem d_M_total_6 : decode b_M_total 6 = .ok (.if_icmp .le 5, 3) := by decide +kernel
theorem d_M_total_9 : decode b_M_total 9 = .ok (.iconst (-1), 1) := by decide +kernel
theorem d_M_total_10 : decode b_M_total 10 = .ok (.ireturn, 1) := by decide +kernel
theorem d_M_total_11 : decode b_M_total 11 = .ok (.iconst 0, 1) := by decide +kernel
theorem d_M_total_12 : decode b_M_total 12 = .ok (.istore_n 2, 1) := by decide +kernel
theorem d_M_total_13 : decode b_M_total 13 = .ok (.iconst 0, 1) := by decide +kernel
theorem d_M_total_14 : decode b_M_total 14 = .ok (.istore_n 3, 1) := by decide +kernel
theorem d_M_total_15 : decode b_M_total 15 = .ok (.iload_n 3, 1) := by decide +kernel
theorem d_M_total_16 : decode b_M_total 16 = .ok (.bipush 36, 2) := by decide +kernel
theorem d_M_total_18 : decode b_M_total 18 = .ok (.if_icmp .ge 26, 3) := by decide +kernel
theorem d_M_total_21 : decode b_M_total 21 = .ok (.aload_n 0, 1) := by decide +kernel
theorem d_M_total_22 : decode b_M_total 22 = .ok (.getfield 22, 3) := by decide +kernel
theorem d_M_total_25 : decode b_M_total 25 = .ok (.iload_n 3, 1) := by decide +kernel
theorem d_M_total_26 : decode b_M_total 26 = .ok (.baload, 1) := by decide +kernel
theorem d_M_total_27 : decode b_M_total 27 = .ok (.ifCond .eq 9, 3) := by decide +kernel
theorem d_M_total_30 : decode b_M_total 30 = .ok (.iload_n 2, 1) := by decide +kernel
theorem d_M_total_31 : decode b_M_total 31 = .ok (.iconst 1, 1) := by decide +kernel
theorem d_M_total_32 : decode b_M_total 32 = .ok (.iadd, 1) := by decide +kernel
theorem d_M_total_33 : decode b_M_total 33 = .ok (.goto 4, 3) := by decide +kernel
theorem d_M_total_36 : decode b_M_total 36 = .ok (.iload_n 2, 1) := by decide +kernel
theorem d_M_total_37 : decode b_M_total 37 = .ok (.istore_n 2, 1) := by decide +kernel
theorem d_M_total_38 : decode b_M_total 38 = .ok (.iinc 3 1, 3) := by decide +kernel
theorem d_M_total_41 : decode b_M_total 41 = .ok (.goto (-26), 3) := by decide +kernel
theorem d_M_total_44 : decode b_M_total 44 = .ok (.iload_n 1, 1) := by decide +kernel
theorem d_M_total_45 : decode b_M_total 45 = .ok (.iconst 3, 1) := by decide +kernel
theorem d_M_total_46 : decode b_M_total 46 = .ok (.if_icmp .ge 12, 3) := by decide +kernel
theorem d_M_total_49 : decode b_M_total 49 = .ok (.aload_n 0, 1) := by decide +kernel
theorem d_M_total_50 : decode b_M_total 50 = .ok (.getfield 53, 3) := by decide +kernel
theorem d_M_total_53 : decode b_M_total 53 = .ok (.iload_n 1, 1) := by decide +kernel
theorem d_M_total_54 : decode b_M_total 54 = .ok (.iaload, 1) := by decide +kernel
theorem d_M_total_55 : decode b_M_total 55 = .ok (.goto 28, 3) := by decide +kernel
theorem d_M_total_58 : decode b_M_total 58 = .ok (.iload_n 1, 1) := by decide +kernel
theorem d_M_total_59 : decode b_M_total 59 = .ok (.iconst 3, 1) := by decide +kernel
theorem d_M_total_60 : decode b_M_total 60 = .ok (.if_icmp .ne 10, 3) := by decide +kernel
theorem d_M_total_63 : decode b_M_total 63 = .ok (.aload_n 0, 1) := by decide +kernel
theorem d_M_total_64 : decode b_M_total 64 = .ok (.getfield 64, 3) := by decide +kernel
theorem d_M_total_67 : decode b_M_total 67 = .ok (.goto 16, 3) := by decide +kernel
theorem d_M_total_70 : decode b_M_total 70 = .ok (.iload_n 1, 1) := by decide +kernel
theorem d_M_total_71 : decode b_M_total 71 = .ok (.iconst 4, 1) := by decide +kernel
theorem d_M_total_72 : decode b_M_total 72 = .ok (.if_icmp .ne 7, 3) := by decide +kernel
theorem d_M_total_75 : decode b_M_total 75 = .ok (.iload_n 2, 1) := by decide +kernel
theorem d_M_total_76 : decode b_M_total 76 = .ok (.goto 7, 3) := by decide +kernel
theorem d_M_total_79 : decode b_M_total 79 = .ok (.aload_n 0, 1) := by decide +kernel
theorem d_M_total_80 : decode b_M_total 80 = .ok (.invokevirtual 117, 3) := by decide +kernel
theorem d_M_total_83 : decode b_M_total 83 = .ok (.ireturn, 1) := by decide +kernel
def F_M_total_L37 (n : Nat) (c15 : Int32 → Int32 → Int32 → zS → Option (Int32 × zS)) (v1 : Int32) (v3 : Int32) (t0 : Int32) (st : zS) : Option (Int32 × zS) :=
    c15 v1 t0 (v3 + 1) st

def F_M_total_L15_s1 (n : Nat) (c15 : Int32 → Int32 → Int32 → zS → Option (Int32 × zS)) (t0 : Int32) (st : zS) : Option (Int32 × zS) :=
    some (t0, st)

def F_M_total_L15 (n : Nat) : Nat → Int32 → Int32 → Int32 → zS → Option (Int32 × zS)
  | 0, _, _, _, _ => none
  | f + 1, v1, v2, v3, st =>
    if 36 ≤ v3 then (if 3 ≤ v1 then (if v1 = 3 then (some (st 0 0 0, st)) else (if v1 = 4 then (some (v2, st)) else ((F_M_links n st).bind (fun u => F_M_total_L15_s1 n (F_M_total_L15 n f) u.1 u.2)))) else (if zOut v1 3 then none else some (st 15 0 (Int32.toNatClampNeg v1), st))) else (if zOut v3 36 then none else if (st 5 0 (Int32.toNatClampNeg v3)) = 0 then (F_M_total_L37 n (F_M_total_L15 n f) v1 v3 v2 st) else (F_M_total_L37 n (F_M_total_L15 n f) v1 v3 (v2 + 1) st))

def F_M_total (n : Nat) (v1 : Int32) (st : zS) : Option (Int32 × zS) :=
    if v1 < 0 then (some ((-1), st)) else (if v1 ≤ 5 then (F_M_total_L15 n zFuel v1 0 0 st) else (some ((-1), st)))

set_option maxHeartbeats 4000000 in
set_option maxRecDepth 1000000 in
theorem T_M_total_L37 {dC : Nat → ClassId} {dI : Nat → Nat → Nat} {cI cZ cR cA : ClassId} {n : Nat} {ad : zK → Nat} {A : Nat → Prop} (hn : 2 ≤ n ∧ n ≤ 6) (hD : zD A zKm ad) {p : Program} {l : Launch} {e : Env} {s : State} {m : MethodId} {args : Array Value} {below : List Frame} {meth : Method} {c : Code} (S : CallFix p m c b_M_total 4 s args zT N_M) (hret : meth.sig.returnType = some .int) (hlk : meth.locks = false) (hK : va_K (dC, dI) zcl (zty cI cZ cR cA) s) (out : Int32 × zS) (c15 : Int32 → Int32 → Int32 → zS → Option (Int32 × zS)) (hc15 : ∀ (v1 : Int32) (v2 : Int32) (v3 : Int32) (st : zS) (H : Heap) (locs : List Loc) (ls : Array Slot), zV (dC, dI) zcl zKm ad (zmE n cI cZ ad) st H → va_S A s.heap H locs → lv_has ls 4 [(0, .ref (ad (0, 0))), (1, .int v1), (2, .int v2), (3, .int v3)] → c15 v1 v2 v3 st = some out → W p l e rm_M_total s m args below meth c H locs 0 0 (zQ below A (fun o H => o = some (.int out.1) ∧ zV (dC, dI) zcl zKm ad (zmE n cI cZ ad) out.2 H) args s) (F0 m 15 ls [])) (v1 : Int32) (v3 : Int32) (t0 : Int32) (st : zS) (H : Heap) (locs : List Loc) (ls : Array Slot) (hP : zV (dC, dI) zcl zKm ad (zmE n cI cZ ad) st H) (hS : va_S A s.heap H locs) (hl : lv_has ls 4 [(0, .ref (ad (0, 0))), (1, .int v1), (3, .int v3)]) (hF : F_M_total_L37 n c15 v1 v3 t0 st = some out) : W p l e rm_M_total s m args below meth c H locs 0 0 (zQ below A (fun o H => o = some (.int out.1) ∧ zV (dC, dI) zcl zKm ad (zmE n cI cZ ad) out.2 H) args s) (F0 m 37 ls [.int t0]) := by
  unfold F_M_total_L37 at hF
  refine lv_istore_n S.1 S.2.1 d_M_total_37 rfl hl (by decide) rfl (fun ls hl => ?_)
  have hl : lv_has ls 4 [(2, .int t0), (0, .ref (ad (0, 0))), (1, .int v1), (3, .int v3)] := hl
  refine lv_iinc (k := 3) (v := v3 + 1) S.1 S.2.1 d_M_total_38 hl rfl rfl (by decide) rfl (fun ls hl => ?_)
  have hl : lv_has ls 4 [(3, .int (v3 + 1)), (2, .int t0), (0, .ref (ad (0, 0))), (1, .int v1)] := hl
  refine lv_goto (tgt := 15) S.1 S.2.1 d_M_total_41 (by decide) ?_
  exact hc15 v1 t0 (v3 + 1) st _ _ _ hP hS (lv_sub hl [2, 3, 1, 0] rfl) hF

set_option maxHeartbeats 4000000 in
set_option maxRecDepth 1000000 in
theorem T_M_total_L15 {dC : Nat → ClassId} {dI : Nat → Nat → Nat} {cI cZ cR cA : ClassId} {n : Nat} {ad : zK → Nat} {A : Nat → Prop} (hn : 2 ≤ n ∧ n ≤ 6) (hD : zD A zKm ad) {p : Program} {l : Launch} {e : Env} {s : State} {m : MethodId} {args : Array Value} {below : List Frame} {meth : Method} {c : Code} (S : CallFix p m c b_M_total 4 s args zT N_M) (hret : meth.sig.returnType = some .int) (hlk : meth.locks = false) (hK : va_K (dC, dI) zcl (zty cI cZ cR cA) s) (out : Int32 × zS) : ∀ (fu : Nat) (v1 : Int32) (v2 : Int32) (v3 : Int32) (st : zS) (H : Heap) (locs : List Loc) (ls : Array Slot) (hP : zV (dC, dI) zcl zKm ad (zmE n cI cZ ad) st H) (hS : va_S A s.heap H locs) (hl : lv_has ls 4 [(0, .ref (ad (0, 0))), (1, .int v1), (2, .int v2), (3, .int v3)]) (hF : F_M_total_L15 n fu v1 v2 v3 st = some out), W p l e rm_M_total s m args below meth c H locs 0 0 (zQ below A (fun o H => o = some (.int out.1) ∧ zV (dC, dI) zcl zKm ad (zmE n cI cZ ad) out.2 H) args s) (F0 m 15 ls []) := by
  intro fu
  induction fu with
  | zero => intro v1 v2 v3 st H locs ls hP hS hl hF; rw [F_M_total_L15] at hF; cases hF
  | succ f ih =>
    intro v1 v2 v3 st H locs ls hP hS hl hF
    rw [F_M_total_L15] at hF
    refine lv_iload_n S.1 S.2.1 d_M_total_15 rfl (lv_at hl 3 rfl) ?_
    refine lv_bipush (v := 36) S.1 S.2.1 d_M_total_16 (by decide) ?_
    refine lv_icmp_ge (tgt := 44) S.1 S.2.1 d_M_total_18 (by decide) (fun h18 => ?_) (fun h18 => ?_)
    · rw [if_pos h18] at hF
      refine lv_iload_n S.1 S.2.1 d_M_total_44 rfl (lv_at hl 1 rfl) ?_
      refine lv_iconst (v := 3) S.1 S.2.1 d_M_total_45 (by decide) ?_
      refine lv_icmp_ge (tgt := 58) S.1 S.2.1 d_M_total_46 (by decide) (fun h46 => ?_) (fun h46 => ?_)
      · rw [if_pos h46] at hF
        refine lv_iload_n S.1 S.2.1 d_M_total_58 rfl (lv_at hl 1 rfl) ?_
        refine lv_iconst (v := 3) S.1 S.2.1 d_M_total_59 (by decide) ?_
        refine lv_icmp_ne (tgt := 70) S.1 S.2.1 d_M_total_60 (by decide) (fun h60 => ?_) (fun h60 => ?_)
        · rw [if_neg h60] at hF
          refine lv_iload_n S.1 S.2.1 d_M_total_70 rfl (lv_at hl 1 rfl) ?_
          refine lv_iconst (v := 4) S.1 S.2.1 d_M_total_71 (by decide) ?_
          refine lv_icmp_ne (tgt := 79) S.1 S.2.1 d_M_total_72 (by decide) (fun h72 => ?_) (fun h72 => ?_)
          · rw [if_neg h72] at hF
            refine lv_aload_n S.1 S.2.1 d_M_total_79 rfl (lv_at hl 0 rfl) ?_
            cases hc80 : F_M_links n st with
            | none => rw [hc80] at hF; cases hF
            | some u80 =>
              obtain ⟨r80, st80⟩ := u80
              rw [hc80] at hF
              replace hF := zbind hF
              refine zr_callV (rest := []) S zT_good (C_M_links hn hD l st (r80, st80) hc80) zn_M_links zx_100 ⟨rfl, rfl⟩ ⟨Nat.le_of_ble_eq_true rfl, Nat.le_of_ble_eq_true rfl⟩ ⟨Nat.zero_le _, Nat.zero_le _⟩ hK (zr_recv hK hP zkm_0 rfl rfl) hP hl.1 (Nat.le_of_ble_eq_true rfl) hS (fun _ h => h) d_M_total_80 rfl (fun o H locs hpo _ _ hS => ?_)
              obtain ⟨rfl, hP⟩ := hpo
              refine W.eq (g2 := F0 m 83 ls [.int r80]) rfl ?_
              replace hF : F_M_total_L15_s1 n (F_M_total_L15 n f) r80 st80 = some out := hF
              replace hP : zV (dC, dI) zcl zKm ad (zmE n cI cZ ad) st80 H := hP
              unfold F_M_total_L15_s1 at hF
              cases hF
              exact zr_iret S hret hlk hS d_M_total_83 ⟨rfl, hP⟩
          · rw [if_pos h72] at hF
            refine lv_iload_n S.1 S.2.1 d_M_total_75 rfl (lv_at hl 2 rfl) ?_
            refine lv_goto (tgt := 83) S.1 S.2.1 d_M_total_76 (by decide) ?_
            cases hF
            exact zr_iret S hret hlk hS d_M_total_83 ⟨rfl, hP⟩
        · rw [if_pos h60] at hF
          refine lv_aload_n S.1 S.2.1 d_M_total_63 rfl (lv_at hl 0 rfl) ?_
          refine zr_get (v := .int (st 0 0 0)) S zi_M hK hP zkm_0 rfl rfl 10 (by decide) zx_40 rfl d_M_total_64 ?_
          refine lv_goto (tgt := 83) S.1 S.2.1 d_M_total_67 (by decide) ?_
          cases hF
          exact zr_iret S hret hlk hS d_M_total_83 ⟨rfl, hP⟩
      · rw [if_neg h46] at hF
        refine lv_aload_n S.1 S.2.1 d_M_total_49 rfl (lv_at hl 0 rfl) ?_
        refine zr_get (v := .ref (ad (15, 0))) S zi_M hK hP zkm_0 rfl rfl 16 (by decide) zx_38 rfl d_M_total_50 ?_
        refine lv_iload_n S.1 S.2.1 d_M_total_53 rfl (lv_at hl 1 rfl) ?_
        by_cases g54 : zOut v1 3
        · rw [if_pos g54] at hF; cases hF
        rw [if_neg g54] at hF
        refine zr_iald S hK hP zkm_15 rfl 0 rfl g54 d_M_total_54 ?_
        refine lv_goto (tgt := 83) S.1 S.2.1 d_M_total_55 (by decide) ?_
        cases hF
        exact zr_iret S hret hlk hS d_M_total_83 ⟨rfl, hP⟩
    · rw [if_neg h18] at hF
      refine lv_aload_n S.1 S.2.1 d_M_total_21 rfl (lv_at hl 0 rfl) ?_
      refine zr_get (v := .ref (ad (5, 0))) S zi_M hK hP zkm_0 rfl rfl 5 (by decide) zx_28 rfl d_M_total_22 ?_
      refine lv_iload_n S.1 S.2.1 d_M_total_25 rfl (lv_at hl 3 rfl) ?_
      by_cases g26 : zOut v3 36
      · rw [if_pos g26] at hF; cases hF
      rw [if_neg g26] at hF
      refine zr_zald S hK hP zkm_5 rfl 1 rfl g26 d_M_total_26 ?_
      refine lv_if_eq (tgt := 36) S.1 S.2.1 d_M_total_27 (by decide) (fun h27 => ?_) (fun h27 => ?_)
      · rw [if_pos h27] at hF
        refine lv_iload_n S.1 S.2.1 d_M_total_36 rfl (lv_at hl 2 rfl) ?_
        exact T_M_total_L37 hn hD S hret hlk hK out (F_M_total_L15 n f) ih v1 v3 v2 st _ _ _ hP hS (lv_sub hl [0, 1, 3] rfl) hF
      · rw [if_neg h27] at hF
        refine lv_iload_n S.1 S.2.1 d_M_total_30 rfl (lv_at hl 2 rfl) ?_
        refine lv_iconst (v := 1) S.1 S.2.1 d_M_total_31 (by decide) ?_
        refine lv_iadd S.1 S.2.1 d_M_total_32 ?_
        refine lv_goto (tgt := 37) S.1 S.2.1 d_M_total_33 (by decide) ?_
        exact T_M_total_L37 hn hD S hret hlk hK out (F_M_total_L15 n f) ih v1 v3 (v2 + 1) st _ _ _ hP hS (lv_sub hl [0, 1, 3] rfl) hF

set_option maxHeartbeats 4000000 in
set_option maxRecDepth 1000000 in
theorem C_M_total {dC : Nat → ClassId} {dI : Nat → Nat → Nat} {cI cZ cR cA : ClassId} {n : Nat} {ad : zK → Nat} {A : Nat → Prop} (hn : 2 ≤ n ∧ n ≤ 6) (hD : zD A zKm ad) (l : Launch) (v1 : Int32) (st : zS) (out : Int32 × zS) (hF : F_M_total n v1 st = some out) : zC zT (dC, dI) zcl (zty cI cZ cR cA) A l y_M_total b_M_total 4 (some .int) rm_M_total [.ref (ad (0, 0)), .int v1] (fun H => zV (dC, dI) zcl zKm ad (zmE n cI cZ ad) st H) (fun o H => o = some (.int out.1) ∧ zV (dC, dI) zcl zKm ad (zmE n cI cZ ad) out.2 H) := by
  refine zC_of (by decide) (Nat.le_of_ble_eq_true rfl) (fun p e s m args below meth c ls S hret hlk hK hP hl => ?_)
  have hS : va_S A s.heap s.heap [] := va_S.rf
  have hl : lv_has ls 4 [(0, .ref (ad (0, 0))), (1, .int v1)] := hl
  have hP : zV (dC, dI) zcl zKm ad (zmE n cI cZ ad) st s.heap := hP
  unfold F_M_total at hF
  refine lv_iload_n S.1 S.2.1 d_M_total_0 rfl (lv_at hl 1 rfl) ?_
  refine lv_if_lt (tgt := 9) S.1 S.2.1 d_M_total_1 (by decide) (fun h1 => ?_) (fun h1 => ?_)
  · rw [if_pos h1] at hF
    refine lv_iconst (v := (-1)) S.1 S.2.1 d_M_total_9 (by decide) ?_
    cases hF
    exact zr_iret S hret hlk hS d_M_total_10 ⟨rfl, hP⟩
  · rw [if_neg h1] at hF
    refine lv_iload_n S.1 S.2.1 d_M_total_4 rfl (lv_at hl 1 rfl) ?_
    refine lv_iconst (v := 5) S.1 S.2.1 d_M_total_5 (by decide) ?_
    refine lv_icmp_le (tgt := 11) S.1 S.2.1 d_M_total_6 (by decide) (fun h6 => ?_) (fun h6 => ?_)
    · rw [if_pos h6] at hF
      refine lv_iconst (v := 0) S.1 S.2.1 d_M_total_11 (by decide) ?_
      refine lv_istore_n S.1 S.2.1 d_M_total_12 rfl hl (by decide) rfl (fun ls hl => ?_)
      have hl : lv_has ls 4 [(2, .int 0), (0, .ref (ad (0, 0))), (1, .int v1)] := hl
      refine lv_iconst (v := 0) S.1 S.2.1 d_M_total_13 (by decide) ?_
      refine lv_istore_n S.1 S.2.1 d_M_total_14 rfl hl (by decide) rfl (fun ls hl => ?_)
      have hl : lv_has ls 4 [(3, .int 0), (2, .int 0), (0, .ref (ad (0, 0))), (1, .int v1)] := hl
      exact T_M_total_L15 hn hD S hret hlk hK out zFuel v1 0 0 st _ _ _ hP hS (lv_sub hl [2, 3, 1, 0] rfl) hF
    · rw [if_neg h6] at hF
      refine lv_iconst (v := (-1)) S.1 S.2.1 d_M_total_9 (by decide) ?_
      cases hF
      exact zr_iret S hret hlk hS d_M_total_10 ⟨rfl, hP⟩

