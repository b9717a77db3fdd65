theorem d_M_isRouter_0 : decode b_M_isRouter 0 = .ok (.iload_n 1, 1) := by decide +kernel
theorem d_M_isRouter_1 : decode b_M_isRouter 1 = .ok (.ifCond .lt 15, 3) := by decide +kernel
theorem d_M_isRouter_4 : decode b_M_isRouter 4 = .ok (.iload_n 1, 1) := by decide +kernel
theorem d_M_isRouter_5 : decode b_M_isRouter 5 = .ok (.aload_n 0, 1) := by decide +kernel
theorem d_M_isRouter_6 : decode b_M_isRouter 6 = .ok (.getfield 56, 3) := by decide +kernel
theorem d_M_isRouter_9 : decode b_M_isRouter 9 = .ok (.if_icmp .ge 7, 3) := by decide +kernel
theorem d_M_isRouter_12 : decode b_M_isRouter 12 = .ok (.iconst 1, 1) := by decide +kernel
theorem d_M_isRouter_13 : decode b_M_isRouter 13 = .ok (.goto 4, 3) := by decide +kernel
theorem d_M_isRouter_16 : decode b_M_isRouter 16 = .ok (.iconst 0, 1) := by decide +kernel
theorem d_M_isRouter_17 : decode b_M_isRouter 17 = .ok (.ireturn, 1) := by decide +kernel
def F_M_isRouter (n : Nat) (v1 : Int32) (st : zS) : Option (Int32 × zS) :=
    if v1 < 0 then (some (0, st)) else (if (nI n) ≤ v1 then (some (0, st)) else (some (1, st)))

set_option maxHeartbeats 4000000 in
set_option maxRecDepth 1000000 in
theorem C_M_isRouter {dC : Nat → ClassId} {dI : Nat → Nat → Nat} {cI cZ cR cA : ClassId} {n : Nat} {ad : zK → Nat} {A : Nat → Prop} (hn : 2 ≤ n ∧ n ≤ 6) (hD : zD A zKm ad) (l : Launch) (v1 : Int32) (st : zS) (out : Int32 × zS) (hF : F_M_isRouter n v1 st = some out) : zC zT (dC, dI) zcl (zty cI cZ cR cA) A l y_M_isRouter b_M_isRouter 2 (some .boolean) rm_M_isRouter [.ref (ad (0, 0)), .int v1] (fun H => zV (dC, dI) zcl zKm ad (zmE n cI cZ ad) st H) (fun o H => o = some (.int out.1) ∧ zV (dC, dI) zcl zKm ad (zmE n cI cZ ad) out.2 H) := by
  refine zC_of (by decide) (Nat.le_of_ble_eq_true rfl) (fun p e s m args below meth c ls S hret hlk hK hP hl => ?_)
  have hS : va_S A s.heap s.heap [] := va_S.rf
  have hl : lv_has ls 2 [(0, .ref (ad (0, 0))), (1, .int v1)] := hl
  have hP : zV (dC, dI) zcl zKm ad (zmE n cI cZ ad) st s.heap := hP
  unfold F_M_isRouter at hF
  refine lv_iload_n S.1 S.2.1 d_M_isRouter_0 rfl (lv_at hl 1 rfl) ?_
  refine lv_if_lt (tgt := 16) S.1 S.2.1 d_M_isRouter_1 (by decide) (fun h1 => ?_) (fun h1 => ?_)
  · rw [if_pos h1] at hF
    refine lv_iconst (v := 0) S.1 S.2.1 d_M_isRouter_16 (by decide) ?_
    cases hF
    exact zr_zret S hret hlk (by decide) hS d_M_isRouter_17 ⟨rfl, hP⟩
  · rw [if_neg h1] at hF
    refine lv_iload_n S.1 S.2.1 d_M_isRouter_4 rfl (lv_at hl 1 rfl) ?_
    refine lv_aload_n S.1 S.2.1 d_M_isRouter_5 rfl (lv_at hl 0 rfl) ?_
    refine zr_get (v := .int (nI n)) S zi_M hK hP zkm_0 rfl rfl 0 (by decide) zx_39 rfl d_M_isRouter_6 ?_
    refine lv_icmp_ge (tgt := 16) S.1 S.2.1 d_M_isRouter_9 (by decide) (fun h9 => ?_) (fun h9 => ?_)
    · rw [if_pos h9] at hF
      refine lv_iconst (v := 0) S.1 S.2.1 d_M_isRouter_16 (by decide) ?_
      cases hF
      exact zr_zret S hret hlk (by decide) hS d_M_isRouter_17 ⟨rfl, hP⟩
    · rw [if_neg h9] at hF
      refine lv_iconst (v := 1) S.1 S.2.1 d_M_isRouter_12 (by decide) ?_
      refine lv_goto (tgt := 17) S.1 S.2.1 d_M_isRouter_13 (by decide) ?_
      cases hF
      exact zr_zret S hret hlk (by decide) hS d_M_isRouter_17 ⟨rfl, hP⟩

theorem d_M_isLink_0 : decode b_M_isLink 0 = .ok (.aload_n 0, 1) := by decide +kernel
theorem d_M_isLink_1 : decode b_M_isLink 1 = .ok (.iload_n 1, 1) := by decide +kernel
theorem d_M_isLink_2 : decode b_M_isLink 2 = .ok (.invokevirtual 60, 3) := by decide +kernel
theorem d_M_isLink_5 : decode b_M_isLink 5 = .ok (.ifCond .eq 29, 3) := by decide +kernel
theorem d_M_isLink_8 : decode b_M_isLink 8 = .ok (.aload_n 0, 1) := by decide +kernel
theorem d_M_isLink_9 : decode b_M_isLink 9 = .ok (.iload_n 2, 1) := by decide +kernel
theorem d_M_isLink_10 : decode b_M_isLink 10 = .ok (.invokevirtual 60, 3) := by decide +kernel
theorem d_M_isLink_13 : decode b_M_isLink 13 = .ok (.ifCond .eq 21, 3) := by decide +kernel
theorem d_M_isLink_16 : decode b_M_isLink 16 = .ok (.aload_n 0, 1) := by decide +kernel
theorem d_M_isLink_17 : decode b_M_isLink 17 = .ok (.getfield 7, 3) := by decide +kernel
theorem d_M_isLink_20 : decode b_M_isLink 20 = .ok (.bipush 6, 2) := by decide +kernel
theorem d_M_isLink_22 : decode b_M_isLink 22 = .ok (.iload_n 1, 1) := by decide +kernel
theorem d_M_isLink_23 : decode b_M_isLink 23 = .ok (.imul, 1) := by decide +kernel
theorem d_M_isLink_24 : decode b_M_isLink 24 = .ok (.iload_n 2, 1) := by decide +kernel
theorem d_M_isLink_25 : decode b_M_isLink 25 = .ok (.iadd, 1) := by decide +kernel
theorem d_M_isLink_26 : decode b_M_isLink 26 = .ok (.iaload, 1) := by decide +kernel
theorem d_M_isLink_27 : decode b_M_isLink 27 = .ok (.ifCond .le 7, 3) := by decide +kernel
theorem d_M_isLink_30 : decode b_M_isLink 30 = .ok (.iconst 1, 1) := by decide +kernel
theorem d_M_isLink_31 : decode b_M_isLink 31 = .ok (.goto 4, 3) := by decide +kernel
theorem d_M_isLink_34 : decode b_M_isLink 34 = .ok (.iconst 0, 1) := by decide +kernel
theorem d_M_isLink_35 : decode b_M_isLink 35 = .ok (.ireturn, 1) := by decide +kernel
def F_M_isLink_s2 (n : Nat) (v1 : Int32) (v2 : Int32) (t0 : Int32) (st : zS) : Option (Int32 × zS) :=
    if t0 = 0 then (some (0, st)) else (if zOut ((6 * v1) + v2) 36 then none else if (st 1 0 (Int32.toNatClampNeg ((6 * v1) + v2))) ≤ 0 then (some (0, st)) else (some (1, st)))

def F_M_isLink_s1 (n : Nat) (v1 : Int32) (v2 : Int32) (t0 : Int32) (st : zS) : Option (Int32 × zS) :=
    if t0 = 0 then (some (0, st)) else ((F_M_isRouter n v2 st).bind (fun u => F_M_isLink_s2 n v1 v2 u.1 u.2))

def F_M_isLink (n : Nat) (v1 : Int32) (v2 : Int32) (st : zS) : Option (Int32 × zS) :=
    (F_M_isRouter n v1 st).bind (fun u => F_M_isLink_s1 n v1 v2 u.1 u.2)

set_option maxHeartbeats 4000000 in
set_option maxRecDepth 1000000 in
theorem C_M_isLink {dC : Nat → ClassId} {dI : Nat → Nat → Nat} {cI cZ cR cA : ClassId} {n : Nat} {ad : zK → Nat} {A : Nat → Prop} (hn : 2 ≤ n ∧ n ≤ 6) (hD : zD A zKm ad) (l : Launch) (v1 : Int32) (v2 : Int32) (st : zS) (out : Int32 × zS) (hF : F_M_isLink n v1 v2 st = some out) : zC zT (dC, dI) zcl (zty cI cZ cR cA) A l y_M_isLink b_M_isLink 3 (some .boolean) rm_M_isLink [.ref (ad (0, 0)), .int v1, .int v2] (fun H => zV (dC, dI) zcl zKm ad (zmE n cI cZ ad) st H) (fun o H => o = some (.int out.1) ∧ zV (dC, dI) zcl zKm ad (zmE n cI cZ ad) out.2 H) := by
  refine zC_of (by decide) (Nat.le_of_ble_eq_true rfl) (fun p e s m args below meth c ls S hret hlk hK hP hl => ?_)
  have hS : va_S A s.heap s.heap [] := va_S.rf
  have hl : lv_has ls 3 [(0, .ref (ad (0, 0))), (1, .int v1), (2, .int v2)] := hl
  have hP : zV (dC, dI) zcl zKm ad (zmE n cI cZ ad) st s.heap := hP
  unfold F_M_isLink at hF
  refine lv_aload_n S.1 S.2.1 d_M_isLink_0 rfl (lv_at hl 0 rfl) ?_
  refine lv_iload_n S.1 S.2.1 d_M_isLink_1 rfl (lv_at hl 1 rfl) ?_
  cases hc2 : F_M_isRouter n v1 st with
  | none => rw [hc2] at hF; cases hF
  | some u2 =>
    obtain ⟨r2, st2⟩ := u2
    rw [hc2] at hF
    replace hF := zbind hF
    refine zr_callV (rest := []) S zT_good (C_M_isRouter hn hD l v1 st (r2, st2) hc2) zn_M_isRouter zx_106 ⟨rfl, rfl⟩ ⟨Nat.le_of_ble_eq_true rfl, Nat.le_of_ble_eq_true rfl⟩ ⟨Nat.zero_le _, Nat.zero_le _⟩ hK (zr_recv hK hP zkm_0 rfl rfl) hP hl.1 (Nat.le_of_ble_eq_true rfl) hS (fun _ h => h) d_M_isLink_2 rfl (fun o H locs hpo _ _ hS => ?_)
    obtain ⟨rfl, hP⟩ := hpo
    refine W.eq (g2 := F0 m 5 ls [.int r2]) rfl ?_
    replace hF : F_M_isLink_s1 n v1 v2 r2 st2 = some out := hF
    replace hP : zV (dC, dI) zcl zKm ad (zmE n cI cZ ad) st2 H := hP
    unfold F_M_isLink_s1 at hF
    refine lv_if_eq (tgt := 34) S.1 S.2.1 d_M_isLink_5 (by decide) (fun h5 => ?_) (fun h5 => ?_)
    · rw [if_pos h5] at hF
      refine lv_iconst (v := 0) S.1 S.2.1 d_M_isLink_34 (by decide) ?_
      cases hF
      exact zr_zret S hret hlk (by decide) hS d_M_isLink_35 ⟨rfl, hP⟩
    · rw [if_neg h5] at hF
      refine lv_aload_n S.1 S.2.1 d_M_isLink_8 rfl (lv_at hl 0 rfl) ?_
      refine lv_iload_n S.1 S.2.1 d_M_isLink_9 rfl (lv_at hl 2 rfl) ?_
      cases hc10 : F_M_isRouter n v2 st2 with
      | none => rw [hc10] at hF; cases hF
      | some u10 =>
        obtain ⟨r10, st10⟩ := u10
        rw [hc10] at hF
        replace hF := zbind hF
        refine zr_callV (rest := []) S zT_good (C_M_isRouter hn hD l v2 st2 (r10, st10) hc10) zn_M_isRouter zx_106 ⟨rfl, rfl⟩ ⟨Nat.le_of_ble_eq_true rfl, Nat.le_of_ble_eq_true rfl⟩ ⟨Nat.zero_le _, Nat.zero_le _⟩ hK (zr_recv hK hP zkm_0 rfl rfl) hP hl.1 (Nat.le_of_ble_eq_true rfl) hS (fun _ h => h) d_M_isLink_10 rfl (fun o H locs hpo _ _ hS => ?_)
        obtain ⟨rfl, hP⟩ := hpo
        refine W.eq (g2 := F0 m 13 ls [.int r10]) rfl ?_
        replace hF : F_M_isLink_s2 n v1 v2 r10 st10 = some out := hF
        replace hP : zV (dC, dI) zcl zKm ad (zmE n cI cZ ad) st10 H := hP
        unfold F_M_isLink_s2 at hF
        refine lv_if_eq (tgt := 34) S.1 S.2.1 d_M_isLink_13 (by decide) (fun h13 => ?_) (fun h13 => ?_)
        · rw [if_pos h13] at hF
          refine lv_iconst (v := 0) S.1 S.2.1 d_M_isLink_34 (by decide) ?_
          cases hF
          exact zr_zret S hret hlk (by decide) hS d_M_isLink_35 ⟨rfl, hP⟩
        · rw [if_neg h13] at hF
          refine lv_aload_n S.1 S.2.1 d_M_isLink_16 rfl (lv_at hl 0 rfl) ?_
          refine zr_get (v := .ref (ad (1, 0))) S zi_M hK hP zkm_0 rfl rfl 1 (by decide) zx_41 rfl d_M_isLink_17 ?_
          refine lv_bipush (v := 6) S.1 S.2.1 d_M_isLink_20 (by decide) ?_
          refine lv_iload_n S.1 S.2.1 d_M_isLink_22 rfl (lv_at hl 1 rfl) ?_
          refine lv_imul S.1 S.2.1 d_M_isLink_23 ?_
          refine lv_iload_n S.1 S.2.1 d_M_isLink_24 rfl (lv_at hl 2 rfl) ?_
          refine lv_iadd S.1 S.2.1 d_M_isLink_25 ?_
          by_cases g26 : zOut ((6 * v1) + v2) 36
          · rw [if_pos g26] at hF; cases hF
          rw [if_neg g26] at hF
          refine zr_iald S hK hP zkm_1 rfl 0 rfl g26 d_M_isLink_26 ?_
          refine lv_if_le (tgt := 34) S.1 S.2.1 d_M_isLink_27 (by decide) (fun h27 => ?_) (fun h27 => ?_)
          · rw [if_pos h27] at hF
            refine lv_iconst (v := 0) S.1 S.2.1 d_M_isLink_34 (by decide) ?_
            cases hF
            exact zr_zret S hret hlk (by decide) hS d_M_isLink_35 ⟨rfl, hP⟩
          · rw [if_neg h27] at hF
            refine lv_iconst (v := 1) S.1 S.2.1 d_M_isLink_30 (by decide) ?_
            refine lv_goto (tgt := 35) S.1 S.2.1 d_M_isLink_31 (by decide) ?_
            cases hF
            exact zr_zret S hret hlk (by decide) hS d_M_isLink_35 ⟨rfl, hP⟩

theorem d_M_send_0 : decode b_M_send 0 = .ok (.aload_n 0, 1) := by decide +kernel
theorem d_M_send_1 : decode b_M_send 1 = .ok (.getfield 38, 3) := by decide +kernel
theorem d_M_send_4 : decode b_M_send 4 = .ok (.aload_n 0, 1) := by decide +kernel
theorem d_M_send_5 : decode b_M_send 5 = .ok (.getfield 64, 3) := by decide +kernel
theorem d_M_send_8 : decode b_M_send 8 = .ok (.iload_n 1, 1) := by decide +kernel
theorem d_M_send_9 : decode b_M_send 9 = .ok (.iastore, 1) := by decide +kernel
theorem d_M_send_10 : decode b_M_send 10 = .ok (.aload_n 0, 1) := by decide +kernel
theorem d_M_send_11 : decode b_M_send 11 = .ok (.getfield 41, 3) := by decide +kernel
theorem d_M_send_14 : decode b_M_send 14 = .ok (.aload_n 0, 1) := by decide +kernel
theorem d_M_send_15 : decode b_M_send 15 = .ok (.getfield 64, 3) := by decide +kernel
theorem d_M_send_18 : decode b_M_send 18 = .ok (.iload_n 2, 1) := by decide +kernel
theorem d_M_send_19 : decode b_M_send 19 = .ok (.iastore, 1) := by decide +kernel
theorem d_M_send_20 : decode b_M_send 20 = .ok (.aload_n 0, 1) := by decide +kernel
theorem d_M_send_21 : decode b_M_send 21 = .ok (.getfield 44, 3) := by decide +kernel
theorem d_M_send_24 : decode b_M_send 24 = .ok (.aload_n 0, 1) := by decide +kernel
theorem d_M_send_25 : decode b_M_send 25 = .ok (.getfield 64, 3) := by decide +kernel
theorem d_M_send_28 : decode b_M_send 28 = .ok (.iload_n 3, 1) := by decide +kernel
theorem d_M_send_29 : decode b_M_send 29 = .ok (.iastore, 1) := by decide +kernel
theorem d_M_send_30 : decode b_M_send 30 = .ok (.aload_n 0, 1) := by decide +kernel
theorem d_M_send_31 : decode b_M_send 31 = .ok (.getfield 47, 3) := by decide +kernel
theorem d_M_send_34 : decode b_M_send 34 = .ok (.aload_n 0, 1) := by decide +kernel
theorem d_M_send_35 : decode b_M_send 35 = .ok (.getfield 64, 3) := by decide +kernel
theorem d_M_send_38 : decode b_M_send 38 = .ok (.iload 4, 2) := by decide +kernel
theorem d_M_send_40 : decode b_M_send 40 = .ok (.iastore, 1) := by decide +kernel
theorem d_M_send_41 : decode b_M_send 41 = .ok (.aload_n 0, 1) := by decide +kernel
theorem d_M_send_42 : decode b_M_send 42 = .ok (.getfield 50, 3) := by decide +kernel
theorem d_M_send_45 : decode b_M_send 45 = .ok (.aload_n 0, 1) := by decide +kernel
theorem d_M_send_46 : decode b_M_send 46 = .ok (.getfield 64, 3) := by decide +kernel
theorem d_M_send_49 : decode b_M_send 49 = .ok (.aload_n 0, 1) := by decide +kernel
theorem d_M_send_50 : decode b_M_send 50 = .ok (.getfield 13, 3) := by decide +kernel
theorem d_M_send_53 : decode b_M_send 53 = .ok (.bipush 6, 2) := by decide +kernel
theorem d_M_send_55 : decode b_M_send 55 = .ok (.iload_n 1, 1) := by decide +kernel
theorem d_M_send_56 : decode b_M_send 56 = .ok (.imul, 1) := by decide +kernel
theorem d_M_send_57 : decode b_M_send 57 = .ok (.iload 4, 2) := by decide +kernel
theorem d_M_send_59 : decode b_M_send 59 = .ok (.iadd, 1) := by decide +kernel
theorem d_M_send_60 : decode b_M_send 60 = .ok (.iaload, 1) := by decide +kernel
theorem d_M_send_61 : decode b_M_send 61 = .ok (.iastore, 1) := by decide +kernel
theorem d_M_send_62 : decode b_M_send 62 = .ok (.aload_n 0, 1) := by decide +kernel
theorem d_M_send_63 : decode b_M_send 63 = .ok (.dup, 1) := by decide +kernel
theorem d_M_send_64 : decode b_M_send 64 = .ok (.getfield 64, 3) := by decide +kernel
theorem d_M_send_67 : decode b_M_send 67 = .ok (.iconst 1, 1) := by decide +kernel
theorem d_M_send_68 : decode b_M_send 68 = .ok (.iadd, 1) := by decide +kernel
theorem d_M_send_69 : decode b_M_send 69 = .ok (.putfield 64, 3) := by decide +kernel
theorem d_M_send_72 : decode b_M_send 72 = .ok (.aload_n 0, 1) := by decide +kernel
theorem d_M_send_73 : decode b_M_send 73 = .ok (.getfield 53, 3) := by decide +kernel
theorem d_M_send_76 : decode b_M_send 76 = .ok (.iload_n 3, 1) := by decide +kernel
theorem d_M_send_77 : decode b_M_send 77 = .ok (.dup2, 1) := by decide +kernel
theorem d_M_send_78 : decode b_M_send 78 = .ok (.iaload, 1) := by decide +kernel
theorem d_M_send_79 : decode b_M_send 79 = .ok (.iconst 1, 1) := by decide +kernel
theorem d_M_send_80 : decode b_M_send 80 = .ok (.iadd, 1) := by decide +kernel
theorem d_M_send_81 : decode b_M_send 81 = .ok (.iastore, 1) := by decide +kernel
theorem d_M_send_82 : decode b_M_send 82 = .ok (.return_, 1) := by decide +kernel
def F_M_send_s7 (n : Nat) (st : zS) : Option (Int32 × zS) :=
    some (0, st)

def F_M_send_s6 (n : Nat) (v3 : Int32) (st : zS) : Option (Int32 × zS) :=
    if zOut v3 3 then none else if zOut v3 3 then none else F_M_send_s7 n (zs st 15 0 (Int32.toNatClampNeg v3) ((st 15 0 (Int32.toNatClampNeg v3)) + 1))

def F_M_send_s5 (n : Nat) (v3 : Int32) (st : zS) : Option (Int32 × zS) :=
    F_M_send_s6 n v3 (zs st 0 0 0 ((st 0 0 0) + 1))

def F_M_send_s4 (n : Nat) (v1 : Int32) (v3 : Int32) (v4 : Int32) (st : zS) : Option (Int32 × zS) :=
    if zOut ((6 * v1) + v4) 36 then none else if zOut (st 0 0 0) 1024 then none else F_M_send_s5 n v3 (zs st 14 0 (Int32.toNatClampNeg (st 0 0 0)) (st 2 0 (Int32.toNatClampNeg ((6 * v1) + v4))))

def F_M_send_s3 (n : Nat) (v1 : Int32) (v3 : Int32) (v4 : Int32) (st : zS) : Option (Int32 × zS) :=
    if zOut (st 0 0 0) 1024 then none else F_M_send_s4 n v1 v3 v4 (zs st 13 0 (Int32.toNatClampNeg (st 0 0 0)) v4)

def F_M_send_s2 (n : Nat) (v1 : Int32) (v3 : Int32) (v4 : Int32) (st : zS) : Option (Int32 × zS) :=
    if zOut (st 0 0 0) 1024 then none else F_M_send_s3 n v1 v3 v4 (zs st 12 0 (Int32.toNatClampNeg (st 0 0 0)) v3)

def F_M_send_s1 (n : Nat) (v1 : Int32) (v2 : Int32) (v3 : Int32) (v4 : Int32) (st : zS) : Option (Int32 × zS) :=
    if zOut (st 0 0 0) 1024 then none else F_M_send_s2 n v1 v3 v4 (zs st 11 0 (Int32.toNatClampNeg (st 0 0 0)) v2)

def F_M_send (n : Nat) (v1 : Int32) (v2 : Int32) (v3 : Int32) (v4 : Int32) (st : zS) : Option (Int32 × zS) :=
    if zOut (st 0 0 0) 1024 then none else F_M_send_s1 n v1 v2 v3 v4 (zs st 10 0 (Int32.toNatClampNeg (st 0 0 0)) v1)

set_option maxHeartbeats 4000000 in
set_option maxRecDepth 1000000 in
theorem C_M_send {dC : Nat → ClassId} {dI : Nat → Nat → Nat} {cI cZ cR cA : ClassId} {n : Nat} {ad : zK → Nat} {A : Nat → Prop} (hn : 2 ≤ n ∧ n ≤ 6) (hD : zD A zKm ad) (l : Launch) (v1 : Int32) (v2 : Int32) (v3 : Int32) (v4 : Int32) (st : zS) (out : Int32 × zS) (hF : F_M_send n v1 v2 v3 v4 st = some out) : zC zT (dC, dI) zcl (zty cI cZ cR cA) A l y_M_send b_M_send 5 (none) rm_M_send [.ref (ad (0, 0)), .int v1, .int v2, .int v3, .int v4] (fun H => zV (dC, dI) zcl zKm ad (zmE n cI cZ ad) st H) (fun o H => o = none ∧ zV (dC, dI) zcl zKm ad (zmE n cI cZ ad) out.2 H) := by
  refine zC_of (by decide) (Nat.le_of_ble_eq_true rfl) (fun p e s m args below meth c ls S hret hlk hK hP hl => ?_)
  have hS : va_S A s.heap s.heap [] := va_S.rf
  have hl : lv_has ls 5 [(0, .ref (ad (0, 0))), (1, .int v1), (2, .int v2), (3, .int v3), (4, .int v4)] := hl
  have hP : zV (dC, dI) zcl zKm ad (zmE n cI cZ ad) st s.heap := hP
  unfold F_M_send at hF
  refine lv_aload_n S.1 S.2.1 d_M_send_0 rfl (lv_at hl 0 rfl) ?_
  refine zr_get (v := .ref (ad (10, 0))) S zi_M hK hP zkm_0 rfl rfl 11 (by decide) zx_33 rfl d_M_send_1 ?_
  refine lv_aload_n S.1 S.2.1 d_M_send_4 rfl (lv_at hl 0 rfl) ?_
  refine zr_get (v := .int (st 0 0 0)) S zi_M hK hP zkm_0 rfl rfl 10 (by decide) zx_40 rfl d_M_send_5 ?_
  refine lv_iload_n S.1 S.2.1 d_M_send_8 rfl (lv_at hl 1 rfl) ?_
  by_cases g9 : zOut (st 0 0 0) 1024
  · rw [if_pos g9] at hF; cases hF
  rw [if_neg g9] at hF
  refine zr_iast S hK hP hD hS zkm_10 (fun _ => rfl) 0 rfl g9 d_M_send_9 (fun H locs hP hS => ?_)
  replace hF : F_M_send_s1 n v1 v2 v3 v4 (zs st 10 0 (Int32.toNatClampNeg (st 0 0 0)) v1) = some out := hF
  generalize zs st 10 0 (Int32.toNatClampNeg (st 0 0 0)) v1 = st10 at hP hF
  unfold F_M_send_s1 at hF
  refine lv_aload_n S.1 S.2.1 d_M_send_10 rfl (lv_at hl 0 rfl) ?_
  refine zr_get (v := .ref (ad (11, 0))) S zi_M hK hP zkm_0 rfl rfl 12 (by decide) zx_34 rfl d_M_send_11 ?_
  refine lv_aload_n S.1 S.2.1 d_M_send_14 rfl (lv_at hl 0 rfl) ?_
  refine zr_get (v := .int (st10 0 0 0)) S zi_M hK hP zkm_0 rfl rfl 10 (by decide) zx_40 rfl d_M_send_15 ?_
  refine lv_iload_n S.1 S.2.1 d_M_send_18 rfl (lv_at hl 2 rfl) ?_
  by_cases g19 : zOut (st10 0 0 0) 1024
  · rw [if_pos g19] at hF; cases hF
  rw [if_neg g19] at hF
  refine zr_iast S hK hP hD hS zkm_11 (fun _ => rfl) 0 rfl g19 d_M_send_19 (fun H locs hP hS => ?_)
  replace hF : F_M_send_s2 n v1 v3 v4 (zs st10 11 0 (Int32.toNatClampNeg (st10 0 0 0)) v2) = some out := hF
  generalize zs st10 11 0 (Int32.toNatClampNeg (st10 0 0 0)) v2 = st20 at hP hF
  unfold F_M_send_s2 at hF
  refine lv_aload_n S.1 S.2.1 d_M_send_20 rfl (lv_at hl 0 rfl) ?_
  refine zr_get (v := .ref (ad (12, 0))) S zi_M hK hP zkm_0 rfl rfl 13 (by decide) zx_35 rfl d_M_send_21 ?_
  refine lv_aload_n S.1 S.2.1 d_M_send_24 rfl (lv_at hl 0 rfl) ?_
  refine zr_get (v := .int (st20 0 0 0)) S zi_M hK hP zkm_0 rfl rfl 10 (by decide) zx_40 rfl d_M_send_25 ?_
  refine lv_iload_n S.1 S.2.1 d_M_send_28 rfl (lv_at hl 3 rfl) ?_
  by_cases g29 : zOut (st20 0 0 0) 1024
  · rw [if_pos g29] at hF; cases hF
  rw [if_neg g29] at hF
  refine zr_iast S hK hP hD hS zkm_12 (fun _ => rfl) 0 rfl g29 d_M_send_29 (fun H locs hP hS => ?_)
  replace hF : F_M_send_s3 n v1 v3 v4 (zs st20 12 0 (Int32.toNatClampNeg (st20 0 0 0)) v3) = some out := hF
  generalize zs st20 12 0 (Int32.toNatClampNeg (st20 0 0 0)) v3 = st30 at hP hF
  unfold F_M_send_s3 at hF
  refine lv_aload_n S.1 S.2.1 d_M_send_30 rfl (lv_at hl 0 rfl) ?_
  refine zr_get (v := .ref (ad (13, 0))) S zi_M hK hP zkm_0 rfl rfl 14 (by decide) zx_36 rfl d_M_send_31 ?_
  refine lv_aload_n S.1 S.2.1 d_M_send_34 rfl (lv_at hl 0 rfl) ?_
  refine zr_get (v := .int (st30 0 0 0)) S zi_M hK hP zkm_0 rfl rfl 10 (by decide) zx_40 rfl d_M_send_35 ?_
  refine lv_iload S.1 S.2.1 d_M_send_38 (lv_at hl 4 rfl) ?_
  by_cases g40 : zOut (st30 0 0 0) 1024
  · rw [if_pos g40] at hF; cases hF
  rw [if_neg g40] at hF
  refine zr_iast S hK hP hD hS zkm_13 (fun _ => rfl) 0 rfl g40 d_M_send_40 (fun H locs hP hS => ?_)
  replace hF : F_M_send_s4 n v1 v3 v4 (zs st30 13 0 (Int32.toNatClampNeg (st30 0 0 0)) v4) = some out := hF
  generalize zs st30 13 0 (Int32.toNatClampNeg (st30 0 0 0)) v4 = st41 at hP hF
  unfold F_M_send_s4 at hF
  refine lv_aload_n S.1 S.2.1 d_M_send_41 rfl (lv_at hl 0 rfl) ?_
  refine zr_get (v := .ref (ad (14, 0))) S zi_M hK hP zkm_0 rfl rfl 15 (by decide) zx_37 rfl d_M_send_42 ?_
  refine lv_aload_n S.1 S.2.1 d_M_send_45 rfl (lv_at hl 0 rfl) ?_
  refine zr_get (v := .int (st41 0 0 0)) S zi_M hK hP zkm_0 rfl rfl 10 (by decide) zx_40 rfl d_M_send_46 ?_
  refine lv_aload_n S.1 S.2.1 d_M_send_49 rfl (lv_at hl 0 rfl) ?_
  refine zr_get (v := .ref (ad (2, 0))) S zi_M hK hP zkm_0 rfl rfl 2 (by decide) zx_25 rfl d_M_send_50 ?_
  refine lv_bipush (v := 6) S.1 S.2.1 d_M_send_53 (by decide) ?_
  refine lv_iload_n S.1 S.2.1 d_M_send_55 rfl (lv_at hl 1 rfl) ?_
  refine lv_imul S.1 S.2.1 d_M_send_56 ?_
  refine lv_iload S.1 S.2.1 d_M_send_57 (lv_at hl 4 rfl) ?_
  refine lv_iadd S.1 S.2.1 d_M_send_59 ?_
  by_cases g60 : zOut ((6 * v1) + v4) 36
  · rw [if_pos g60] at hF; cases hF
  rw [if_neg g60] at hF
  refine zr_iald S hK hP zkm_2 rfl 0 rfl g60 d_M_send_60 ?_
  by_cases g61 : zOut (st41 0 0 0) 1024
  · rw [if_pos g61] at hF; cases hF
  rw [if_neg g61] at hF
  refine zr_iast S hK hP hD hS zkm_14 (fun _ => rfl) 0 rfl g61 d_M_send_61 (fun H locs hP hS => ?_)
  replace hF : F_M_send_s5 n v3 (zs st41 14 0 (Int32.toNatClampNeg (st41 0 0 0)) (st41 2 0 (Int32.toNatClampNeg ((6 * v1) + v4)))) = some out := hF
  generalize zs st41 14 0 (Int32.toNatClampNeg (st41 0 0 0)) (st41 2 0 (Int32.toNatClampNeg ((6 * v1) + v4))) = st62 at hP hF
  unfold F_M_send_s5 at hF
  refine lv_aload_n S.1 S.2.1 d_M_send_62 rfl (lv_at hl 0 rfl) ?_
  refine lv_dup S.1 S.2.1 d_M_send_63 rfl ?_
  refine zr_get (v := .int (st62 0 0 0)) S zi_M hK hP zkm_0 rfl rfl 10 (by decide) zx_40 rfl d_M_send_64 ?_
  refine lv_iconst (v := 1) S.1 S.2.1 d_M_send_67 (by decide) ?_
  refine lv_iadd S.1 S.2.1 d_M_send_68 ?_
  refine zr_put (v := (st62 0 0 0) + 1) S zi_M t_M t_M_ok n_M hK hP hD hS zkm_0 rfl rfl 10 (by decide) zx_40 rfl rfl rfl (Nat.le_of_ble_eq_true rfl) 0 rfl d_M_send_69 (fun H locs hP hS => ?_)
  replace hF : F_M_send_s6 n v3 (zs st62 0 0 0 ((st62 0 0 0) + 1)) = some out := hF
  generalize zs st62 0 0 0 ((st62 0 0 0) + 1) = st72 at hP hF
  unfold F_M_send_s6 at hF
  refine lv_aload_n S.1 S.2.1 d_M_send_72 rfl (lv_at hl 0 rfl) ?_
  refine zr_get (v := .ref (ad (15, 0))) S zi_M hK hP zkm_0 rfl rfl 16 (by decide) zx_38 rfl d_M_send_73 ?_
  refine lv_iload_n S.1 S.2.1 d_M_send_76 rfl (lv_at hl 3 rfl) ?_
  refine lv_dup2_11 S.1 S.2.1 d_M_send_77 rfl rfl ?_
  by_cases g78 : zOut v3 3
  · rw [if_pos g78] at hF; cases hF
  rw [if_neg g78] at hF
  refine zr_iald S hK hP zkm_15 rfl 0 rfl g78 d_M_send_78 ?_
  refine lv_iconst (v := 1) S.1 S.2.1 d_M_send_79 (by decide) ?_
  refine lv_iadd S.1 S.2.1 d_M_send_80 ?_
  by_cases g81 : zOut v3 3
  · rw [if_pos g81] at hF; cases hF
  rw [if_neg g81] at hF
  refine zr_iast S hK hP hD hS zkm_15 (fun _ => rfl) 0 rfl g81 d_M_send_81 (fun H locs hP hS => ?_)
  replace hF : F_M_send_s7 n (zs st72 15 0 (Int32.toNatClampNeg v3) ((st72 15 0 (Int32.toNatClampNeg v3)) + 1)) = some out := hF
  generalize zs st72 15 0 (Int32.toNatClampNeg v3) ((st72 15 0 (Int32.toNatClampNeg v3)) + 1) = st82 at hP hF
  unfold F_M_send_s7 at hF
  cases hF
  exact zr_vret S hret hlk hS d_M_send_82 ⟨rfl, hP⟩

theorem d_M_tellAll_0 : decode b_M_tellAll 0 = .ok (.iconst 0, 1) := by decide +kernel
theorem d_M_tellAll_1 : decode b_M_tellAll 1 = .ok (.istore 5, 2) := by decide +kernel
theorem d_M_tellAll_3 : decode b_M_tellAll 3 = .ok (.iconst 0, 1) := by decide +kernel
theorem d_M_tellAll_4 : decode b_M_tellAll 4 = .ok (.istore 6, 2) := by decide +kernel
theorem d_M_tellAll_6 : decode b_M_tellAll 6 = .ok (.iload 6, 2) := by decide +kernel
theorem d_M_tellAll_8 : decode b_M_tellAll 8 = .ok (.aload_n 0, 1) := by decide +kernel
theorem d_M_tellAll_9 : decode b_M_tellAll 9 = .ok (.getfield 56, 3) := by decide +kernel
theorem d_M_tellAll_12 : decode b_M_tellAll 12 = .ok (.if_icmp .ge 43, 3) := by decide +kernel
theorem d_M_tellAll_15 : decode b_M_tellAll 15 = .ok (.aload_n 0, 1) := by decide +kernel
theorem d_M_tellAll_16 : decode b_M_tellAll 16 = .ok (.getfield 7, 3) := by decide +kernel
theorem d_M_tellAll_19 : decode b_M_tellAll 19 = .ok (.bipush 6, 2) := by decide +kernel
theorem d_M_tellAll_21 : decode b_M_tellAll 21 = .ok (.iload_n 1, 1) := by decide +kernel
theorem d_M_tellAll_22 : decode b_M_tellAll 22 = .ok (.imul, 1) := by decide +kernel
theorem d_M_tellAll_23 : decode b_M_tellAll 23 = .ok (.iload 6, 2) := by decide +kernel
theorem d_M_tellAll_25 : decode b_M_tellAll 25 = .ok (.iadd, 1) := by decide +kernel
theorem d_M_tellAll_26 : decode b_M_tellAll 26 = .ok (.iaload, 1) := by decide +kernel
theorem d_M_tellAll_27 : decode b_M_tellAll 27 = .ok (.ifCond .le 22, 3) := by decide +kernel
theorem d_M_tellAll_30 : decode b_M_tellAll 30 = .ok (.iload 6, 2) := by decide +kernel
theorem d_M_tellAll_32 : decode b_M_tellAll 32 = .ok (.iload 4, 2) := by decide +kernel
theorem d_M_tellAll_34 : decode b_M_tellAll 34 = .ok (.if_icmp .eq 15, 3) := by decide +kernel
theorem d_M_tellAll_37 : decode b_M_tellAll 37 = .ok (.aload_n 0, 1) := by decide +kernel
theorem d_M_tellAll_38 : decode b_M_tellAll 38 = .ok (.iload_n 1, 1) := by decide +kernel
theorem d_M_tellAll_39 : decode b_M_tellAll 39 = .ok (.iload 6, 2) := by decide +kernel
theorem d_M_tellAll_41 : decode b_M_tellAll 41 = .ok (.iload_n 3, 1) := by decide +kernel
theorem d_M_tellAll_42 : decode b_M_tellAll 42 = .ok (.iload_n 2, 1) := by decide +kernel
theorem d_M_tellAll_43 : decode b_M_tellAll 43 = .ok (.invokevirtual 67, 3) := by decide +kernel
theorem d_M_tellAll_46 : decode b_M_tellAll 46 = .ok (.iinc 5 1, 3) := by decide +kernel
theorem d_M_tellAll_49 : decode b_M_tellAll 49 = .ok (.iinc 6 1, 3) := by decide +kernel
theorem d_M_tellAll_52 : decode b_M_tellAll 52 = .ok (.goto (-46), 3) := by decide +kernel
theorem d_M_tellAll_55 : decode b_M_tellAll 55 = .ok (.iload 5, 2) := by decide +kernel
theorem d_M_tellAll_57 : decode b_M_tellAll 57 = .ok (.ireturn, 1) := by decide +kernel
def F_M_tellAll_L49 (n : Nat) (c6 : Int32 → Int32 → Int32 → Int32 → Int32 → Int32 → zS → Option (Int32 × zS)) (v1 : Int32) (v2 : Int32) (v3 : Int32) (v4 : Int32) (v5 : Int32) (v6 : Int32) (st : zS) : Option (Int32 × zS) :=
    c6 v1 v2 v3 v4 v5 (v6 + 1) st

def F_M_tellAll_L6_s1 (n : Nat) (c6 : Int32 → Int32 → Int32 → Int32 → Int32 → Int32 → zS → Option (Int32 × zS)) (v1 : Int32) (v2 : Int32) (v3 : Int32) (v4 : Int32) (v5 : Int32) (v6 : Int32) (st : zS) : Option (Int32 × zS) :=
    F_M_tellAll_L49 n c6 v1 v2 v3 v4 (v5 + 1) v6 st

def F_M_tellAll_L6 (n : Nat) : Nat → Int32 → Int32 → Int32 → Int32 → Int32 → Int32 → zS → Option (Int32 × zS)
  | 0, _, _, _, _, _, _, _ => none
  | f + 1, v1, v2, v3, v4, v5, v6, st =>
    if (nI n) ≤ v6 then (some (v5, st)) else (if zOut ((6 * v1) + v6) 36 then none else if (st 1 0 (Int32.toNatClampNeg ((6 * v1) + v6))) ≤ 0 then (F_M_tellAll_L49 n (F_M_tellAll_L6 n f) v1 v2 v3 v4 v5 v6 st) else (if v6 = v4 then (F_M_tellAll_L49 n (F_M_tellAll_L6 n f) v1 v2 v3 v4 v5 v6 st) else ((F_M_send n v1 v6 v3 v2 st).bind (fun u => F_M_tellAll_L6_s1 n (F_M_tellAll_L6 n f) v1 v2 v3 v4 v5 v6 u.2))))

def F_M_tellAll (n : Nat) (v1 : Int32) (v2 : Int32) (v3 : Int32) (v4 : Int32) (st : zS) : Option (Int32 × zS) :=
    F_M_tellAll_L6 n zFuel v1 v2 v3 v4 0 0 st

set_option maxHeartbeats 4000000 in
set_option maxRecDepth 1000000 in
theorem T_M_tellAll_L49 {dC : Nat → ClassId} {dI : Nat → Nat → Nat} {cI cZ cR cA : ClassId} {n : Nat} {ad : zK → Nat} {A : Nat → Prop} (hn : 2 ≤ n ∧ n ≤ 6) (hD : zD A zKm ad) {p : Program} {l : Launch} {e : Env} {s : State} {m : MethodId} {args : Array Value} {below : List Frame} {meth : Method} {c : Code} (S : CallFix p m c b_M_tellAll 7 s args zT N_M) (hret : meth.sig.returnType = some .int) (hlk : meth.locks = false) (hK : va_K (dC, dI) zcl (zty cI cZ cR cA) s) (out : Int32 × zS) (c6 : Int32 → Int32 → Int32 → Int32 → Int32 → Int32 → zS → Option (Int32 × zS)) (hc6 : ∀ (v1 : Int32) (v2 : Int32) (v3 : Int32) (v4 : Int32) (v5 : Int32) (v6 : Int32) (st : zS) (H : Heap) (locs : List Loc) (ls : Array Slot), zV (dC, dI) zcl zKm ad (zmE n cI cZ ad) st H → va_S A s.heap H locs → lv_has ls 7 [(0, .ref (ad (0, 0))), (1, .int v1), (2, .int v2), (3, .int v3), (4, .int v4), (5, .int v5), (6, .int v6)] → c6 v1 v2 v3 v4 v5 v6 st = some out → W p l e rm_M_tellAll s m args below meth c H locs 0 0 (zQ below A (fun o H => o = some (.int out.1) ∧ zV (dC, dI) zcl zKm ad (zmE n cI cZ ad) out.2 H) args s) (F0 m 6 ls [])) (v1 : Int32) (v2 : Int32) (v3 : Int32) (v4 : Int32) (v5 : Int32) (v6 : Int32) (st : zS) (H : Heap) (locs : List Loc) (ls : Array Slot) (hP : zV (dC, dI) zcl zKm ad (zmE n cI cZ ad) st H) (hS : va_S A s.heap H locs) (hl : lv_has ls 7 [(0, .ref (ad (0, 0))), (1, .int v1), (2, .int v2), (3, .int v3), (4, .int v4), (5, .int v5), (6, .int v6)]) (hF : F_M_tellAll_L49 n c6 v1 v2 v3 v4 v5 v6 st = some out) : W p l e rm_M_tellAll s m args below meth c H locs 0 0 (zQ below A (fun o H => o = some (.int out.1) ∧ zV (dC, dI) zcl zKm ad (zmE n cI cZ ad) out.2 H) args s) (F0 m 49 ls []) := by
  unfold F_M_tellAll_L49 at hF
  refine lv_iinc (k := 6) (v := v6 + 1) S.1 S.2.1 d_M_tellAll_49 hl rfl rfl (by decide) rfl (fun ls hl => ?_)
  have hl : lv_has ls 7 [(6, .int (v6 + 1)), (0, .ref (ad (0, 0))), (1, .int v1), (2, .int v2), (3, .int v3), (4, .int v4), (5, .int v5)] := hl
  refine lv_goto (tgt := 6) S.1 S.2.1 d_M_tellAll_52 (by decide) ?_
  exact hc6 v1 v2 v3 v4 v5 (v6 + 1) st _ _ _ hP hS (lv_sub hl [1, 2, 3, 4, 5, 6, 0] rfl) hF

set_option maxHeartbeats 4000000 in
set_option maxRecDepth 1000000 in
theorem T_M_tellAll_L6 {dC : Nat → ClassId} {dI : Nat → Nat → Nat} {cI cZ cR cA : ClassId} {n : Nat} {ad : zK → Nat} {A : Nat → Prop} (hn : 2 ≤ n ∧ n ≤ 6) (hD : zD A zKm ad) {p : Program} {l : Launch} {e : Env} {s : State} {m : MethodId} {args : Array Value} {below : List Frame} {meth : Method} {c : Code} (S : CallFix p m c b_M_tellAll 7 s args zT N_M) (hret : meth.sig.returnType = some .int) (hlk : meth.locks = false) (hK : va_K (dC, dI) zcl (zty cI cZ cR cA) s) (out : Int32 × zS) : ∀ (fu : Nat) (v1 : Int32) (v2 : Int32) (v3 : Int32) (v4 : Int32) (v5 : Int32) (v6 : Int32) (st : zS) (H : Heap) (locs : List Loc) (ls : Array Slot) (hP : zV (dC, dI) zcl zKm ad (zmE n cI cZ ad) st H) (hS : va_S A s.heap H locs) (hl : lv_has ls 7 [(0, .ref (ad (0, 0))), (1, .int v1), (2, .int v2), (3, .int v3), (4, .int v4), (5, .int v5), (6, .int v6)]) (hF : F_M_tellAll_L6 n fu v1 v2 v3 v4 v5 v6 st = some out), W p l e rm_M_tellAll s m args below meth c H locs 0 0 (zQ below A (fun o H => o = some (.int out.1) ∧ zV (dC, dI) zcl zKm ad (zmE n cI cZ ad) out.2 H) args s) (F0 m 6 ls []) := by
  intro fu
  induction fu with
  | zero => intro v1 v2 v3 v4 v5 v6 st H locs ls hP hS hl hF; rw [F_M_tellAll_L6] at hF; cases hF
  | succ f ih =>
    intro v1 v2 v3 v4 v5 v6 st H locs ls hP hS hl hF
    rw [F_M_tellAll_L6] at hF
    refine lv_iload S.1 S.2.1 d_M_tellAll_6 (lv_at hl 6 rfl) ?_
    refine lv_aload_n S.1 S.2.1 d_M_tellAll_8 rfl (lv_at hl 0 rfl) ?_
    refine zr_get (v := .int (nI n)) S zi_M hK hP zkm_0 rfl rfl 0 (by decide) zx_39 rfl d_M_tellAll_9 ?_
    refine lv_icmp_ge (tgt := 55) S.1 S.2.1 d_M_tellAll_12 (by decide) (fun h12 => ?_) (fun h12 => ?_)
    · rw [if_pos h12] at hF
      refine lv_iload S.1 S.2.1 d_M_tellAll_55 (lv_at hl 5 rfl) ?_
      cases hF
      exact zr_iret S hret hlk hS d_M_tellAll_57 ⟨rfl, hP⟩
    · rw [if_neg h12] at hF
      refine lv_aload_n S.1 S.2.1 d_M_tellAll_15 rfl (lv_at hl 0 rfl) ?_
      refine zr_get (v := .ref (ad (1, 0))) S zi_M hK hP zkm_0 rfl rfl 1 (by decide) zx_41 rfl d_M_tellAll_16 ?_
      refine lv_bipush (v := 6) S.1 S.2.1 d_M_tellAll_19 (by decide) ?_
      refine lv_iload_n S.1 S.2.1 d_M_tellAll_21 rfl (lv_at hl 1 rfl) ?_
      refine lv_imul S.1 S.2.1 d_M_tellAll_22 ?_
      refine lv_iload S.1 S.2.1 d_M_tellAll_23 (lv_at hl 6 rfl) ?_
      refine lv_iadd S.1 S.2.1 d_M_tellAll_25 ?_
      by_cases g26 : zOut ((6 * v1) + v6) 36
      · rw [if_pos g26] at hF; cases hF
      rw [if_neg g26] at hF
      refine zr_iald S hK hP zkm_1 rfl 0 rfl g26 d_M_tellAll_26 ?_
      refine lv_if_le (tgt := 49) S.1 S.2.1 d_M_tellAll_27 (by decide) (fun h27 => ?_) (fun h27 => ?_)
      · rw [if_pos h27] at hF
        exact T_M_tellAll_L49 hn hD S hret hlk hK out (F_M_tellAll_L6 n f) ih v1 v2 v3 v4 v5 v6 st _ _ _ hP hS (lv_sub hl [0, 1, 2, 3, 4, 5, 6] rfl) hF
      · rw [if_neg h27] at hF
        refine lv_iload S.1 S.2.1 d_M_tellAll_30 (lv_at hl 6 rfl) ?_
        refine lv_iload S.1 S.2.1 d_M_tellAll_32 (lv_at hl 4 rfl) ?_
        refine lv_icmp_eq (tgt := 49) S.1 S.2.1 d_M_tellAll_34 (by decide) (fun h34 => ?_) (fun h34 => ?_)
        · rw [if_pos h34] at hF
          exact T_M_tellAll_L49 hn hD S hret hlk hK out (F_M_tellAll_L6 n f) ih v1 v2 v3 v4 v5 v6 st _ _ _ hP hS (lv_sub hl [0, 1, 2, 3, 4, 5, 6] rfl) hF
        · rw [if_neg h34] at hF
          refine lv_aload_n S.1 S.2.1 d_M_tellAll_37 rfl (lv_at hl 0 rfl) ?_
          refine lv_iload_n S.1 S.2.1 d_M_tellAll_38 rfl (lv_at hl 1 rfl) ?_
          refine lv_iload S.1 S.2.1 d_M_tellAll_39 (lv_at hl 6 rfl) ?_
          refine lv_iload_n S.1 S.2.1 d_M_tellAll_41 rfl (lv_at hl 3 rfl) ?_
          refine lv_iload_n S.1 S.2.1 d_M_tellAll_42 rfl (lv_at hl 2 rfl) ?_
          cases hc43 : F_M_send n v1 v6 v3 v2 st with
          | none => rw [hc43] at hF; cases hF
          | some u43 =>
            obtain ⟨r43, st43⟩ := u43
            rw [hc43] at hF
            replace hF := zbind hF
            refine zr_callV (rest := []) S zT_good (C_M_send hn hD l v1 v6 v3 v2 st (r43, st43) hc43) zn_M_send zx_107 ⟨rfl, rfl⟩ ⟨Nat.le_of_ble_eq_true rfl, Nat.le_of_ble_eq_true rfl⟩ ⟨Nat.zero_le _, Nat.zero_le _⟩ hK (zr_recv hK hP zkm_0 rfl rfl) hP hl.1 (Nat.le_of_ble_eq_true rfl) hS (fun _ h => h) d_M_tellAll_43 rfl (fun o H locs hpo _ _ hS => ?_)
            obtain ⟨rfl, hP⟩ := hpo
            refine W.eq (g2 := F0 m 46 ls []) rfl ?_
            replace hF : F_M_tellAll_L6_s1 n (F_M_tellAll_L6 n f) v1 v2 v3 v4 v5 v6 st43 = some out := hF
            replace hP : zV (dC, dI) zcl zKm ad (zmE n cI cZ ad) st43 H := hP
            unfold F_M_tellAll_L6_s1 at hF
            refine lv_iinc (k := 5) (v := v5 + 1) S.1 S.2.1 d_M_tellAll_46 hl rfl rfl (by decide) rfl (fun ls hl => ?_)
            have hl : lv_has ls 7 [(5, .int (v5 + 1)), (0, .ref (ad (0, 0))), (1, .int v1), (2, .int v2), (3, .int v3), (4, .int v4), (6, .int v6)] := hl
            exact T_M_tellAll_L49 hn hD S hret hlk hK out (F_M_tellAll_L6 n f) ih v1 v2 v3 v4 (v5 + 1) v6 st43 _ _ _ hP hS (lv_sub hl [1, 2, 3, 4, 5, 0, 6] rfl) hF

set_option maxHeartbeats 4000000 in
set_option maxRecDepth 1000000 in
theorem C_M_tellAll {dC : Nat → ClassId} {dI : Nat → Nat → Nat} {cI cZ cR cA : ClassId} {n : Nat} {ad : zK → Nat} {A : Nat → Prop} (hn : 2 ≤ n ∧ n ≤ 6) (hD : zD A zKm ad) (l : Launch) (v1 : Int32) (v2 : Int32) (v3 : Int32) (v4 : Int32) (st : zS) (out : Int32 × zS) (hF : F_M_tellAll n v1 v2 v3 v4 st = some out) : zC zT (dC, dI) zcl (zty cI cZ cR cA) A l y_M_tellAll b_M_tellAll 7 (some .int) rm_M_tellAll [.ref (ad (0, 0)), .int v1, .int v2, .int v3, .int v4] (fun H => zV (dC, dI) zcl zKm ad (zmE n cI cZ ad) st H) (fun o H => o = some (.int out.1) ∧ zV (dC, dI) zcl zKm ad (zmE n cI cZ ad) out.2 H) := by
  refine zC_of (by decide) (Nat.le_of_ble_eq_true rfl) (fun p e s m args below meth c ls S hret hlk hK hP hl => ?_)
  have hS : va_S A s.heap s.heap [] := va_S.rf
  have hl : lv_has ls 7 [(0, .ref (ad (0, 0))), (1, .int v1), (2, .int v2), (3, .int v3), (4, .int v4)] := hl
  have hP : zV (dC, dI) zcl zKm ad (zmE n cI cZ ad) st s.heap := hP
  unfold F_M_tellAll at hF
  refine lv_iconst (v := 0) S.1 S.2.1 d_M_tellAll_0 (by decide) ?_
  refine lv_istore S.1 S.2.1 d_M_tellAll_1 hl (by decide) rfl (fun ls hl => ?_)
  have hl : lv_has ls 7 [(5, .int 0), (0, .ref (ad (0, 0))), (1, .int v1), (2, .int v2), (3, .int v3), (4, .int v4)] := hl
  refine lv_iconst (v := 0) S.1 S.2.1 d_M_tellAll_3 (by decide) ?_
  refine lv_istore S.1 S.2.1 d_M_tellAll_4 hl (by decide) rfl (fun ls hl => ?_)
  have hl : lv_has ls 7 [(6, .int 0), (5, .int 0), (0, .ref (ad (0, 0))), (1, .int v1), (2, .int v2), (3, .int v3), (4, .int v4)] := hl
  exact T_M_tellAll_L6 hn hD S hret hlk hK out zFuel v1 v2 v3 v4 0 0 st _ _ _ hP hS (lv_sub hl [2, 3, 4, 5, 6, 1, 0] rfl) hF

