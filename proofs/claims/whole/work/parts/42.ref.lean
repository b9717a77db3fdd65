theorem d_M_isSure_0 : decode b_M_isSure 0 = .ok (.iload_n 3, 1) := by decide +kernel
theorem d_M_isSure_1 : decode b_M_isSure 1 = .ok (.ifCond .lt 63, 3) := by decide +kernel
theorem d_M_isSure_4 : decode b_M_isSure 4 = .ok (.aload_n 0, 1) := by decide +kernel
theorem d_M_isSure_5 : decode b_M_isSure 5 = .ok (.getfield 7, 3) := by decide +kernel
theorem d_M_isSure_8 : decode b_M_isSure 8 = .ok (.bipush 6, 2) := by decide +kernel
theorem d_M_isSure_10 : decode b_M_isSure 10 = .ok (.iload_n 1, 1) := by decide +kernel
theorem d_M_isSure_11 : decode b_M_isSure 11 = .ok (.imul, 1) := by decide +kernel
theorem d_M_isSure_12 : decode b_M_isSure 12 = .ok (.iload_n 3, 1) := by decide +kernel
theorem d_M_isSure_13 : decode b_M_isSure 13 = .ok (.iadd, 1) := by decide +kernel
theorem d_M_isSure_14 : decode b_M_isSure 14 = .ok (.iaload, 1) := by decide +kernel
theorem d_M_isSure_15 : decode b_M_isSure 15 = .ok (.ifCond .le 49, 3) := by decide +kernel
theorem d_M_isSure_18 : decode b_M_isSure 18 = .ok (.aload_n 0, 1) := by decide +kernel
theorem d_M_isSure_19 : decode b_M_isSure 19 = .ok (.getfield 32, 3) := by decide +kernel
theorem d_M_isSure_22 : decode b_M_isSure 22 = .ok (.bipush 36, 2) := by decide +kernel
theorem d_M_isSure_24 : decode b_M_isSure 24 = .ok (.iload_n 3, 1) := by decide +kernel
theorem d_M_isSure_25 : decode b_M_isSure 25 = .ok (.imul, 1) := by decide +kernel
theorem d_M_isSure_26 : decode b_M_isSure 26 = .ok (.bipush 6, 2) := by decide +kernel
theorem d_M_isSure_28 : decode b_M_isSure 28 = .ok (.iload_n 1, 1) := by decide +kernel
theorem d_M_isSure_29 : decode b_M_isSure 29 = .ok (.imul, 1) := by decide +kernel
theorem d_M_isSure_30 : decode b_M_isSure 30 = .ok (.iadd, 1) := by decide +kernel
theorem d_M_isSure_31 : decode b_M_isSure 31 = .ok (.iload_n 2, 1) := by decide +kernel
theorem d_M_isSure_32 : decode b_M_isSure 32 = .ok (.iadd, 1) := by decide +kernel
theorem d_M_isSure_33 : decode b_M_isSure 33 = .ok (.iaload, 1) := by decide +kernel
theorem d_M_isSure_34 : decode b_M_isSure 34 = .ok (.aload_n 0, 1) := by decide +kernel
theorem d_M_isSure_35 : decode b_M_isSure 35 = .ok (.getfield 16, 3) := by decide +kernel
theorem d_M_isSure_38 : decode b_M_isSure 38 = .ok (.bipush 6, 2) := by decide +kernel
theorem d_M_isSure_40 : decode b_M_isSure 40 = .ok (.iload_n 1, 1) := by decide +kernel
theorem d_M_isSure_41 : decode b_M_isSure 41 = .ok (.imul, 1) := by decide +kernel
theorem d_M_isSure_42 : decode b_M_isSure 42 = .ok (.iload_n 2, 1) := by decide +kernel
theorem d_M_isSure_43 : decode b_M_isSure 43 = .ok (.iadd, 1) := by decide +kernel
theorem d_M_isSure_44 : decode b_M_isSure 44 = .ok (.iaload, 1) := by decide +kernel
theorem d_M_isSure_45 : decode b_M_isSure 45 = .ok (.if_icmp .ge 19, 3) := by decide +kernel
theorem d_M_isSure_48 : decode b_M_isSure 48 = .ok (.aload_n 0, 1) := by decide +kernel
theorem d_M_isSure_49 : decode b_M_isSure 49 = .ok (.iload_n 1, 1) := by decide +kernel
theorem d_M_isSure_50 : decode b_M_isSure 50 = .ok (.iload_n 2, 1) := by decide +kernel
theorem d_M_isSure_51 : decode b_M_isSure 51 = .ok (.iload_n 3, 1) := by decide +kernel
theorem d_M_isSure_52 : decode b_M_isSure 52 = .ok (.invokevirtual 71, 3) := by decide +kernel
theorem d_M_isSure_55 : decode b_M_isSure 55 = .ok (.iload 4, 2) := by decide +kernel
theorem d_M_isSure_57 : decode b_M_isSure 57 = .ok (.if_icmp .ne 7, 3) := by decide +kernel
theorem d_M_isSure_60 : decode b_M_isSure 60 = .ok (.iconst 1, 1) := by decide +kernel
theorem d_M_isSure_61 : decode b_M_isSure 61 = .ok (.goto 4, 3) := by decide +kernel
theorem d_M_isSure_64 : decode b_M_isSure 64 = .ok (.iconst 0, 1) := by decide +kernel
theorem d_M_isSure_65 : decode b_M_isSure 65 = .ok (.ireturn, 1) := by decide +kernel
def F_M_isSure_s1 (n : Nat) (v4 : Int32) (t0 : Int32) (st : zS) : Option (Int32 × zS) :=
    if t0 = v4 then (some (1, st)) else (some (0, st))

def F_M_isSure (n : Nat) (v1 : Int32) (v2 : Int32) (v3 : Int32) (v4 : Int32) (st : zS) : Option (Int32 × zS) :=
    if v3 < 0 then (some (0, st)) else (if zOut ((6 * v1) + v3) 36 then none else if (st 1 0 (Int32.toNatClampNeg ((6 * v1) + v3))) ≤ 0 then (some (0, st)) else (if zOut (((36 * v3) + (6 * v1)) + v2) 216 then none else if zOut ((6 * v1) + v2) 36 then none else if (st 3 0 (Int32.toNatClampNeg ((6 * v1) + v2))) ≤ (st 8 0 (Int32.toNatClampNeg (((36 * v3) + (6 * v1)) + v2))) then (some (0, st)) else ((F_M_through n v1 v2 v3 st).bind (fun u => F_M_isSure_s1 n v4 u.1 u.2))))

set_option maxHeartbeats 4000000 in
set_option maxRecDepth 1000000 in
theorem C_M_isSure {dC : Nat → ClassId} {dI : Nat → Nat → Nat} {cI cZ cR cA : ClassId} {n : Nat} {ad : zK → Nat} {A : Nat → Prop} (hn : 2 ≤ n ∧ n ≤ 6) (hD : zD A zKm ad) (l : Launch) (v1 : Int32) (v2 : Int32) (v3 : Int32) (v4 : Int32) (st : zS) (out : Int32 × zS) (hF : F_M_isSure n v1 v2 v3 v4 st = some out) : zC zT (dC, dI) zcl (zty cI cZ cR cA) A l y_M_isSure b_M_isSure 5 (some .boolean) rm_M_isSure [.ref (ad (0, 0)), .int v1, .int v2, .int v3, .int v4] (fun H => zV (dC, dI) zcl zKm ad (zmE n cI cZ ad) st H) (fun o H => o = some (.int out.1) ∧ zV (dC, dI) zcl zKm ad (zmE n cI cZ ad) out.2 H) := by
  refine zC_of (by decide) (Nat.le_of_ble_eq_true rfl) (fun p e s m args below meth c ls S hret hlk hK hP hl => ?_)
  have hS : va_S A s.heap s.heap [] := va_S.rf
  have hl : lv_has ls 5 [(0, .ref (ad (0, 0))), (1, .int v1), (2, .int v2), (3, .int v3), (4, .int v4)] := hl
  have hP : zV (dC, dI) zcl zKm ad (zmE n cI cZ ad) st s.heap := hP
  unfold F_M_isSure at hF
  refine lv_iload_n S.1 S.2.1 d_M_isSure_0 rfl (lv_at hl 3 rfl) ?_
  refine lv_if_lt (tgt := 64) S.1 S.2.1 d_M_isSure_1 (by decide) (fun h1 => ?_) (fun h1 => ?_)
  · rw [if_pos h1] at hF
    refine lv_iconst (v := 0) S.1 S.2.1 d_M_isSure_64 (by decide) ?_
    cases hF
    exact zr_zret S hret hlk (by decide) hS d_M_isSure_65 ⟨rfl, hP⟩
  · rw [if_neg h1] at hF
    refine lv_aload_n S.1 S.2.1 d_M_isSure_4 rfl (lv_at hl 0 rfl) ?_
    refine zr_get (v := .ref (ad (1, 0))) S zi_M hK hP zkm_0 rfl rfl 1 (by decide) zx_41 rfl d_M_isSure_5 ?_
    refine lv_bipush (v := 6) S.1 S.2.1 d_M_isSure_8 (by decide) ?_
    refine lv_iload_n S.1 S.2.1 d_M_isSure_10 rfl (lv_at hl 1 rfl) ?_
    refine lv_imul S.1 S.2.1 d_M_isSure_11 ?_
    refine lv_iload_n S.1 S.2.1 d_M_isSure_12 rfl (lv_at hl 3 rfl) ?_
    refine lv_iadd S.1 S.2.1 d_M_isSure_13 ?_
    by_cases g14 : zOut ((6 * v1) + v3) 36
    · rw [if_pos g14] at hF; cases hF
    rw [if_neg g14] at hF
    refine zr_iald S hK hP zkm_1 rfl 0 rfl g14 d_M_isSure_14 ?_
    refine lv_if_le (tgt := 64) S.1 S.2.1 d_M_isSure_15 (by decide) (fun h15 => ?_) (fun h15 => ?_)
    · rw [if_pos h15] at hF
      refine lv_iconst (v := 0) S.1 S.2.1 d_M_isSure_64 (by decide) ?_
      cases hF
      exact zr_zret S hret hlk (by decide) hS d_M_isSure_65 ⟨rfl, hP⟩
    · rw [if_neg h15] at hF
      refine lv_aload_n S.1 S.2.1 d_M_isSure_18 rfl (lv_at hl 0 rfl) ?_
      refine zr_get (v := .ref (ad (8, 0))) S zi_M hK hP zkm_0 rfl rfl 8 (by decide) zx_31 rfl d_M_isSure_19 ?_
      refine lv_bipush (v := 36) S.1 S.2.1 d_M_isSure_22 (by decide) ?_
      refine lv_iload_n S.1 S.2.1 d_M_isSure_24 rfl (lv_at hl 3 rfl) ?_
      refine lv_imul S.1 S.2.1 d_M_isSure_25 ?_
      refine lv_bipush (v := 6) S.1 S.2.1 d_M_isSure_26 (by decide) ?_
      refine lv_iload_n S.1 S.2.1 d_M_isSure_28 rfl (lv_at hl 1 rfl) ?_
      refine lv_imul S.1 S.2.1 d_M_isSure_29 ?_
      refine lv_iadd S.1 S.2.1 d_M_isSure_30 ?_
      refine lv_iload_n S.1 S.2.1 d_M_isSure_31 rfl (lv_at hl 2 rfl) ?_
      refine lv_iadd S.1 S.2.1 d_M_isSure_32 ?_
      by_cases g33 : zOut (((36 * v3) + (6 * v1)) + v2) 216
      · rw [if_pos g33] at hF; cases hF
      rw [if_neg g33] at hF
      refine zr_iald S hK hP zkm_8 rfl 0 rfl g33 d_M_isSure_33 ?_
      refine lv_aload_n S.1 S.2.1 d_M_isSure_34 rfl (lv_at hl 0 rfl) ?_
      refine zr_get (v := .ref (ad (3, 0))) S zi_M hK hP zkm_0 rfl rfl 3 (by decide) zx_26 rfl d_M_isSure_35 ?_
      refine lv_bipush (v := 6) S.1 S.2.1 d_M_isSure_38 (by decide) ?_
      refine lv_iload_n S.1 S.2.1 d_M_isSure_40 rfl (lv_at hl 1 rfl) ?_
      refine lv_imul S.1 S.2.1 d_M_isSure_41 ?_
      refine lv_iload_n S.1 S.2.1 d_M_isSure_42 rfl (lv_at hl 2 rfl) ?_
      refine lv_iadd S.1 S.2.1 d_M_isSure_43 ?_
      by_cases g44 : zOut ((6 * v1) + v2) 36
      · rw [if_pos g44] at hF; cases hF
      rw [if_neg g44] at hF
      refine zr_iald S hK hP zkm_3 rfl 0 rfl g44 d_M_isSure_44 ?_
      refine lv_icmp_ge (tgt := 64) S.1 S.2.1 d_M_isSure_45 (by decide) (fun h45 => ?_) (fun h45 => ?_)
      · rw [if_pos h45] at hF
        refine lv_iconst (v := 0) S.1 S.2.1 d_M_isSure_64 (by decide) ?_
        cases hF
        exact zr_zret S hret hlk (by decide) hS d_M_isSure_65 ⟨rfl, hP⟩
      · rw [if_neg h45] at hF
        refine lv_aload_n S.1 S.2.1 d_M_isSure_48 rfl (lv_at hl 0 rfl) ?_
        refine lv_iload_n S.1 S.2.1 d_M_isSure_49 rfl (lv_at hl 1 rfl) ?_
        refine lv_iload_n S.1 S.2.1 d_M_isSure_50 rfl (lv_at hl 2 rfl) ?_
        refine lv_iload_n S.1 S.2.1 d_M_isSure_51 rfl (lv_at hl 3 rfl) ?_
        cases hc52 : F_M_through n v1 v2 v3 st with
        | none => rw [hc52] at hF; cases hF
        | some u52 =>
          obtain ⟨r52, st52⟩ := u52
          rw [hc52] at hF
          replace hF := zbind hF
          refine zr_callV (rest := []) S zT_good (C_M_through hn hD l v1 v2 v3 st (r52, st52) hc52) zn_M_through zx_108 ⟨rfl, rfl⟩ ⟨Nat.le_of_ble_eq_true rfl, Nat.le_of_ble_eq_true rfl⟩ ⟨Nat.zero_le _, Nat.zero_le _⟩ hK (zr_recv hK hP zkm_0 rfl rfl) hP hl.1 (Nat.le_of_ble_eq_true rfl) hS (fun _ h => h) d_M_isSure_52 rfl (fun o H locs hpo _ _ hS => ?_)
          obtain ⟨rfl, hP⟩ := hpo
          refine W.eq (g2 := F0 m 55 ls [.int r52]) rfl ?_
          replace hF : F_M_isSure_s1 n v4 r52 st52 = some out := hF
          replace hP : zV (dC, dI) zcl zKm ad (zmE n cI cZ ad) st52 H := hP
          unfold F_M_isSure_s1 at hF
          refine lv_iload S.1 S.2.1 d_M_isSure_55 (lv_at hl 4 rfl) ?_
          refine lv_icmp_ne (tgt := 64) S.1 S.2.1 d_M_isSure_57 (by decide) (fun h57 => ?_) (fun h57 => ?_)
          · rw [if_neg h57] at hF
            refine lv_iconst (v := 0) S.1 S.2.1 d_M_isSure_64 (by decide) ?_
            cases hF
            exact zr_zret S hret hlk (by decide) hS d_M_isSure_65 ⟨rfl, hP⟩
          · rw [if_pos h57] at hF
            refine lv_iconst (v := 1) S.1 S.2.1 d_M_isSure_60 (by decide) ?_
            refine lv_goto (tgt := 65) S.1 S.2.1 d_M_isSure_61 (by decide) ?_
            cases hF
            exact zr_zret S hret hlk (by decide) hS d_M_isSure_65 ⟨rfl, hP⟩

theorem d_M_isFine_0 : decode b_M_isFine 0 = .ok (.aload_n 0, 1) := by decide +kernel
theorem d_M_isFine_1 : decode b_M_isFine 1 = .ok (.iload_n 1, 1) := by decide +kernel
theorem d_M_isFine_2 : decode b_M_isFine 2 = .ok (.iload_n 2, 1) := by decide +kernel
theorem d_M_isFine_3 : decode b_M_isFine 3 = .ok (.invokevirtual 75, 3) := by decide +kernel
theorem d_M_isFine_6 : decode b_M_isFine 6 = .ok (.istore_n 3, 1) := by decide +kernel
theorem d_M_isFine_7 : decode b_M_isFine 7 = .ok (.iload_n 3, 1) := by decide +kernel
theorem d_M_isFine_8 : decode b_M_isFine 8 = .ok (.sipush 10000, 3) := by decide +kernel
theorem d_M_isFine_11 : decode b_M_isFine 11 = .ok (.if_icmp .ne 24, 3) := by decide +kernel
theorem d_M_isFine_14 : decode b_M_isFine 14 = .ok (.aload_n 0, 1) := by decide +kernel
theorem d_M_isFine_15 : decode b_M_isFine 15 = .ok (.getfield 16, 3) := by decide +kernel
theorem d_M_isFine_18 : decode b_M_isFine 18 = .ok (.bipush 6, 2) := by decide +kernel
theorem d_M_isFine_20 : decode b_M_isFine 20 = .ok (.iload_n 1, 1) := by decide +kernel
theorem d_M_isFine_21 : decode b_M_isFine 21 = .ok (.imul, 1) := by decide +kernel
theorem d_M_isFine_22 : decode b_M_isFine 22 = .ok (.iload_n 2, 1) := by decide +kernel
theorem d_M_isFine_23 : decode b_M_isFine 23 = .ok (.iadd, 1) := by decide +kernel
theorem d_M_isFine_24 : decode b_M_isFine 24 = .ok (.iaload, 1) := by decide +kernel
theorem d_M_isFine_25 : decode b_M_isFine 25 = .ok (.sipush 10000, 3) := by decide +kernel
theorem d_M_isFine_28 : decode b_M_isFine 28 = .ok (.if_icmp .ne 7, 3) := by decide +kernel
theorem d_M_isFine_31 : decode b_M_isFine 31 = .ok (.iconst 1, 1) := by decide +kernel
theorem d_M_isFine_32 : decode b_M_isFine 32 = .ok (.goto 4, 3) := by decide +kernel
theorem d_M_isFine_35 : decode b_M_isFine 35 = .ok (.iconst 0, 1) := by decide +kernel
theorem d_M_isFine_36 : decode b_M_isFine 36 = .ok (.istore 4, 2) := by decide +kernel
theorem d_M_isFine_38 : decode b_M_isFine 38 = .ok (.iconst 0, 1) := by decide +kernel
theorem d_M_isFine_39 : decode b_M_isFine 39 = .ok (.istore 5, 2) := by decide +kernel
theorem d_M_isFine_41 : decode b_M_isFine 41 = .ok (.iload 5, 2) := by decide +kernel
theorem d_M_isFine_43 : decode b_M_isFine 43 = .ok (.aload_n 0, 1) := by decide +kernel
theorem d_M_isFine_44 : decode b_M_isFine 44 = .ok (.getfield 56, 3) := by decide +kernel
theorem d_M_isFine_47 : decode b_M_isFine 47 = .ok (.if_icmp .ge 40, 3) := by decide +kernel
theorem d_M_isFine_50 : decode b_M_isFine 50 = .ok (.iload 4, 2) := by decide +kernel
theorem d_M_isFine_52 : decode b_M_isFine 52 = .ok (.ifCond .ne 22, 3) := by decide +kernel
theorem d_M_isFine_55 : decode b_M_isFine 55 = .ok (.iload_n 3, 1) := by decide +kernel
theorem d_M_isFine_56 : decode b_M_isFine 56 = .ok (.sipush 10000, 3) := by decide +kernel
theorem d_M_isFine_59 : decode b_M_isFine 59 = .ok (.if_icmp .ge 19, 3) := by decide +kernel
theorem d_M_isFine_62 : decode b_M_isFine 62 = .ok (.aload_n 0, 1) := by decide +kernel
theorem d_M_isFine_63 : decode b_M_isFine 63 = .ok (.iload_n 1, 1) := by decide +kernel
theorem d_M_isFine_64 : decode b_M_isFine 64 = .ok (.iload_n 2, 1) := by decide +kernel
theorem d_M_isFine_65 : decode b_M_isFine 65 = .ok (.iload 5, 2) := by decide +kernel
theorem d_M_isFine_67 : decode b_M_isFine 67 = .ok (.iload_n 3, 1) := by decide +kernel
theorem d_M_isFine_68 : decode b_M_isFine 68 = .ok (.invokevirtual 79, 3) := by decide +kernel
theorem d_M_isFine_71 : decode b_M_isFine 71 = .ok (.ifCond .eq 7, 3) := by decide +kernel
theorem d_M_isFine_74 : decode b_M_isFine 74 = .ok (.iconst 1, 1) := by decide +kernel
theorem d_M_isFine_75 : decode b_M_isFine 75 = .ok (.goto 4, 3) := by decide +kernel
theorem d_M_isFine_78 : decode b_M_isFine 78 = .ok (.iconst 0, 1) := by decide +kernel
theorem d_M_isFine_79 : decode b_M_isFine 79 = .ok (.istore 4, 2) := by decide +kernel
theorem d_M_isFine_81 : decode b_M_isFine 81 = .ok (.iinc 5 1, 3) := by decide +kernel
theorem d_M_isFine_84 : decode b_M_isFine 84 = .ok (.goto (-43), 3) := by decide +kernel
theorem d_M_isFine_87 : decode b_M_isFine 87 = .ok (.iload 4, 2) := by decide +kernel
theorem d_M_isFine_89 : decode b_M_isFine 89 = .ok (.ireturn, 1) := by decide +kernel
def F_M_isFine_L79 (n : Nat) (c41 : Int32 → Int32 → Int32 → Int32 → Int32 → zS → Option (Int32 × zS)) (v1 : Int32) (v2 : Int32) (v3 : Int32) (v5 : Int32) (t0 : Int32) (st : zS) : Option (Int32 × zS) :=
    c41 v1 v2 v3 t0 (v5 + 1) st

def F_M_isFine_L74 (n : Nat) (c41 : Int32 → Int32 → Int32 → Int32 → Int32 → zS → Option (Int32 × zS)) (v1 : Int32) (v2 : Int32) (v3 : Int32) (v5 : Int32) (st : zS) : Option (Int32 × zS) :=
    F_M_isFine_L79 n c41 v1 v2 v3 v5 1 st

def F_M_isFine_L78 (n : Nat) (c41 : Int32 → Int32 → Int32 → Int32 → Int32 → zS → Option (Int32 × zS)) (v1 : Int32) (v2 : Int32) (v3 : Int32) (v5 : Int32) (st : zS) : Option (Int32 × zS) :=
    F_M_isFine_L79 n c41 v1 v2 v3 v5 0 st

def F_M_isFine_L41_s1 (n : Nat) (c41 : Int32 → Int32 → Int32 → Int32 → Int32 → zS → Option (Int32 × zS)) (v1 : Int32) (v2 : Int32) (v3 : Int32) (v5 : Int32) (t0 : Int32) (st : zS) : Option (Int32 × zS) :=
    if t0 = 0 then (F_M_isFine_L78 n c41 v1 v2 v3 v5 st) else (F_M_isFine_L74 n c41 v1 v2 v3 v5 st)

def F_M_isFine_L41 (n : Nat) : Nat → Int32 → Int32 → Int32 → Int32 → Int32 → zS → Option (Int32 × zS)
  | 0, _, _, _, _, _, _ => none
  | f + 1, v1, v2, v3, v4, v5, st =>
    if (nI n) ≤ v5 then (if ¬ (v4 = 0 ∨ v4 = 1) then none else some (v4, st)) else (if v4 = 0 then (if 10000 ≤ v3 then (F_M_isFine_L78 n (F_M_isFine_L41 n f) v1 v2 v3 v5 st) else ((F_M_isSure n v1 v2 v5 v3 st).bind (fun u => F_M_isFine_L41_s1 n (F_M_isFine_L41 n f) v1 v2 v3 v5 u.1 u.2))) else (F_M_isFine_L74 n (F_M_isFine_L41 n f) v1 v2 v3 v5 st))

def F_M_isFine_L36 (n : Nat) (v1 : Int32) (v2 : Int32) (v3 : Int32) (t0 : Int32) (st : zS) : Option (Int32 × zS) :=
    F_M_isFine_L41 n zFuel v1 v2 v3 t0 0 st

def F_M_isFine_L35 (n : Nat) (v1 : Int32) (v2 : Int32) (v3 : Int32) (st : zS) : Option (Int32 × zS) :=
    F_M_isFine_L36 n v1 v2 v3 0 st

def F_M_isFine_s1 (n : Nat) (v1 : Int32) (v2 : Int32) (t0 : Int32) (st : zS) : Option (Int32 × zS) :=
    if t0 = 10000 then (if zOut ((6 * v1) + v2) 36 then none else if (st 3 0 (Int32.toNatClampNeg ((6 * v1) + v2))) = 10000 then (F_M_isFine_L36 n v1 v2 t0 1 st) else (F_M_isFine_L35 n v1 v2 t0 st)) else (F_M_isFine_L35 n v1 v2 t0 st)

def F_M_isFine (n : Nat) (v1 : Int32) (v2 : Int32) (st : zS) : Option (Int32 × zS) :=
    (F_M_least n v1 v2 st).bind (fun u => F_M_isFine_s1 n v1 v2 u.1 u.2)

set_option maxHeartbeats 4000000 in
set_option maxRecDepth 1000000 in
theorem T_M_isFine_L79 {dC : Nat → ClassId} {dI : Nat → Nat → Nat} {cI cZ cR cA : ClassId} {n : Nat} {ad : zK → Nat} {A : Nat → Prop} (hn : 2 ≤ n ∧ n ≤ 6) (hD : zD A zKm ad) {p : Program} {l : Launch} {e : Env} {s : State} {m : MethodId} {args : Array Value} {below : List Frame} {meth : Method} {c : Code} (S : CallFix p m c b_M_isFine 6 s args zT N_M) (hret : meth.sig.returnType = some .boolean) (hlk : meth.locks = false) (hK : va_K (dC, dI) zcl (zty cI cZ cR cA) s) (out : Int32 × zS) (c41 : Int32 → Int32 → Int32 → Int32 → Int32 → zS → Option (Int32 × zS)) (hc41 : ∀ (v1 : Int32) (v2 : Int32) (v3 : Int32) (v4 : Int32) (v5 : Int32) (st : zS) (H : Heap) (locs : List Loc) (ls : Array Slot), zV (dC, dI) zcl zKm ad (zmE n cI cZ ad) st H → va_S A s.heap H locs → lv_has ls 6 [(0, .ref (ad (0, 0))), (1, .int v1), (2, .int v2), (3, .int v3), (4, .int v4), (5, .int v5)] → c41 v1 v2 v3 v4 v5 st = some out → W p l e rm_M_isFine s m args below meth c H locs 0 0 (zQ below A (fun o H => o = some (.int out.1) ∧ zV (dC, dI) zcl zKm ad (zmE n cI cZ ad) out.2 H) args s) (F0 m 41 ls [])) (v1 : Int32) (v2 : Int32) (v3 : Int32) (v5 : Int32) (t0 : Int32) (st : zS) (H : Heap) (locs : List Loc) (ls : Array Slot) (hP : zV (dC, dI) zcl zKm ad (zmE n cI cZ ad) st H) (hS : va_S A s.heap H locs) (hl : lv_has ls 6 [(0, .ref (ad (0, 0))), (1, .int v1), (2, .int v2), (3, .int v3), (5, .int v5)]) (hF : F_M_isFine_L79 n c41 v1 v2 v3 v5 t0 st = some out) : W p l e rm_M_isFine s m args below meth c H locs 0 0 (zQ below A (fun o H => o = some (.int out.1) ∧ zV (dC, dI) zcl zKm ad (zmE n cI cZ ad) out.2 H) args s) (F0 m 79 ls [.int t0]) := by
  unfold F_M_isFine_L79 at hF
  refine lv_istore S.1 S.2.1 d_M_isFine_79 hl (by decide) rfl (fun ls hl => ?_)
  have hl : lv_has ls 6 [(4, .int t0), (0, .ref (ad (0, 0))), (1, .int v1), (2, .int v2), (3, .int v3), (5, .int v5)] := hl
  refine lv_iinc (k := 5) (v := v5 + 1) S.1 S.2.1 d_M_isFine_81 hl rfl rfl (by decide) rfl (fun ls hl => ?_)
  have hl : lv_has ls 6 [(5, .int (v5 + 1)), (4, .int t0), (0, .ref (ad (0, 0))), (1, .int v1), (2, .int v2), (3, .int v3)] := hl
  refine lv_goto (tgt := 41) S.1 S.2.1 d_M_isFine_84 (by decide) ?_
  exact hc41 v1 v2 v3 t0 (v5 + 1) st _ _ _ hP hS (lv_sub hl [2, 3, 4, 5, 1, 0] rfl) hF

set_option maxHeartbeats 4000000 in
set_option maxRecDepth 1000000 in
theorem T_M_isFine_L74 {dC : Nat → ClassId} {dI : Nat → Nat → Nat} {cI cZ cR cA : ClassId} {n : Nat} {ad : zK → Nat} {A : Nat → Prop} (hn : 2 ≤ n ∧ n ≤ 6) (hD : zD A zKm ad) {p : Program} {l : Launch} {e : Env} {s : State} {m : MethodId} {args : Array Value} {below : List Frame} {meth : Method} {c : Code} (S : CallFix p m c b_M_isFine 6 s args zT N_M) (hret : meth.sig.returnType = some .boolean) (hlk : meth.locks = false) (hK : va_K (dC, dI) zcl (zty cI cZ cR cA) s) (out : Int32 × zS) (c41 : Int32 → Int32 → Int32 → Int32 → Int32 → zS → Option (Int32 × zS)) (hc41 : ∀ (v1 : Int32) (v2 : Int32) (v3 : Int32) (v4 : Int32) (v5 : Int32) (st : zS) (H : Heap) (locs : List Loc) (ls : Array Slot), zV (dC, dI) zcl zKm ad (zmE n cI cZ ad) st H → va_S A s.heap H locs → lv_has ls 6 [(0, .ref (ad (0, 0))), (1, .int v1), (2, .int v2), (3, .int v3), (4, .int v4), (5, .int v5)] → c41 v1 v2 v3 v4 v5 st = some out → W p l e rm_M_isFine s m args below meth c H locs 0 0 (zQ below A (fun o H => o = some (.int out.1) ∧ zV (dC, dI) zcl zKm ad (zmE n cI cZ ad) out.2 H) args s) (F0 m 41 ls [])) (v1 : Int32) (v2 : Int32) (v3 : Int32) (v5 : Int32) (st : zS) (H : Heap) (locs : List Loc) (ls : Array Slot) (hP : zV (dC, dI) zcl zKm ad (zmE n cI cZ ad) st H) (hS : va_S A s.heap H locs) (hl : lv_has ls 6 [(0, .ref (ad (0, 0))), (1, .int v1), (2, .int v2), (3, .int v3), (5, .int v5)]) (hF : F_M_isFine_L74 n c41 v1 v2 v3 v5 st = some out) : W p l e rm_M_isFine s m args below meth c H locs 0 0 (zQ below A (fun o H => o = some (.int out.1) ∧ zV (dC, dI) zcl zKm ad (zmE n cI cZ ad) out.2 H) args s) (F0 m 74 ls []) := by
  unfold F_M_isFine_L74 at hF
  refine lv_iconst (v := 1) S.1 S.2.1 d_M_isFine_74 (by decide) ?_
  refine lv_goto (tgt := 79) S.1 S.2.1 d_M_isFine_75 (by decide) ?_
  exact T_M_isFine_L79 hn hD S hret hlk hK out c41 hc41 v1 v2 v3 v5 1 st _ _ _ hP hS (lv_sub hl [0, 1, 2, 3, 4] rfl) hF

set_option maxHeartbeats 4000000 in
set_option maxRecDepth 1000000 in
theorem T_M_isFine_L78 {dC : Nat → ClassId} {dI : Nat → Nat → Nat} {cI cZ cR cA : ClassId} {n : Nat} {ad : zK → Nat} {A : Nat → Prop} (hn : 2 ≤ n ∧ n ≤ 6) (hD : zD A zKm ad) {p : Program} {l : Launch} {e : Env} {s : State} {m : MethodId} {args : Array Value} {below : List Frame} {meth : Method} {c : Code} (S : CallFix p m c b_M_isFine 6 s args zT N_M) (hret : meth.sig.returnType = some .boolean) (hlk : meth.locks = false) (hK : va_K (dC, dI) zcl (zty cI cZ cR cA) s) (out : Int32 × zS) (c41 : Int32 → Int32 → Int32 → Int32 → Int32 → zS → Option (Int32 × zS)) (hc41 : ∀ (v1 : Int32) (v2 : Int32) (v3 : Int32) (v4 : Int32) (v5 : Int32) (st : zS) (H : Heap) (locs : List Loc) (ls : Array Slot), zV (dC, dI) zcl zKm ad (zmE n cI cZ ad) st H → va_S A s.heap H locs → lv_has ls 6 [(0, .ref (ad (0, 0))), (1, .int v1), (2, .int v2), (3, .int v3), (4, .int v4), (5, .int v5)] → c41 v1 v2 v3 v4 v5 st = some out → W p l e rm_M_isFine s m args below meth c H locs 0 0 (zQ below A (fun o H => o = some (.int out.1) ∧ zV (dC, dI) zcl zKm ad (zmE n cI cZ ad) out.2 H) args s) (F0 m 41 ls [])) (v1 : Int32) (v2 : Int32) (v3 : Int32) (v5 : Int32) (st : zS) (H : Heap) (locs : List Loc) (ls : Array Slot) (hP : zV (dC, dI) zcl zKm ad (zmE n cI cZ ad) st H) (hS : va_S A s.heap H locs) (hl : lv_has ls 6 [(0, .ref (ad (0, 0))), (1, .int v1), (2, .int v2), (3, .int v3), (5, .int v5)]) (hF : F_M_isFine_L78 n c41 v1 v2 v3 v5 st = some out) : W p l e rm_M_isFine s m args below meth c H locs 0 0 (zQ below A (fun o H => o = some (.int out.1) ∧ zV (dC, dI) zcl zKm ad (zmE n cI cZ ad) out.2 H) args s) (F0 m 78 ls []) := by
  unfold F_M_isFine_L78 at hF
  refine lv_iconst (v := 0) S.1 S.2.1 d_M_isFine_78 (by decide) ?_
  exact T_M_isFine_L79 hn hD S hret hlk hK out c41 hc41 v1 v2 v3 v5 0 st _ _ _ hP hS (lv_sub hl [0, 1, 2, 3, 4] rfl) hF

set_option maxHeartbeats 4000000 in
set_option maxRecDepth 1000000 in
theorem T_M_isFine_L41 {dC : Nat → ClassId} {dI : Nat → Nat → Nat} {cI cZ cR cA : ClassId} {n : Nat} {ad : zK → Nat} {A : Nat → Prop} (hn : 2 ≤ n ∧ n ≤ 6) (hD : zD A zKm ad) {p : Program} {l : Launch} {e : Env} {s : State} {m : MethodId} {args : Array Value} {below : List Frame} {meth : Method} {c : Code} (S : CallFix p m c b_M_isFine 6 s args zT N_M) (hret : meth.sig.returnType = some .boolean) (hlk : meth.locks = false) (hK : va_K (dC, dI) zcl (zty cI cZ cR cA) s) (out : Int32 × zS) : ∀ (fu : Nat) (v1 : Int32) (v2 : Int32) (v3 : Int32) (v4 : Int32) (v5 : Int32) (st : zS) (H : Heap) (locs : List Loc) (ls : Array Slot) (hP : zV (dC, dI) zcl zKm ad (zmE n cI cZ ad) st H) (hS : va_S A s.heap H locs) (hl : lv_has ls 6 [(0, .ref (ad (0, 0))), (1, .int v1), (2, .int v2), (3, .int v3), (4, .int v4), (5, .int v5)]) (hF : F_M_isFine_L41 n fu v1 v2 v3 v4 v5 st = some out), W p l e rm_M_isFine s m args below meth c H locs 0 0 (zQ below A (fun o H => o = some (.int out.1) ∧ zV (dC, dI) zcl zKm ad (zmE n cI cZ ad) out.2 H) args s) (F0 m 41 ls []) := by
  intro fu
  induction fu with
  | zero => intro v1 v2 v3 v4 v5 st H locs ls hP hS hl hF; rw [F_M_isFine_L41] at hF; cases hF
  | succ f ih =>
    intro v1 v2 v3 v4 v5 st H locs ls hP hS hl hF
    rw [F_M_isFine_L41] at hF
    refine lv_iload S.1 S.2.1 d_M_isFine_41 (lv_at hl 5 rfl) ?_
    refine lv_aload_n S.1 S.2.1 d_M_isFine_43 rfl (lv_at hl 0 rfl) ?_
    refine zr_get (v := .int (nI n)) S zi_M hK hP zkm_0 rfl rfl 0 (by decide) zx_39 rfl d_M_isFine_44 ?_
    refine lv_icmp_ge (tgt := 87) S.1 S.2.1 d_M_isFine_47 (by decide) (fun h47 => ?_) (fun h47 => ?_)
    · rw [if_pos h47] at hF
      refine lv_iload S.1 S.2.1 d_M_isFine_87 (lv_at hl 4 rfl) ?_
      by_cases g89 : ¬ (v4 = 0 ∨ v4 = 1)
      · rw [if_pos g89] at hF; cases hF
      rw [if_neg g89] at hF
      cases hF
      exact zr_zret S hret hlk (Decidable.not_not.mp g89) hS d_M_isFine_89 ⟨rfl, hP⟩
    · rw [if_neg h47] at hF
      refine lv_iload S.1 S.2.1 d_M_isFine_50 (lv_at hl 4 rfl) ?_
      refine lv_if_ne (tgt := 74) S.1 S.2.1 d_M_isFine_52 (by decide) (fun h52 => ?_) (fun h52 => ?_)
      · rw [if_neg h52] at hF
        exact T_M_isFine_L74 hn hD S hret hlk hK out (F_M_isFine_L41 n f) ih v1 v2 v3 v5 st _ _ _ hP hS (lv_sub hl [0, 1, 2, 3, 5] rfl) hF
      · rw [if_pos h52] at hF
        refine lv_iload_n S.1 S.2.1 d_M_isFine_55 rfl (lv_at hl 3 rfl) ?_
        refine lv_sipush (v := 10000) S.1 S.2.1 d_M_isFine_56 (by decide) ?_
        refine lv_icmp_ge (tgt := 78) S.1 S.2.1 d_M_isFine_59 (by decide) (fun h59 => ?_) (fun h59 => ?_)
        · rw [if_pos h59] at hF
          exact T_M_isFine_L78 hn hD S hret hlk hK out (F_M_isFine_L41 n f) ih v1 v2 v3 v5 st _ _ _ hP hS (lv_sub hl [0, 1, 2, 3, 5] rfl) hF
        · rw [if_neg h59] at hF
          refine lv_aload_n S.1 S.2.1 d_M_isFine_62 rfl (lv_at hl 0 rfl) ?_
          refine lv_iload_n S.1 S.2.1 d_M_isFine_63 rfl (lv_at hl 1 rfl) ?_
          refine lv_iload_n S.1 S.2.1 d_M_isFine_64 rfl (lv_at hl 2 rfl) ?_
          refine lv_iload S.1 S.2.1 d_M_isFine_65 (lv_at hl 5 rfl) ?_
          refine lv_iload_n S.1 S.2.1 d_M_isFine_67 rfl (lv_at hl 3 rfl) ?_
          cases hc68 : F_M_isSure n v1 v2 v5 v3 st with
          | none => rw [hc68] at hF; cases hF
          | some u68 =>
            obtain ⟨r68, st68⟩ := u68
            rw [hc68] at hF
            replace hF := zbind hF
            refine zr_callV (rest := []) S zT_good (C_M_isSure hn hD l v1 v2 v5 v3 st (r68, st68) hc68) zn_M_isSure zx_110 ⟨rfl, rfl⟩ ⟨Nat.le_of_ble_eq_true rfl, Nat.le_of_ble_eq_true rfl⟩ ⟨Nat.zero_le _, Nat.zero_le _⟩ hK (zr_recv hK hP zkm_0 rfl rfl) hP hl.1 (Nat.le_of_ble_eq_true rfl) hS (fun _ h => h) d_M_isFine_68 rfl (fun o H locs hpo _ _ hS => ?_)
            obtain ⟨rfl, hP⟩ := hpo
            refine W.eq (g2 := F0 m 71 ls [.int r68]) rfl ?_
            replace hF : F_M_isFine_L41_s1 n (F_M_isFine_L41 n f) v1 v2 v3 v5 r68 st68 = some out := hF
            replace hP : zV (dC, dI) zcl zKm ad (zmE n cI cZ ad) st68 H := hP
            unfold F_M_isFine_L41_s1 at hF
            refine lv_if_eq (tgt := 78) S.1 S.2.1 d_M_isFine_71 (by decide) (fun h71 => ?_) (fun h71 => ?_)
            · rw [if_pos h71] at hF
              exact T_M_isFine_L78 hn hD S hret hlk hK out (F_M_isFine_L41 n f) ih v1 v2 v3 v5 st68 _ _ _ hP hS (lv_sub hl [0, 1, 2, 3, 5] rfl) hF
            · rw [if_neg h71] at hF
              exact T_M_isFine_L74 hn hD S hret hlk hK out (F_M_isFine_L41 n f) ih v1 v2 v3 v5 st68 _ _ _ hP hS (lv_sub hl [0, 1, 2, 3, 5] rfl) hF

set_option maxHeartbeats 4000000 in
set_option maxRecDepth 1000000 in
theorem T_M_isFine_L36 {dC : Nat → ClassId} {dI : Nat → Nat → Nat} {cI cZ cR cA : ClassId} {n : Nat} {ad : zK → Nat} {A : Nat → Prop} (hn : 2 ≤ n ∧ n ≤ 6) (hD : zD A zKm ad) {p : Program} {l : Launch} {e : Env} {s : State} {m : MethodId} {args : Array Value} {below : List Frame} {meth : Method} {c : Code} (S : CallFix p m c b_M_isFine 6 s args zT N_M) (hret : meth.sig.returnType = some .boolean) (hlk : meth.locks = false) (hK : va_K (dC, dI) zcl (zty cI cZ cR cA) s) (out : Int32 × zS) (v1 : Int32) (v2 : Int32) (v3 : Int32) (t0 : Int32) (st : zS) (H : Heap) (locs : List Loc) (ls : Array Slot) (hP : zV (dC, dI) zcl zKm ad (zmE n cI cZ ad) st H) (hS : va_S A s.heap H locs) (hl : lv_has ls 6 [(0, .ref (ad (0, 0))), (1, .int v1), (2, .int v2), (3, .int v3)]) (hF : F_M_isFine_L36 n v1 v2 v3 t0 st = some out) : W p l e rm_M_isFine s m args below meth c H locs 0 0 (zQ below A (fun o H => o = some (.int out.1) ∧ zV (dC, dI) zcl zKm ad (zmE n cI cZ ad) out.2 H) args s) (F0 m 36 ls [.int t0]) := by
  unfold F_M_isFine_L36 at hF
  refine lv_istore S.1 S.2.1 d_M_isFine_36 hl (by decide) rfl (fun ls hl => ?_)
  have hl : lv_has ls 6 [(4, .int t0), (0, .ref (ad (0, 0))), (1, .int v1), (2, .int v2), (3, .int v3)] := hl
  refine lv_iconst (v := 0) S.1 S.2.1 d_M_isFine_38 (by decide) ?_
  refine lv_istore S.1 S.2.1 d_M_isFine_39 hl (by decide) rfl (fun ls hl => ?_)
  have hl : lv_has ls 6 [(5, .int 0), (4, .int t0), (0, .ref (ad (0, 0))), (1, .int v1), (2, .int v2), (3, .int v3)] := hl
  exact T_M_isFine_L41 hn hD S hret hlk hK out zFuel v1 v2 v3 t0 0 st _ _ _ hP hS (lv_sub hl [2, 3, 4, 5, 1, 0] rfl) hF

set_option maxHeartbeats 4000000 in
set_option maxRecDepth 1000000 in
theorem T_M_isFine_L35 {dC : Nat → ClassId} {dI : Nat → Nat → Nat} {cI cZ cR cA : ClassId} {n : Nat} {ad : zK → Nat} {A : Nat → Prop} (hn : 2 ≤ n ∧ n ≤ 6) (hD : zD A zKm ad) {p : Program} {l : Launch} {e : Env} {s : State} {m : MethodId} {args : Array Value} {below : List Frame} {meth : Method} {c : Code} (S : CallFix p m c b_M_isFine 6 s args zT N_M) (hret : meth.sig.returnType = some .boolean) (hlk : meth.locks = false) (hK : va_K (dC, dI) zcl (zty cI cZ cR cA) s) (out : Int32 × zS) (v1 : Int32) (v2 : Int32) (v3 : Int32) (st : zS) (H : Heap) (locs : List Loc) (ls : Array Slot) (hP : zV (dC, dI) zcl zKm ad (zmE n cI cZ ad) st H) (hS : va_S A s.heap H locs) (hl : lv_has ls 6 [(0, .ref (ad (0, 0))), (1, .int v1), (2, .int v2), (3, .int v3)]) (hF : F_M_isFine_L35 n v1 v2 v3 st = some out) : W p l e rm_M_isFine s m args below meth c H locs 0 0 (zQ below A (fun o H => o = some (.int out.1) ∧ zV (dC, dI) zcl zKm ad (zmE n cI cZ ad) out.2 H) args s) (F0 m 35 ls []) := by
  unfold F_M_isFine_L35 at hF
  refine lv_iconst (v := 0) S.1 S.2.1 d_M_isFine_35 (by decide) ?_
  exact T_M_isFine_L36 hn hD S hret hlk hK out v1 v2 v3 0 st _ _ _ hP hS (lv_sub hl [0, 1, 2, 3] rfl) hF

set_option maxHeartbeats 4000000 in
set_option maxRecDepth 1000000 in
theorem C_M_isFine {dC : Nat → ClassId} {dI : Nat → Nat → Nat} {cI cZ cR cA : ClassId} {n : Nat} {ad : zK → Nat} {A : Nat → Prop} (hn : 2 ≤ n ∧ n ≤ 6) (hD : zD A zKm ad) (l : Launch) (v1 : Int32) (v2 : Int32) (st : zS) (out : Int32 × zS) (hF : F_M_isFine n v1 v2 st = some out) : zC zT (dC, dI) zcl (zty cI cZ cR cA) A l y_M_isFine b_M_isFine 6 (some .boolean) rm_M_isFine [.ref (ad (0, 0)), .int v1, .int v2] (fun H => zV (dC, dI) zcl zKm ad (zmE n cI cZ ad) st H) (fun o H => o = some (.int out.1) ∧ zV (dC, dI) zcl zKm ad (zmE n cI cZ ad) out.2 H) := by
  refine zC_of (by decide) (Nat.le_of_ble_eq_true rfl) (fun p e s m args below meth c ls S hret hlk hK hP hl => ?_)
  have hS : va_S A s.heap s.heap [] := va_S.rf
  have hl : lv_has ls 6 [(0, .ref (ad (0, 0))), (1, .int v1), (2, .int v2)] := hl
  have hP : zV (dC, dI) zcl zKm ad (zmE n cI cZ ad) st s.heap := hP
  unfold F_M_isFine at hF
  refine lv_aload_n S.1 S.2.1 d_M_isFine_0 rfl (lv_at hl 0 rfl) ?_
  refine lv_iload_n S.1 S.2.1 d_M_isFine_1 rfl (lv_at hl 1 rfl) ?_
  refine lv_iload_n S.1 S.2.1 d_M_isFine_2 rfl (lv_at hl 2 rfl) ?_
  cases hc3 : F_M_least n v1 v2 st with
  | none => rw [hc3] at hF; cases hF
  | some u3 =>
    obtain ⟨r3, st3⟩ := u3
    rw [hc3] at hF
    replace hF := zbind hF
    refine zr_callV (rest := []) S zT_good (C_M_least hn hD l v1 v2 st (r3, st3) hc3) zn_M_least zx_109 ⟨rfl, rfl⟩ ⟨Nat.le_of_ble_eq_true rfl, Nat.le_of_ble_eq_true rfl⟩ ⟨Nat.zero_le _, Nat.zero_le _⟩ hK (zr_recv hK hP zkm_0 rfl rfl) hP hl.1 (Nat.le_of_ble_eq_true rfl) hS (fun _ h => h) d_M_isFine_3 rfl (fun o H locs hpo _ _ hS => ?_)
    obtain ⟨rfl, hP⟩ := hpo
    refine W.eq (g2 := F0 m 6 ls [.int r3]) rfl ?_
    replace hF : F_M_isFine_s1 n v1 v2 r3 st3 = some out := hF
    replace hP : zV (dC, dI) zcl zKm ad (zmE n cI cZ ad) st3 H := hP
    unfold F_M_isFine_s1 at hF
    refine lv_istore_n S.1 S.2.1 d_M_isFine_6 rfl hl (by decide) rfl (fun ls hl => ?_)
    have hl : lv_has ls 6 [(3, .int r3), (0, .ref (ad (0, 0))), (1, .int v1), (2, .int v2)] := hl
    refine lv_iload_n S.1 S.2.1 d_M_isFine_7 rfl (lv_at hl 0 rfl) ?_
    refine lv_sipush (v := 10000) S.1 S.2.1 d_M_isFine_8 (by decide) ?_
    refine lv_icmp_ne (tgt := 35) S.1 S.2.1 d_M_isFine_11 (by decide) (fun h11 => ?_) (fun h11 => ?_)
    · rw [if_neg h11] at hF
      exact T_M_isFine_L35 hn hD S hret hlk hK out v1 v2 r3 st3 _ _ _ hP hS (lv_sub hl [1, 2, 3, 0] rfl) hF
    · rw [if_pos h11] at hF
      refine lv_aload_n S.1 S.2.1 d_M_isFine_14 rfl (lv_at hl 1 rfl) ?_
      refine zr_get (v := .ref (ad (3, 0))) S zi_M hK hP zkm_0 rfl rfl 3 (by decide) zx_26 rfl d_M_isFine_15 ?_
      refine lv_bipush (v := 6) S.1 S.2.1 d_M_isFine_18 (by decide) ?_
      refine lv_iload_n S.1 S.2.1 d_M_isFine_20 rfl (lv_at hl 2 rfl) ?_
      refine lv_imul S.1 S.2.1 d_M_isFine_21 ?_
      refine lv_iload_n S.1 S.2.1 d_M_isFine_22 rfl (lv_at hl 3 rfl) ?_
      refine lv_iadd S.1 S.2.1 d_M_isFine_23 ?_
      by_cases g24 : zOut ((6 * v1) + v2) 36
      · rw [if_pos g24] at hF; cases hF
      rw [if_neg g24] at hF
      refine zr_iald S hK hP zkm_3 rfl 0 rfl g24 d_M_isFine_24 ?_
      refine lv_sipush (v := 10000) S.1 S.2.1 d_M_isFine_25 (by decide) ?_
      refine lv_icmp_ne (tgt := 35) S.1 S.2.1 d_M_isFine_28 (by decide) (fun h28 => ?_) (fun h28 => ?_)
      · rw [if_neg h28] at hF
        exact T_M_isFine_L35 hn hD S hret hlk hK out v1 v2 r3 st3 _ _ _ hP hS (lv_sub hl [1, 2, 3, 0] rfl) hF
      · rw [if_pos h28] at hF
        refine lv_iconst (v := 1) S.1 S.2.1 d_M_isFine_31 (by decide) ?_
        refine lv_goto (tgt := 36) S.1 S.2.1 d_M_isFine_32 (by decide) ?_
        exact T_M_isFine_L36 hn hD S hret hlk hK out v1 v2 r3 1 st3 _ _ _ hP hS (lv_sub hl [1, 2, 3, 0] rfl) hF

