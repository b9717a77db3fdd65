theorem d_M_greet_0 : decode b_M_greet 0 = .ok (.iconst 0, 1) := by decide +kernel
theorem d_M_greet_1 : decode b_M_greet 1 = .ok (.istore_n 3, 1) := by decide +kernel
theorem d_M_greet_2 : decode b_M_greet 2 = .ok (.iload_n 3, 1) := by decide +kernel
theorem d_M_greet_3 : decode b_M_greet 3 = .ok (.aload_n 0, 1) := by decide +kernel
theorem d_M_greet_4 : decode b_M_greet 4 = .ok (.getfield 56, 3) := by decide +kernel
theorem d_M_greet_7 : decode b_M_greet 7 = .ok (.if_icmp .ge 34, 3) := by decide +kernel
theorem d_M_greet_10 : decode b_M_greet 10 = .ok (.aload_n 0, 1) := by decide +kernel
theorem d_M_greet_11 : decode b_M_greet 11 = .ok (.getfield 13, 3) := by decide +kernel
theorem d_M_greet_14 : decode b_M_greet 14 = .ok (.bipush 6, 2) := by decide +kernel
theorem d_M_greet_16 : decode b_M_greet 16 = .ok (.iload_n 1, 1) := by decide +kernel
theorem d_M_greet_17 : decode b_M_greet 17 = .ok (.imul, 1) := by decide +kernel
theorem d_M_greet_18 : decode b_M_greet 18 = .ok (.iload_n 3, 1) := by decide +kernel
theorem d_M_greet_19 : decode b_M_greet 19 = .ok (.iadd, 1) := by decide +kernel
theorem d_M_greet_20 : decode b_M_greet 20 = .ok (.iaload, 1) := by decide +kernel
theorem d_M_greet_21 : decode b_M_greet 21 = .ok (.sipush 10000, 3) := by decide +kernel
theorem d_M_greet_24 : decode b_M_greet 24 = .ok (.if_icmp .ge 11, 3) := by decide +kernel
theorem d_M_greet_27 : decode b_M_greet 27 = .ok (.aload_n 0, 1) := by decide +kernel
theorem d_M_greet_28 : decode b_M_greet 28 = .ok (.iload_n 1, 1) := by decide +kernel
theorem d_M_greet_29 : decode b_M_greet 29 = .ok (.iload_n 2, 1) := by decide +kernel
theorem d_M_greet_30 : decode b_M_greet 30 = .ok (.iconst 0, 1) := by decide +kernel
theorem d_M_greet_31 : decode b_M_greet 31 = .ok (.iload_n 3, 1) := by decide +kernel
theorem d_M_greet_32 : decode b_M_greet 32 = .ok (.invokevirtual 67, 3) := by decide +kernel
theorem d_M_greet_35 : decode b_M_greet 35 = .ok (.iinc 3 1, 3) := by decide +kernel
theorem d_M_greet_38 : decode b_M_greet 38 = .ok (.goto (-36), 3) := by decide +kernel
theorem d_M_greet_41 : decode b_M_greet 41 = .ok (.return_, 1) := by decide +kernel
def F_M_greet_L35 (n : Nat) (c2 : Int32 → Int32 → Int32 → zS → Option (Int32 × zS)) (v1 : Int32) (v2 : Int32) (v3 : Int32) (st : zS) : Option (Int32 × zS) :=
    c2 v1 v2 (v3 + 1) st

def F_M_greet_L2_s1 (n : Nat) (c2 : Int32 → Int32 → Int32 → zS → Option (Int32 × zS)) (v1 : Int32) (v2 : Int32) (v3 : Int32) (st : zS) : Option (Int32 × zS) :=
    F_M_greet_L35 n c2 v1 v2 v3 st

def F_M_greet_L2 (n : Nat) : Nat → Int32 → Int32 → Int32 → zS → Option (Int32 × zS)
  | 0, _, _, _, _ => none
  | f + 1, v1, v2, v3, st =>
    if (nI n) ≤ v3 then (some (0, st)) else (if zOut ((6 * v1) + v3) 36 then none else if 10000 ≤ (st 2 0 (Int32.toNatClampNeg ((6 * v1) + v3))) then (F_M_greet_L35 n (F_M_greet_L2 n f) v1 v2 v3 st) else ((F_M_send n v1 v2 0 v3 st).bind (fun u => F_M_greet_L2_s1 n (F_M_greet_L2 n f) v1 v2 v3 u.2)))

def F_M_greet (n : Nat) (v1 : Int32) (v2 : Int32) (st : zS) : Option (Int32 × zS) :=
    F_M_greet_L2 n zFuel v1 v2 0 st

set_option maxHeartbeats 4000000 in
set_option maxRecDepth 1000000 in
theorem T_M_greet_L35 {dC : Nat → ClassId} {dI : Nat → Nat → Nat} {cI cZ cR cA : ClassId} {n : Nat} {ad : zK → Nat} {A : Nat → Prop} (hn : 2 ≤ n ∧ n ≤ 6) (hD : zD A zKm ad) {p : Program} {l : Launch} {e : Env} {s : State} {m : MethodId} {args : Array Value} {below : List Frame} {meth : Method} {c : Code} (S : CallFix p m c b_M_greet 4 s args zT N_M) (hret : meth.sig.returnType = none) (hlk : meth.locks = false) (hK : va_K (dC, dI) zcl (zty cI cZ cR cA) s) (out : Int32 × zS) (c2 : Int32 → Int32 → Int32 → zS → Option (Int32 × zS)) (hc2 : ∀ (v1 : Int32) (v2 : Int32) (v3 : Int32) (st : zS) (H : Heap) (locs : List Loc) (ls : Array Slot), zV (dC, dI) zcl zKm ad (zmE n cI cZ ad) st H → va_S A s.heap H locs → lv_has ls 4 [(0, .ref (ad (0, 0))), (1, .int v1), (2, .int v2), (3, .int v3)] → c2 v1 v2 v3 st = some out → W p l e rm_M_greet s m args below meth c H locs 0 0 (zQ below A (fun o H => o = none ∧ zV (dC, dI) zcl zKm ad (zmE n cI cZ ad) out.2 H) args s) (F0 m 2 ls [])) (v1 : Int32) (v2 : Int32) (v3 : Int32) (st : zS) (H : Heap) (locs : List Loc) (ls : Array Slot) (hP : zV (dC, dI) zcl zKm ad (zmE n cI cZ ad) st H) (hS : va_S A s.heap H locs) (hl : lv_has ls 4 [(0, .ref (ad (0, 0))), (1, .int v1), (2, .int v2), (3, .int v3)]) (hF : F_M_greet_L35 n c2 v1 v2 v3 st = some out) : W p l e rm_M_greet s m args below meth c H locs 0 0 (zQ below A (fun o H => o = none ∧ zV (dC, dI) zcl zKm ad (zmE n cI cZ ad) out.2 H) args s) (F0 m 35 ls []) := by
  unfold F_M_greet_L35 at hF
  refine lv_iinc (k := 3) (v := v3 + 1) S.1 S.2.1 d_M_greet_35 hl rfl rfl (by decide) rfl (fun ls hl => ?_)
  have hl : lv_has ls 4 [(3, .int (v3 + 1)), (0, .ref (ad (0, 0))), (1, .int v1), (2, .int v2)] := hl
  refine lv_goto (tgt := 2) S.1 S.2.1 d_M_greet_38 (by decide) ?_
  exact hc2 v1 v2 (v3 + 1) st _ _ _ hP hS (lv_sub hl [1, 2, 3, 0] rfl) hF

set_option maxHeartbeats 4000000 in
set_option maxRecDepth 1000000 in
theorem T_M_greet_L2 {dC : Nat → ClassId} {dI : Nat → Nat → Nat} {cI cZ cR cA : ClassId} {n : Nat} {ad : zK → Nat} {A : Nat → Prop} (hn : 2 ≤ n ∧ n ≤ 6) (hD : zD A zKm ad) {p : Program} {l : Launch} {e : Env} {s : State} {m : MethodId} {args : Array Value} {below : List Frame} {meth : Method} {c : Code} (S : CallFix p m c b_M_greet 4 s args zT N_M) (hret : meth.sig.returnType = none) (hlk : meth.locks = false) (hK : va_K (dC, dI) zcl (zty cI cZ cR cA) s) (out : Int32 × zS) : ∀ (fu : Nat) (v1 : Int32) (v2 : Int32) (v3 : Int32) (st : zS) (H : Heap) (locs : List Loc) (ls : Array Slot) (hP : zV (dC, dI) zcl zKm ad (zmE n cI cZ ad) st H) (hS : va_S A s.heap H locs) (hl : lv_has ls 4 [(0, .ref (ad (0, 0))), (1, .int v1), (2, .int v2), (3, .int v3)]) (hF : F_M_greet_L2 n fu v1 v2 v3 st = some out), W p l e rm_M_greet s m args below meth c H locs 0 0 (zQ below A (fun o H => o = none ∧ zV (dC, dI) zcl zKm ad (zmE n cI cZ ad) out.2 H) args s) (F0 m 2 ls []) := by
  intro fu
  induction fu with
  | zero => intro v1 v2 v3 st H locs ls hP hS hl hF; rw [F_M_greet_L2] at hF; cases hF
  | succ f ih =>
    intro v1 v2 v3 st H locs ls hP hS hl hF
    rw [F_M_greet_L2] at hF
    refine lv_iload_n S.1 S.2.1 d_M_greet_2 rfl (lv_at hl 3 rfl) ?_
    refine lv_aload_n S.1 S.2.1 d_M_greet_3 rfl (lv_at hl 0 rfl) ?_
    refine zr_get (v := .int (nI n)) S zi_M hK hP zkm_0 rfl rfl 0 (by decide) zx_39 rfl d_M_greet_4 ?_
    refine lv_icmp_ge (tgt := 41) S.1 S.2.1 d_M_greet_7 (by decide) (fun h7 => ?_) (fun h7 => ?_)
    · rw [if_pos h7] at hF
      cases hF
      exact zr_vret S hret hlk hS d_M_greet_41 ⟨rfl, hP⟩
    · rw [if_neg h7] at hF
      refine lv_aload_n S.1 S.2.1 d_M_greet_10 rfl (lv_at hl 0 rfl) ?_
      refine zr_get (v := .ref (ad (2, 0))) S zi_M hK hP zkm_0 rfl rfl 2 (by decide) zx_25 rfl d_M_greet_11 ?_
      refine lv_bipush (v := 6) S.1 S.2.1 d_M_greet_14 (by decide) ?_
      refine lv_iload_n S.1 S.2.1 d_M_greet_16 rfl (lv_at hl 1 rfl) ?_
      refine lv_imul S.1 S.2.1 d_M_greet_17 ?_
      refine lv_iload_n S.1 S.2.1 d_M_greet_18 rfl (lv_at hl 3 rfl) ?_
      refine lv_iadd S.1 S.2.1 d_M_greet_19 ?_
      by_cases g20 : zOut ((6 * v1) + v3) 36
      · rw [if_pos g20] at hF; cases hF
      rw [if_neg g20] at hF
      refine zr_iald S hK hP zkm_2 rfl 0 rfl g20 d_M_greet_20 ?_
      refine lv_sipush (v := 10000) S.1 S.2.1 d_M_greet_21 (by decide) ?_
      refine lv_icmp_ge (tgt := 35) S.1 S.2.1 d_M_greet_24 (by decide) (fun h24 => ?_) (fun h24 => ?_)
      · rw [if_pos h24] at hF
        exact T_M_greet_L35 hn hD S hret hlk hK out (F_M_greet_L2 n f) ih v1 v2 v3 st _ _ _ hP hS (lv_sub hl [0, 1, 2, 3] rfl) hF
      · rw [if_neg h24] at hF
        refine lv_aload_n S.1 S.2.1 d_M_greet_27 rfl (lv_at hl 0 rfl) ?_
        refine lv_iload_n S.1 S.2.1 d_M_greet_28 rfl (lv_at hl 1 rfl) ?_
        refine lv_iload_n S.1 S.2.1 d_M_greet_29 rfl (lv_at hl 2 rfl) ?_
        refine lv_iconst (v := 0) S.1 S.2.1 d_M_greet_30 (by decide) ?_
        refine lv_iload_n S.1 S.2.1 d_M_greet_31 rfl (lv_at hl 3 rfl) ?_
        cases hc32 : F_M_send n v1 v2 0 v3 st with
        | none => rw [hc32] at hF; cases hF
        | some u32 =>
          obtain ⟨r32, st32⟩ := u32
          rw [hc32] at hF
          replace hF := zbind hF
          refine zr_callV (rest := []) S zT_good (C_M_send hn hD l v1 v2 0 v3 st (r32, st32) hc32) zn_M_send zx_107 ⟨rfl, rfl⟩ ⟨Nat.le_of_ble_eq_true rfl, Nat.le_of_ble_eq_true rfl⟩ ⟨Nat.zero_le _, Nat.zero_le _⟩ hK (zr_recv hK hP zkm_0 rfl rfl) hP hl.1 (Nat.le_of_ble_eq_true rfl) hS (fun _ h => h) d_M_greet_32 rfl (fun o H locs hpo _ _ hS => ?_)
          obtain ⟨rfl, hP⟩ := hpo
          refine W.eq (g2 := F0 m 35 ls []) rfl ?_
          replace hF : F_M_greet_L2_s1 n (F_M_greet_L2 n f) v1 v2 v3 st32 = some out := hF
          replace hP : zV (dC, dI) zcl zKm ad (zmE n cI cZ ad) st32 H := hP
          unfold F_M_greet_L2_s1 at hF
          exact T_M_greet_L35 hn hD S hret hlk hK out (F_M_greet_L2 n f) ih v1 v2 v3 st32 _ _ _ hP hS (lv_sub hl [0, 1, 2, 3] rfl) hF

set_option maxHeartbeats 4000000 in
set_option maxRecDepth 1000000 in
theorem C_M_greet {dC : Nat → ClassId} {dI : Nat → Nat → Nat} {cI cZ cR cA : ClassId} {n : Nat} {ad : zK → Nat} {A : Nat → Prop} (hn : 2 ≤ n ∧ n ≤ 6) (hD : zD A zKm ad) (l : Launch) (v1 : Int32) (v2 : Int32) (st : zS) (out : Int32 × zS) (hF : F_M_greet n v1 v2 st = some out) : zC zT (dC, dI) zcl (zty cI cZ cR cA) A l y_M_greet b_M_greet 4 (none) rm_M_greet [.ref (ad (0, 0)), .int v1, .int v2] (fun H => zV (dC, dI) zcl zKm ad (zmE n cI cZ ad) st H) (fun o H => o = none ∧ zV (dC, dI) zcl zKm ad (zmE n cI cZ ad) out.2 H) := by
  refine zC_of (by decide) (Nat.le_of_ble_eq_true rfl) (fun p e s m args below meth c ls S hret hlk hK hP hl => ?_)
  have hS : va_S A s.heap s.heap [] := va_S.rf
  have hl : lv_has ls 4 [(0, .ref (ad (0, 0))), (1, .int v1), (2, .int v2)] := hl
  have hP : zV (dC, dI) zcl zKm ad (zmE n cI cZ ad) st s.heap := hP
  unfold F_M_greet at hF
  refine lv_iconst (v := 0) S.1 S.2.1 d_M_greet_0 (by decide) ?_
  refine lv_istore_n S.1 S.2.1 d_M_greet_1 rfl hl (by decide) rfl (fun ls hl => ?_)
  have hl : lv_has ls 4 [(3, .int 0), (0, .ref (ad (0, 0))), (1, .int v1), (2, .int v2)] := hl
  exact T_M_greet_L2 hn hD S hret hlk hK out zFuel v1 v2 0 st _ _ _ hP hS (lv_sub hl [1, 2, 3, 0] rfl) hF

theorem d_M_lose_0 : decode b_M_lose 0 = .ok (.iconst 0, 1) := by decide +kernel
theorem d_M_lose_1 : decode b_M_lose 1 = .ok (.istore_n 3, 1) := by decide +kernel
theorem d_M_lose_2 : decode b_M_lose 2 = .ok (.iload_n 3, 1) := by decide +kernel
theorem d_M_lose_3 : decode b_M_lose 3 = .ok (.aload_n 0, 1) := by decide +kernel
theorem d_M_lose_4 : decode b_M_lose 4 = .ok (.getfield 56, 3) := by decide +kernel
theorem d_M_lose_7 : decode b_M_lose 7 = .ok (.if_icmp .ge 184, 3) := by decide +kernel
theorem d_M_lose_10 : decode b_M_lose 10 = .ok (.bipush 6, 2) := by decide +kernel
theorem d_M_lose_12 : decode b_M_lose 12 = .ok (.iload_n 1, 1) := by decide +kernel
theorem d_M_lose_13 : decode b_M_lose 13 = .ok (.imul, 1) := by decide +kernel
theorem d_M_lose_14 : decode b_M_lose 14 = .ok (.iload_n 3, 1) := by decide +kernel
theorem d_M_lose_15 : decode b_M_lose 15 = .ok (.iadd, 1) := by decide +kernel
theorem d_M_lose_16 : decode b_M_lose 16 = .ok (.istore 4, 2) := by decide +kernel
theorem d_M_lose_18 : decode b_M_lose 18 = .ok (.iload_n 3, 1) := by decide +kernel
theorem d_M_lose_19 : decode b_M_lose 19 = .ok (.iload_n 1, 1) := by decide +kernel
theorem d_M_lose_20 : decode b_M_lose 20 = .ok (.if_icmp .eq 165, 3) := by decide +kernel
theorem d_M_lose_23 : decode b_M_lose 23 = .ok (.aload_n 0, 1) := by decide +kernel
theorem d_M_lose_24 : decode b_M_lose 24 = .ok (.getfield 19, 3) := by decide +kernel
theorem d_M_lose_27 : decode b_M_lose 27 = .ok (.iload 4, 2) := by decide +kernel
theorem d_M_lose_29 : decode b_M_lose 29 = .ok (.iaload, 1) := by decide +kernel
theorem d_M_lose_30 : decode b_M_lose 30 = .ok (.iload_n 2, 1) := by decide +kernel
theorem d_M_lose_31 : decode b_M_lose 31 = .ok (.if_icmp .ne 7, 3) := by decide +kernel
theorem d_M_lose_34 : decode b_M_lose 34 = .ok (.iconst 1, 1) := by decide +kernel
theorem d_M_lose_35 : decode b_M_lose 35 = .ok (.goto 4, 3) := by decide +kernel
theorem d_M_lose_38 : decode b_M_lose 38 = .ok (.iconst 0, 1) := by decide +kernel
theorem d_M_lose_39 : decode b_M_lose 39 = .ok (.istore 5, 2) := by decide +kernel
theorem d_M_lose_41 : decode b_M_lose 41 = .ok (.aload_n 0, 1) := by decide +kernel
theorem d_M_lose_42 : decode b_M_lose 42 = .ok (.getfield 32, 3) := by decide +kernel
theorem d_M_lose_45 : decode b_M_lose 45 = .ok (.bipush 36, 2) := by decide +kernel
theorem d_M_lose_47 : decode b_M_lose 47 = .ok (.iload_n 2, 1) := by decide +kernel
theorem d_M_lose_48 : decode b_M_lose 48 = .ok (.imul, 1) := by decide +kernel
theorem d_M_lose_49 : decode b_M_lose 49 = .ok (.iload 4, 2) := by decide +kernel
theorem d_M_lose_51 : decode b_M_lose 51 = .ok (.iadd, 1) := by decide +kernel
theorem d_M_lose_52 : decode b_M_lose 52 = .ok (.sipush 10000, 3) := by decide +kernel
theorem d_M_lose_55 : decode b_M_lose 55 = .ok (.iastore, 1) := by decide +kernel
theorem d_M_lose_56 : decode b_M_lose 56 = .ok (.aload_n 0, 1) := by decide +kernel
theorem d_M_lose_57 : decode b_M_lose 57 = .ok (.getfield 35, 3) := by decide +kernel
theorem d_M_lose_60 : decode b_M_lose 60 = .ok (.bipush 36, 2) := by decide +kernel
theorem d_M_lose_62 : decode b_M_lose 62 = .ok (.iload_n 2, 1) := by decide +kernel
theorem d_M_lose_63 : decode b_M_lose 63 = .ok (.imul, 1) := by decide +kernel
theorem d_M_lose_64 : decode b_M_lose 64 = .ok (.iload 4, 2) := by decide +kernel
theorem d_M_lose_66 : decode b_M_lose 66 = .ok (.iadd, 1) := by decide +kernel
theorem d_M_lose_67 : decode b_M_lose 67 = .ok (.iconst 0, 1) := by decide +kernel
theorem d_M_lose_68 : decode b_M_lose 68 = .ok (.bastore, 1) := by decide +kernel
theorem d_M_lose_69 : decode b_M_lose 69 = .ok (.aload_n 0, 1) := by decide +kernel
theorem d_M_lose_70 : decode b_M_lose 70 = .ok (.getfield 19, 3) := by decide +kernel
theorem d_M_lose_73 : decode b_M_lose 73 = .ok (.iload 4, 2) := by decide +kernel
theorem d_M_lose_75 : decode b_M_lose 75 = .ok (.iload 5, 2) := by decide +kernel
theorem d_M_lose_77 : decode b_M_lose 77 = .ok (.ifCond .eq 7, 3) := by decide +kernel
theorem d_M_lose_80 : decode b_M_lose 80 = .ok (.iconst (-1), 1) := by decide +kernel
theorem d_M_lose_81 : decode b_M_lose 81 = .ok (.goto 10, 3) := by decide +kernel
theorem d_M_lose_84 : decode b_M_lose 84 = .ok (.aload_n 0, 1) := by decide +kernel
theorem d_M_lose_85 : decode b_M_lose 85 = .ok (.getfield 19, 3) := by decide +kernel
theorem d_M_lose_88 : decode b_M_lose 88 = .ok (.iload 4, 2) := by decide +kernel
theorem d_M_lose_90 : decode b_M_lose 90 = .ok (.iaload, 1) := by decide +kernel
theorem d_M_lose_91 : decode b_M_lose 91 = .ok (.iastore, 1) := by decide +kernel
theorem d_M_lose_92 : decode b_M_lose 92 = .ok (.aload_n 0, 1) := by decide +kernel
theorem d_M_lose_93 : decode b_M_lose 93 = .ok (.getfield 22, 3) := by decide +kernel
theorem d_M_lose_96 : decode b_M_lose 96 = .ok (.iload 4, 2) := by decide +kernel
theorem d_M_lose_98 : decode b_M_lose 98 = .ok (.baload, 1) := by decide +kernel
theorem d_M_lose_99 : decode b_M_lose 99 = .ok (.ifCond .ne 13, 3) := by decide +kernel
theorem d_M_lose_102 : decode b_M_lose 102 = .ok (.aload_n 0, 1) := by decide +kernel
theorem d_M_lose_103 : decode b_M_lose 103 = .ok (.iload_n 1, 1) := by decide +kernel
theorem d_M_lose_104 : decode b_M_lose 104 = .ok (.iload_n 3, 1) := by decide +kernel
theorem d_M_lose_105 : decode b_M_lose 105 = .ok (.iconst (-1), 1) := by decide +kernel
theorem d_M_lose_106 : decode b_M_lose 106 = .ok (.invokevirtual 101, 3) := by decide +kernel
theorem d_M_lose_109 : decode b_M_lose 109 = .ok (.goto 76, 3) := by decide +kernel
theorem d_M_lose_112 : decode b_M_lose 112 = .ok (.aload_n 0, 1) := by decide +kernel
theorem d_M_lose_113 : decode b_M_lose 113 = .ok (.getfield 26, 3) := by decide +kernel
theorem d_M_lose_116 : decode b_M_lose 116 = .ok (.iload 4, 2) := by decide +kernel
theorem d_M_lose_118 : decode b_M_lose 118 = .ok (.aload_n 0, 1) := by decide +kernel
theorem d_M_lose_119 : decode b_M_lose 119 = .ok (.getfield 26, 3) := by decide +kernel
theorem d_M_lose_122 : decode b_M_lose 122 = .ok (.iload 4, 2) := by decide +kernel
theorem d_M_lose_124 : decode b_M_lose 124 = .ok (.baload, 1) := by decide +kernel
theorem d_M_lose_125 : decode b_M_lose 125 = .ok (.ifCond .eq 12, 3) := by decide +kernel
theorem d_M_lose_128 : decode b_M_lose 128 = .ok (.iload 5, 2) := by decide +kernel
theorem d_M_lose_130 : decode b_M_lose 130 = .ok (.ifCond .ne 7, 3) := by decide +kernel
theorem d_M_lose_133 : decode b_M_lose 133 = .ok (.iconst 1, 1) := by decide +kernel
theorem d_M_lose_134 : decode b_M_lose 134 = .ok (.goto 4, 3) := by decide +kernel
theorem d_M_lose_137 : decode b_M_lose 137 = .ok (.iconst 0, 1) := by decide +kernel
theorem d_M_lose_138 : decode b_M_lose 138 = .ok (.bastore, 1) := by decide +kernel
theorem d_M_lose_139 : decode b_M_lose 139 = .ok (.aload_n 0, 1) := by decide +kernel
theorem d_M_lose_140 : decode b_M_lose 140 = .ok (.getfield 29, 3) := by decide +kernel
theorem d_M_lose_143 : decode b_M_lose 143 = .ok (.iload 4, 2) := by decide +kernel
theorem d_M_lose_145 : decode b_M_lose 145 = .ok (.aload_n 0, 1) := by decide +kernel
theorem d_M_lose_146 : decode b_M_lose 146 = .ok (.getfield 29, 3) := by decide +kernel
theorem d_M_lose_149 : decode b_M_lose 149 = .ok (.iload 4, 2) := by decide +kernel
theorem d_M_lose_151 : decode b_M_lose 151 = .ok (.baload, 1) := by decide +kernel
theorem d_M_lose_152 : decode b_M_lose 152 = .ok (.ifCond .ne 21, 3) := by decide +kernel
theorem d_M_lose_155 : decode b_M_lose 155 = .ok (.iload 5, 2) := by decide +kernel
theorem d_M_lose_157 : decode b_M_lose 157 = .ok (.ifCond .eq 20, 3) := by decide +kernel
theorem d_M_lose_160 : decode b_M_lose 160 = .ok (.aload_n 0, 1) := by decide +kernel
theorem d_M_lose_161 : decode b_M_lose 161 = .ok (.getfield 13, 3) := by decide +kernel
theorem d_M_lose_164 : decode b_M_lose 164 = .ok (.iload 4, 2) := by decide +kernel
theorem d_M_lose_166 : decode b_M_lose 166 = .ok (.iaload, 1) := by decide +kernel
theorem d_M_lose_167 : decode b_M_lose 167 = .ok (.sipush 10000, 3) := by decide +kernel
theorem d_M_lose_170 : decode b_M_lose 170 = .ok (.if_icmp .ge 7, 3) := by decide +kernel
theorem d_M_lose_173 : decode b_M_lose 173 = .ok (.iconst 1, 1) := by decide +kernel
theorem d_M_lose_174 : decode b_M_lose 174 = .ok (.goto 4, 3) := by decide +kernel
theorem d_M_lose_177 : decode b_M_lose 177 = .ok (.iconst 0, 1) := by decide +kernel
theorem d_M_lose_178 : decode b_M_lose 178 = .ok (.bastore, 1) := by decide +kernel
theorem d_M_lose_179 : decode b_M_lose 179 = .ok (.aload_n 0, 1) := by decide +kernel
theorem d_M_lose_180 : decode b_M_lose 180 = .ok (.iload_n 1, 1) := by decide +kernel
theorem d_M_lose_181 : decode b_M_lose 181 = .ok (.iload_n 3, 1) := by decide +kernel
theorem d_M_lose_182 : decode b_M_lose 182 = .ok (.invokevirtual 105, 3) := by decide +kernel
theorem d_M_lose_185 : decode b_M_lose 185 = .ok (.iinc 3 1, 3) := by decide +kernel
theorem d_M_lose_188 : decode b_M_lose 188 = .ok (.goto (-186), 3) := by decide +kernel
theorem d_M_lose_191 : decode b_M_lose 191 = .ok (.return_, 1) := by decide +kernel
def F_M_lose_L185 (n : Nat) (c2 : Int32 → Int32 → Int32 → zS → Option (Int32 × zS)) (v1 : Int32) (v2 : Int32) (v3 : Int32) (st : zS) : Option (Int32 × zS) :=
    c2 v1 v2 (v3 + 1) st

def F_M_lose_L178_s2 (n : Nat) (c2 : Int32 → Int32 → Int32 → zS → Option (Int32 × zS)) (v1 : Int32) (v2 : Int32) (v3 : Int32) (st : zS) : Option (Int32 × zS) :=
    F_M_lose_L185 n c2 v1 v2 v3 st

def F_M_lose_L178_s1 (n : Nat) (c2 : Int32 → Int32 → Int32 → zS → Option (Int32 × zS)) (v1 : Int32) (v2 : Int32) (v3 : Int32) (st : zS) : Option (Int32 × zS) :=
    (F_M_endIfDone n v1 v3 st).bind (fun u => F_M_lose_L178_s2 n c2 v1 v2 v3 u.2)

def F_M_lose_L178 (n : Nat) (c2 : Int32 → Int32 → Int32 → zS → Option (Int32 × zS)) (v1 : Int32) (v2 : Int32) (v3 : Int32) (t1 : Int32) (t2 : Int32) (st : zS) : Option (Int32 × zS) :=
    if zOut t1 36 then none else if ¬ (t2 = 0 ∨ t2 = 1) then none else F_M_lose_L178_s1 n c2 v1 v2 v3 (zs st 7 0 (Int32.toNatClampNeg t1) t2)

def F_M_lose_L173 (n : Nat) (c2 : Int32 → Int32 → Int32 → zS → Option (Int32 × zS)) (v1 : Int32) (v2 : Int32) (v3 : Int32) (t1 : Int32) (st : zS) : Option (Int32 × zS) :=
    F_M_lose_L178 n c2 v1 v2 v3 t1 1 st

def F_M_lose_L177 (n : Nat) (c2 : Int32 → Int32 → Int32 → zS → Option (Int32 × zS)) (v1 : Int32) (v2 : Int32) (v3 : Int32) (t1 : Int32) (st : zS) : Option (Int32 × zS) :=
    F_M_lose_L178 n c2 v1 v2 v3 t1 0 st

def F_M_lose_L138_s1 (n : Nat) (c2 : Int32 → Int32 → Int32 → zS → Option (Int32 × zS)) (v1 : Int32) (v2 : Int32) (v3 : Int32) (v4 : Int32) (v5 : Int32) (st : zS) : Option (Int32 × zS) :=
    if zOut v4 36 then none else if (st 7 0 (Int32.toNatClampNeg v4)) = 0 then (if v5 = 0 then (F_M_lose_L177 n c2 v1 v2 v3 v4 st) else (if zOut v4 36 then none else if 10000 ≤ (st 2 0 (Int32.toNatClampNeg v4)) then (F_M_lose_L177 n c2 v1 v2 v3 v4 st) else (F_M_lose_L173 n c2 v1 v2 v3 v4 st))) else (F_M_lose_L173 n c2 v1 v2 v3 v4 st)

def F_M_lose_L138 (n : Nat) (c2 : Int32 → Int32 → Int32 → zS → Option (Int32 × zS)) (v1 : Int32) (v2 : Int32) (v3 : Int32) (v4 : Int32) (v5 : Int32) (t1 : Int32) (t2 : Int32) (st : zS) : Option (Int32 × zS) :=
    if zOut t1 36 then none else if ¬ (t2 = 0 ∨ t2 = 1) then none else F_M_lose_L138_s1 n c2 v1 v2 v3 v4 v5 (zs st 6 0 (Int32.toNatClampNeg t1) t2)

def F_M_lose_L137 (n : Nat) (c2 : Int32 → Int32 → Int32 → zS → Option (Int32 × zS)) (v1 : Int32) (v2 : Int32) (v3 : Int32) (v4 : Int32) (v5 : Int32) (t1 : Int32) (st : zS) : Option (Int32 × zS) :=
    F_M_lose_L138 n c2 v1 v2 v3 v4 v5 t1 0 st

def F_M_lose_L91_s2 (n : Nat) (c2 : Int32 → Int32 → Int32 → zS → Option (Int32 × zS)) (v1 : Int32) (v2 : Int32) (v3 : Int32) (st : zS) : Option (Int32 × zS) :=
    F_M_lose_L185 n c2 v1 v2 v3 st

def F_M_lose_L91_s1 (n : Nat) (c2 : Int32 → Int32 → Int32 → zS → Option (Int32 × zS)) (v1 : Int32) (v2 : Int32) (v3 : Int32) (v4 : Int32) (v5 : Int32) (st : zS) : Option (Int32 × zS) :=
    if zOut v4 36 then none else if (st 5 0 (Int32.toNatClampNeg v4)) = 0 then ((F_M_look n v1 v3 (-1) st).bind (fun u => F_M_lose_L91_s2 n c2 v1 v2 v3 u.2)) else (if zOut v4 36 then none else if (st 6 0 (Int32.toNatClampNeg v4)) = 0 then (F_M_lose_L137 n c2 v1 v2 v3 v4 v5 v4 st) else (if v5 = 0 then (F_M_lose_L138 n c2 v1 v2 v3 v4 v5 v4 1 st) else (F_M_lose_L137 n c2 v1 v2 v3 v4 v5 v4 st)))

def F_M_lose_L91 (n : Nat) (c2 : Int32 → Int32 → Int32 → zS → Option (Int32 × zS)) (v1 : Int32) (v2 : Int32) (v3 : Int32) (v4 : Int32) (v5 : Int32) (t1 : Int32) (t2 : Int32) (st : zS) : Option (Int32 × zS) :=
    if zOut t1 36 then none else F_M_lose_L91_s1 n c2 v1 v2 v3 v4 v5 (zs st 4 0 (Int32.toNatClampNeg t1) t2)

def F_M_lose_L39_s2 (n : Nat) (c2 : Int32 → Int32 → Int32 → zS → Option (Int32 × zS)) (v5 : Int32) (v1 : Int32) (v2 : Int32) (v3 : Int32) (v4 : Int32) (st : zS) : Option (Int32 × zS) :=
    if v5 = 0 then (if zOut v4 36 then none else F_M_lose_L91 n c2 v1 v2 v3 v4 v5 v4 (st 4 0 (Int32.toNatClampNeg v4)) st) else (F_M_lose_L91 n c2 v1 v2 v3 v4 v5 v4 (-1) st)

def F_M_lose_L39_s1 (n : Nat) (c2 : Int32 → Int32 → Int32 → zS → Option (Int32 × zS)) (v5 : Int32) (v1 : Int32) (v2 : Int32) (v3 : Int32) (v4 : Int32) (st : zS) : Option (Int32 × zS) :=
    if zOut ((36 * v2) + v4) 216 then none else F_M_lose_L39_s2 n c2 v5 v1 v2 v3 v4 (zs st 9 0 (Int32.toNatClampNeg ((36 * v2) + v4)) 0)

def F_M_lose_L39 (n : Nat) (c2 : Int32 → Int32 → Int32 → zS → Option (Int32 × zS)) (v1 : Int32) (v2 : Int32) (v3 : Int32) (v4 : Int32) (t0 : Int32) (st : zS) : Option (Int32 × zS) :=
    if zOut ((36 * v2) + v4) 216 then none else F_M_lose_L39_s1 n c2 t0 v1 v2 v3 v4 (zs st 8 0 (Int32.toNatClampNeg ((36 * v2) + v4)) 10000)

def F_M_lose_L2 (n : Nat) : Nat → Int32 → Int32 → Int32 → zS → Option (Int32 × zS)
  | 0, _, _, _, _ => none
  | f + 1, v1, v2, v3, st =>
    if (nI n) ≤ v3 then (some (0, st)) else (if v3 = v1 then (F_M_lose_L185 n (F_M_lose_L2 n f) v1 v2 v3 st) else (if zOut ((6 * v1) + v3) 36 then none else if (st 4 0 (Int32.toNatClampNeg ((6 * v1) + v3))) = v2 then (F_M_lose_L39 n (F_M_lose_L2 n f) v1 v2 v3 ((6 * v1) + v3) 1 st) else (F_M_lose_L39 n (F_M_lose_L2 n f) v1 v2 v3 ((6 * v1) + v3) 0 st)))

def F_M_lose (n : Nat) (v1 : Int32) (v2 : Int32) (st : zS) : Option (Int32 × zS) :=
    F_M_lose_L2 n zFuel v1 v2 0 st

set_option maxHeartbeats 4000000 in
set_option maxRecDepth 1000000 in
theorem T_M_lose_L185 {dC : Nat → ClassId} {dI : Nat → Nat → Nat} {cI cZ cR cA : ClassId} {n : Nat} {ad : zK → Nat} {A : Nat → Prop} (hn : 2 ≤ n ∧ n ≤ 6) (hD : zD A zKm ad) {p : Program} {l : Launch} {e : Env} {s : State} {m : MethodId} {args : Array Value} {below : List Frame} {meth : Method} {c : Code} (S : CallFix p m c b_M_lose 6 s args zT N_M) (hret : meth.sig.returnType = none) (hlk : meth.locks = false) (hK : va_K (dC, dI) zcl (zty cI cZ cR cA) s) (out : Int32 × zS) (c2 : Int32 → Int32 → Int32 → zS → Option (Int32 × zS)) (hc2 : ∀ (v1 : Int32) (v2 : Int32) (v3 : Int32) (st : zS) (H : Heap) (locs : List Loc) (ls : Array Slot), zV (dC, dI) zcl zKm ad (zmE n cI cZ ad) st H → va_S A s.heap H locs → lv_has ls 6 [(0, .ref (ad (0, 0))), (1, .int v1), (2, .int v2), (3, .int v3)] → c2 v1 v2 v3 st = some out → W p l e rm_M_lose s m args below meth c H locs 0 0 (zQ below A (fun o H => o = none ∧ zV (dC, dI) zcl zKm ad (zmE n cI cZ ad) out.2 H) args s) (F0 m 2 ls [])) (v1 : Int32) (v2 : Int32) (v3 : Int32) (st : zS) (H : Heap) (locs : List Loc) (ls : Array Slot) (hP : zV (dC, dI) zcl zKm ad (zmE n cI cZ ad) st H) (hS : va_S A s.heap H locs) (hl : lv_has ls 6 [(0, .ref (ad (0, 0))), (1, .int v1), (2, .int v2), (3, .int v3)]) (hF : F_M_lose_L185 n c2 v1 v2 v3 st = some out) : W p l e rm_M_lose s m args below meth c H locs 0 0 (zQ below A (fun o H => o = none ∧ zV (dC, dI) zcl zKm ad (zmE n cI cZ ad) out.2 H) args s) (F0 m 185 ls []) := by
  unfold F_M_lose_L185 at hF
  refine lv_iinc (k := 3) (v := v3 + 1) S.1 S.2.1 d_M_lose_185 hl rfl rfl (by decide) rfl (fun ls hl => ?_)
  have hl : lv_has ls 6 [(3, .int (v3 + 1)), (0, .ref (ad (0, 0))), (1, .int v1), (2, .int v2)] := hl
  refine lv_goto (tgt := 2) S.1 S.2.1 d_M_lose_188 (by decide) ?_
  exact hc2 v1 v2 (v3 + 1) st _ _ _ hP hS (lv_sub hl [1, 2, 3, 0] rfl) hF

set_option maxHeartbeats 4000000 in
set_option maxRecDepth 1000000 in
theorem T_M_lose_L178 {dC : Nat → ClassId} {dI : Nat → Nat → Nat} {cI cZ cR cA : ClassId} {n : Nat} {ad : zK → Nat} {A : Nat → Prop} (hn : 2 ≤ n ∧ n ≤ 6) (hD : zD A zKm ad) {p : Program} {l : Launch} {e : Env} {s : State} {m : MethodId} {args : Array Value} {below : List Frame} {meth : Method} {c : Code} (S : CallFix p m c b_M_lose 6 s args zT N_M) (hret : meth.sig.returnType = none) (hlk : meth.locks = false) (hK : va_K (dC, dI) zcl (zty cI cZ cR cA) s) (out : Int32 × zS) (c2 : Int32 → Int32 → Int32 → zS → Option (Int32 × zS)) (hc2 : ∀ (v1 : Int32) (v2 : Int32) (v3 : Int32) (st : zS) (H : Heap) (locs : List Loc) (ls : Array Slot), zV (dC, dI) zcl zKm ad (zmE n cI cZ ad) st H → va_S A s.heap H locs → lv_has ls 6 [(0, .ref (ad (0, 0))), (1, .int v1), (2, .int v2), (3, .int v3)] → c2 v1 v2 v3 st = some out → W p l e rm_M_lose s m args below meth c H locs 0 0 (zQ below A (fun o H => o = none ∧ zV (dC, dI) zcl zKm ad (zmE n cI cZ ad) out.2 H) args s) (F0 m 2 ls [])) (v1 : Int32) (v2 : Int32) (v3 : Int32) (t1 : Int32) (t2 : Int32) (st : zS) (H : Heap) (locs : List Loc) (ls : Array Slot) (hP : zV (dC, dI) zcl zKm ad (zmE n cI cZ ad) st H) (hS : va_S A s.heap H locs) (hl : lv_has ls 6 [(0, .ref (ad (0, 0))), (1, .int v1), (2, .int v2), (3, .int v3)]) (hF : F_M_lose_L178 n c2 v1 v2 v3 t1 t2 st = some out) : W p l e rm_M_lose s m args below meth c H locs 0 0 (zQ below A (fun o H => o = none ∧ zV (dC, dI) zcl zKm ad (zmE n cI cZ ad) out.2 H) args s) (F0 m 178 ls [.int t2, .int t1, .ref (ad (7, 0))]) := by
  unfold F_M_lose_L178 at hF
  by_cases g178 : zOut t1 36
  · rw [if_pos g178] at hF; cases hF
  rw [if_neg g178] at hF
  by_cases b178 : ¬ (t2 = 0 ∨ t2 = 1)
  · rw [if_pos b178] at hF; cases hF
  rw [if_neg b178] at hF
  refine zr_zast S hK hP hD hS zkm_7 (fun _ => rfl) 1 rfl g178 (Decidable.not_not.mp b178) d_M_lose_178 (fun H locs hP hS => ?_)
  replace hF : F_M_lose_L178_s1 n c2 v1 v2 v3 (zs st 7 0 (Int32.toNatClampNeg t1) t2) = some out := hF
  generalize zs st 7 0 (Int32.toNatClampNeg t1) t2 = st179 at hP hF
  unfold F_M_lose_L178_s1 at hF
  refine lv_aload_n S.1 S.2.1 d_M_lose_179 rfl (lv_at hl 0 rfl) ?_
  refine lv_iload_n S.1 S.2.1 d_M_lose_180 rfl (lv_at hl 1 rfl) ?_
  refine lv_iload_n S.1 S.2.1 d_M_lose_181 rfl (lv_at hl 3 rfl) ?_
  cases hc182 : F_M_endIfDone n v1 v3 st179 with
  | none => rw [hc182] at hF; cases hF
  | some u182 =>
    obtain ⟨r182, st182⟩ := u182
    rw [hc182] at hF
    replace hF := zbind hF
    refine zr_callV (rest := []) S zT_good (C_M_endIfDone hn hD l v1 v3 st179 (r182, st182) hc182) zn_M_endIfDone zx_96 ⟨rfl, rfl⟩ ⟨Nat.le_of_ble_eq_true rfl, Nat.le_of_ble_eq_true rfl⟩ ⟨Nat.zero_le _, Nat.zero_le _⟩ hK (zr_recv hK hP zkm_0 rfl rfl) hP hl.1 (Nat.le_of_ble_eq_true rfl) hS (fun _ h => h) d_M_lose_182 rfl (fun o H locs hpo _ _ hS => ?_)
    obtain ⟨rfl, hP⟩ := hpo
    refine W.eq (g2 := F0 m 185 ls []) rfl ?_
    replace hF : F_M_lose_L178_s2 n c2 v1 v2 v3 st182 = some out := hF
    replace hP : zV (dC, dI) zcl zKm ad (zmE n cI cZ ad) st182 H := hP
    unfold F_M_lose_L178_s2 at hF
    exact T_M_lose_L185 hn hD S hret hlk hK out c2 hc2 v1 v2 v3 st182 _ _ _ hP hS (lv_sub hl [0, 1, 2, 3] rfl) hF

set_option maxHeartbeats 4000000 in
set_option maxRecDepth 1000000 in
theorem T_M_lose_L173 {dC : Nat → ClassId} {dI : Nat → Nat → Nat} {cI cZ cR cA : ClassId} {n : Nat} {ad : zK → Nat} {A : Nat → Prop} (hn : 2 ≤ n ∧ n ≤ 6) (hD : zD A zKm ad) {p : Program} {l : Launch} {e : Env} {s : State} {m : MethodId} {args : Array Value} {below : List Frame} {meth : Method} {c : Code} (S : CallFix p m c b_M_lose 6 s args zT N_M) (hret : meth.sig.returnType = none) (hlk : meth.locks = false) (hK : va_K (dC, dI) zcl (zty cI cZ cR cA) s) (out : Int32 × zS) (c2 : Int32 → Int32 → Int32 → zS → Option (Int32 × zS)) (hc2 : ∀ (v1 : Int32) (v2 : Int32) (v3 : Int32) (st : zS) (H : Heap) (locs : List Loc) (ls : Array Slot), zV (dC, dI) zcl zKm ad (zmE n cI cZ ad) st H → va_S A s.heap H locs → lv_has ls 6 [(0, .ref (ad (0, 0))), (1, .int v1), (2, .int v2), (3, .int v3)] → c2 v1 v2 v3 st = some out → W p l e rm_M_lose s m args below meth c H locs 0 0 (zQ below A (fun o H => o = none ∧ zV (dC, dI) zcl zKm ad (zmE n cI cZ ad) out.2 H) args s) (F0 m 2 ls [])) (v1 : Int32) (v2 : Int32) (v3 : Int32) (t1 : Int32) (st : zS) (H : Heap) (locs : List Loc) (ls : Array Slot) (hP : zV (dC, dI) zcl zKm ad (zmE n cI cZ ad) st H) (hS : va_S A s.heap H locs) (hl : lv_has ls 6 [(0, .ref (ad (0, 0))), (1, .int v1), (2, .int v2), (3, .int v3)]) (hF : F_M_lose_L173 n c2 v1 v2 v3 t1 st = some out) : W p l e rm_M_lose s m args below meth c H locs 0 0 (zQ below A (fun o H => o = none ∧ zV (dC, dI) zcl zKm ad (zmE n cI cZ ad) out.2 H) args s) (F0 m 173 ls [.int t1, .ref (ad (7, 0))]) := by
  unfold F_M_lose_L173 at hF
  refine lv_iconst (v := 1) S.1 S.2.1 d_M_lose_173 (by decide) ?_
  refine lv_goto (tgt := 178) S.1 S.2.1 d_M_lose_174 (by decide) ?_
  exact T_M_lose_L178 hn hD S hret hlk hK out c2 hc2 v1 v2 v3 t1 1 st _ _ _ hP hS (lv_sub hl [0, 1, 2, 3] rfl) hF

set_option maxHeartbeats 4000000 in
set_option maxRecDepth 1000000 in
theorem T_M_lose_L177 {dC : Nat → ClassId} {dI : Nat → Nat → Nat} {cI cZ cR cA : ClassId} {n : Nat} {ad : zK → Nat} {A : Nat → Prop} (hn : 2 ≤ n ∧ n ≤ 6) (hD : zD A zKm ad) {p : Program} {l : Launch} {e : Env} {s : State} {m : MethodId} {args : Array Value} {below : List Frame} {meth : Method} {c : Code} (S : CallFix p m c b_M_lose 6 s args zT N_M) (hret : meth.sig.returnType = none) (hlk : meth.locks = false) (hK : va_K (dC, dI) zcl (zty cI cZ cR cA) s) (out : Int32 × zS) (c2 : Int32 → Int32 → Int32 → zS → Option (Int32 × zS)) (hc2 : ∀ (v1 : Int32) (v2 : Int32) (v3 : Int32) (st : zS) (H : Heap) (locs : List Loc) (ls : Array Slot), zV (dC, dI) zcl zKm ad (zmE n cI cZ ad) st H → va_S A s.heap H locs → lv_has ls 6 [(0, .ref (ad (0, 0))), (1, .int v1), (2, .int v2), (3, .int v3)] → c2 v1 v2 v3 st = some out → W p l e rm_M_lose s m args below meth c H locs 0 0 (zQ below A (fun o H => o = none ∧ zV (dC, dI) zcl zKm ad (zmE n cI cZ ad) out.2 H) args s) (F0 m 2 ls [])) (v1 : Int32) (v2 : Int32) (v3 : Int32) (t1 : Int32) (st : zS) (H : Heap) (locs : List Loc) (ls : Array Slot) (hP : zV (dC, dI) zcl zKm ad (zmE n cI cZ ad) st H) (hS : va_S A s.heap H locs) (hl : lv_has ls 6 [(0, .ref (ad (0, 0))), (1, .int v1), (2, .int v2), (3, .int v3)]) (hF : F_M_lose_L177 n c2 v1 v2 v3 t1 st = some out) : W p l e rm_M_lose s m args below meth c H locs 0 0 (zQ below A (fun o H => o = none ∧ zV (dC, dI) zcl zKm ad (zmE n cI cZ ad) out.2 H) args s) (F0 m 177 ls [.int t1, .ref (ad (7, 0))]) := by
  unfold F_M_lose_L177 at hF
  refine lv_iconst (v := 0) S.1 S.2.1 d_M_lose_177 (by decide) ?_
  exact T_M_lose_L178 hn hD S hret hlk hK out c2 hc2 v1 v2 v3 t1 0 st _ _ _ hP hS (lv_sub hl [0, 1, 2, 3] rfl) hF

set_option maxHeartbeats 4000000 in
set_option maxRecDepth 1000000 in
theorem T_M_lose_L138 {dC : Nat → ClassId} {dI : Nat → Nat → Nat} {cI cZ cR cA : ClassId} {n : Nat} {ad : zK → Nat} {A : Nat → Prop} (hn : 2 ≤ n ∧ n ≤ 6) (hD : zD A zKm ad) {p : Program} {l : Launch} {e : Env} {s : State} {m : MethodId} {args : Array Value} {below : List Frame} {meth : Method} {c : Code} (S : CallFix p m c b_M_lose 6 s args zT N_M) (hret : meth.sig.returnType = none) (hlk : meth.locks = false) (hK : va_K (dC, dI) zcl (zty cI cZ cR cA) s) (out : Int32 × zS) (c2 : Int32 → Int32 → Int32 → zS → Option (Int32 × zS)) (hc2 : ∀ (v1 : Int32) (v2 : Int32) (v3 : Int32) (st : zS) (H : Heap) (locs : List Loc) (ls : Array Slot), zV (dC, dI) zcl zKm ad (zmE n cI cZ ad) st H → va_S A s.heap H locs → lv_has ls 6 [(0, .ref (ad (0, 0))), (1, .int v1), (2, .int v2), (3, .int v3)] → c2 v1 v2 v3 st = some out → W p l e rm_M_lose s m args below meth c H locs 0 0 (zQ below A (fun o H => o = none ∧ zV (dC, dI) zcl zKm ad (zmE n cI cZ ad) out.2 H) args s) (F0 m 2 ls [])) (v1 : Int32) (v2 : Int32) (v3 : Int32) (v4 : Int32) (v5 : Int32) (t1 : Int32) (t2 : Int32) (st : zS) (H : Heap) (locs : List Loc) (ls : Array Slot) (hP : zV (dC, dI) zcl zKm ad (zmE n cI cZ ad) st H) (hS : va_S A s.heap H locs) (hl : lv_has ls 6 [(0, .ref (ad (0, 0))), (1, .int v1), (2, .int v2), (3, .int v3), (4, .int v4), (5, .int v5)]) (hF : F_M_lose_L138 n c2 v1 v2 v3 v4 v5 t1 t2 st = some out) : W p l e rm_M_lose s m args below meth c H locs 0 0 (zQ below A (fun o H => o = none ∧ zV (dC, dI) zcl zKm ad (zmE n cI cZ ad) out.2 H) args s) (F0 m 138 ls [.int t2, .int t1, .ref (ad (6, 0))]) := by
  unfold F_M_lose_L138 at hF
  by_cases g138 : zOut t1 36
  · rw [if_pos g138] at hF; cases hF
  rw [if_neg g138] at hF
  by_cases b138 : ¬ (t2 = 0 ∨ t2 = 1)
  · rw [if_pos b138] at hF; cases hF
  rw [if_neg b138] at hF
  refine zr_zast S hK hP hD hS zkm_6 (fun _ => rfl) 1 rfl g138 (Decidable.not_not.mp b138) d_M_lose_138 (fun H locs hP hS => ?_)
  replace hF : F_M_lose_L138_s1 n c2 v1 v2 v3 v4 v5 (zs st 6 0 (Int32.toNatClampNeg t1) t2) = some out := hF
  generalize zs st 6 0 (Int32.toNatClampNeg t1) t2 = st139 at hP hF
  unfold F_M_lose_L138_s1 at hF
  refine lv_aload_n S.1 S.2.1 d_M_lose_139 rfl (lv_at hl 0 rfl) ?_
  refine zr_get (v := .ref (ad (7, 0))) S zi_M hK hP zkm_0 rfl rfl 7 (by decide) zx_30 rfl d_M_lose_140 ?_
  refine lv_iload S.1 S.2.1 d_M_lose_143 (lv_at hl 4 rfl) ?_
  refine lv_aload_n S.1 S.2.1 d_M_lose_145 rfl (lv_at hl 0 rfl) ?_
  refine zr_get (v := .ref (ad (7, 0))) S zi_M hK hP zkm_0 rfl rfl 7 (by decide) zx_30 rfl d_M_lose_146 ?_
  refine lv_iload S.1 S.2.1 d_M_lose_149 (lv_at hl 4 rfl) ?_
  by_cases g151 : zOut v4 36
  · rw [if_pos g151] at hF; cases hF
  rw [if_neg g151] at hF
  refine zr_zald S hK hP zkm_7 rfl 1 rfl g151 d_M_lose_151 ?_
  refine lv_if_ne (tgt := 173) S.1 S.2.1 d_M_lose_152 (by decide) (fun h152 => ?_) (fun h152 => ?_)
  · rw [if_neg h152] at hF
    exact T_M_lose_L173 hn hD S hret hlk hK out c2 hc2 v1 v2 v3 v4 st139 _ _ _ hP hS (lv_sub hl [0, 1, 2, 3] rfl) hF
  · rw [if_pos h152] at hF
    refine lv_iload S.1 S.2.1 d_M_lose_155 (lv_at hl 5 rfl) ?_
    refine lv_if_eq (tgt := 177) S.1 S.2.1 d_M_lose_157 (by decide) (fun h157 => ?_) (fun h157 => ?_)
    · rw [if_pos h157] at hF
      exact T_M_lose_L177 hn hD S hret hlk hK out c2 hc2 v1 v2 v3 v4 st139 _ _ _ hP hS (lv_sub hl [0, 1, 2, 3] rfl) hF
    · rw [if_neg h157] at hF
      refine lv_aload_n S.1 S.2.1 d_M_lose_160 rfl (lv_at hl 0 rfl) ?_
      refine zr_get (v := .ref (ad (2, 0))) S zi_M hK hP zkm_0 rfl rfl 2 (by decide) zx_25 rfl d_M_lose_161 ?_
      refine lv_iload S.1 S.2.1 d_M_lose_164 (lv_at hl 4 rfl) ?_
      by_cases g166 : zOut v4 36
      · rw [if_pos g166] at hF; cases hF
      rw [if_neg g166] at hF
      refine zr_iald S hK hP zkm_2 rfl 0 rfl g166 d_M_lose_166 ?_
      refine lv_sipush (v := 10000) S.1 S.2.1 d_M_lose_167 (by decide) ?_
      refine lv_icmp_ge (tgt := 177) S.1 S.2.1 d_M_lose_170 (by decide) (fun h170 => ?_) (fun h170 => ?_)
      · rw [if_pos h170] at hF
        exact T_M_lose_L177 hn hD S hret hlk hK out c2 hc2 v1 v2 v3 v4 st139 _ _ _ hP hS (lv_sub hl [0, 1, 2, 3] rfl) hF
      · rw [if_neg h170] at hF
        exact T_M_lose_L173 hn hD S hret hlk hK out c2 hc2 v1 v2 v3 v4 st139 _ _ _ hP hS (lv_sub hl [0, 1, 2, 3] rfl) hF

set_option maxHeartbeats 4000000 in
set_option maxRecDepth 1000000 in
theorem T_M_lose_L137 {dC : Nat → ClassId} {dI : Nat → Nat → Nat} {cI cZ cR cA : ClassId} {n : Nat} {ad : zK → Nat} {A : Nat → Prop} (hn : 2 ≤ n ∧ n ≤ 6) (hD : zD A zKm ad) {p : Program} {l : Launch} {e : Env} {s : State} {m : MethodId} {args : Array Value} {below : List Frame} {meth : Method} {c : Code} (S : CallFix p m c b_M_lose 6 s args zT N_M) (hret : meth.sig.returnType = none) (hlk : meth.locks = false) (hK : va_K (dC, dI) zcl (zty cI cZ cR cA) s) (out : Int32 × zS) (c2 : Int32 → Int32 → Int32 → zS → Option (Int32 × zS)) (hc2 : ∀ (v1 : Int32) (v2 : Int32) (v3 : Int32) (st : zS) (H : Heap) (locs : List Loc) (ls : Array Slot), zV (dC, dI) zcl zKm ad (zmE n cI cZ ad) st H → va_S A s.heap H locs → lv_has ls 6 [(0, .ref (ad (0, 0))), (1, .int v1), (2, .int v2), (3, .int v3)] → c2 v1 v2 v3 st = some out → W p l e rm_M_lose s m args below meth c H locs 0 0 (zQ below A (fun o H => o = none ∧ zV (dC, dI) zcl zKm ad (zmE n cI cZ ad) out.2 H) args s) (F0 m 2 ls [])) (v1 : Int32) (v2 : Int32) (v3 : Int32) (v4 : Int32) (v5 : Int32) (t1 : Int32) (st : zS) (H : Heap) (locs : List Loc) (ls : Array Slot) (hP : zV (dC, dI) zcl zKm ad (zmE n cI cZ ad) st H) (hS : va_S A s.heap H locs) (hl : lv_has ls 6 [(0, .ref (ad (0, 0))), (1, .int v1), (2, .int v2), (3, .int v3), (4, .int v4), (5, .int v5)]) (hF : F_M_lose_L137 n c2 v1 v2 v3 v4 v5 t1 st = some out) : W p l e rm_M_lose s m args below meth c H locs 0 0 (zQ below A (fun o H => o = none ∧ zV (dC, dI) zcl zKm ad (zmE n cI cZ ad) out.2 H) args s) (F0 m 137 ls [.int t1, .ref (ad (6, 0))]) := by
  unfold F_M_lose_L137 at hF
  refine lv_iconst (v := 0) S.1 S.2.1 d_M_lose_137 (by decide) ?_
  exact T_M_lose_L138 hn hD S hret hlk hK out c2 hc2 v1 v2 v3 v4 v5 t1 0 st _ _ _ hP hS (lv_sub hl [0, 1, 2, 3, 4, 5] rfl) hF

set_option maxHeartbeats 4000000 in
set_option maxRecDepth 1000000 in
theorem T_M_lose_L91 {dC : Nat → ClassId} {dI : Nat → Nat → Nat} {cI cZ cR cA : ClassId} {n : Nat} {ad : zK → Nat} {A : Nat → Prop} (hn : 2 ≤ n ∧ n ≤ 6) (hD : zD A zKm ad) {p : Program} {l : Launch} {e : Env} {s : State} {m : MethodId} {args : Array Value} {below : List Frame} {meth : Method} {c : Code} (S : CallFix p m c b_M_lose 6 s args zT N_M) (hret : meth.sig.returnType = none) (hlk : meth.locks = false) (hK : va_K (dC, dI) zcl (zty cI cZ cR cA) s) (out : Int32 × zS) (c2 : Int32 → Int32 → Int32 → zS → Option (Int32 × zS)) (hc2 : ∀ (v1 : Int32) (v2 : Int32) (v3 : Int32) (st : zS) (H : Heap) (locs : List Loc) (ls : Array Slot), zV (dC, dI) zcl zKm ad (zmE n cI cZ ad) st H → va_S A s.heap H locs → lv_has ls 6 [(0, .ref (ad (0, 0))), (1, .int v1), (2, .int v2), (3, .int v3)] → c2 v1 v2 v3 st = some out → W p l e rm_M_lose s m args below meth c H locs 0 0 (zQ below A (fun o H => o = none ∧ zV (dC, dI) zcl zKm ad (zmE n cI cZ ad) out.2 H) args s) (F0 m 2 ls [])) (v1 : Int32) (v2 : Int32) (v3 : Int32) (v4 : Int32) (v5 : Int32) (t1 : Int32) (t2 : Int32) (st : zS) (H : Heap) (locs : List Loc) (ls : Array Slot) (hP : zV (dC, dI) zcl zKm ad (zmE n cI cZ ad) st H) (hS : va_S A s.heap H locs) (hl : lv_has ls 6 [(0, .ref (ad (0, 0))), (1, .int v1), (2, .int v2), (3, .int v3), (4, .int v4), (5, .int v5)]) (hF : F_M_lose_L91 n c2 v1 v2 v3 v4 v5 t1 t2 st = some out) : W p l e rm_M_lose s m args below meth c H locs 0 0 (zQ below A (fun o H => o = none ∧ zV (dC, dI) zcl zKm ad (zmE n cI cZ ad) out.2 H) args s) (F0 m 91 ls [.int t2, .int t1, .ref (ad (4, 0))]) := by
  unfold F_M_lose_L91 at hF
  by_cases g91 : zOut t1 36
  · rw [if_pos g91] at hF; cases hF
  rw [if_neg g91] at hF
  refine zr_iast S hK hP hD hS zkm_4 (fun _ => rfl) 0 rfl g91 d_M_lose_91 (fun H locs hP hS => ?_)
  replace hF : F_M_lose_L91_s1 n c2 v1 v2 v3 v4 v5 (zs st 4 0 (Int32.toNatClampNeg t1) t2) = some out := hF
  generalize zs st 4 0 (Int32.toNatClampNeg t1) t2 = st92 at hP hF
  unfold F_M_lose_L91_s1 at hF
  refine lv_aload_n S.1 S.2.1 d_M_lose_92 rfl (lv_at hl 0 rfl) ?_
  refine zr_get (v := .ref (ad (5, 0))) S zi_M hK hP zkm_0 rfl rfl 5 (by decide) zx_28 rfl d_M_lose_93 ?_
  refine lv_iload S.1 S.2.1 d_M_lose_96 (lv_at hl 4 rfl) ?_
  by_cases g98 : zOut v4 36
  · rw [if_pos g98] at hF; cases hF
  rw [if_neg g98] at hF
  refine zr_zald S hK hP zkm_5 rfl 1 rfl g98 d_M_lose_98 ?_
  refine lv_if_ne (tgt := 112) S.1 S.2.1 d_M_lose_99 (by decide) (fun h99 => ?_) (fun h99 => ?_)
  · rw [if_neg h99] at hF
    refine lv_aload_n S.1 S.2.1 d_M_lose_112 rfl (lv_at hl 0 rfl) ?_
    refine zr_get (v := .ref (ad (6, 0))) S zi_M hK hP zkm_0 rfl rfl 6 (by decide) zx_29 rfl d_M_lose_113 ?_
    refine lv_iload S.1 S.2.1 d_M_lose_116 (lv_at hl 4 rfl) ?_
    refine lv_aload_n S.1 S.2.1 d_M_lose_118 rfl (lv_at hl 0 rfl) ?_
    refine zr_get (v := .ref (ad (6, 0))) S zi_M hK hP zkm_0 rfl rfl 6 (by decide) zx_29 rfl d_M_lose_119 ?_
    refine lv_iload S.1 S.2.1 d_M_lose_122 (lv_at hl 4 rfl) ?_
    by_cases g124 : zOut v4 36
    · rw [if_pos g124] at hF; cases hF
    rw [if_neg g124] at hF
    refine zr_zald S hK hP zkm_6 rfl 1 rfl g124 d_M_lose_124 ?_
    refine lv_if_eq (tgt := 137) S.1 S.2.1 d_M_lose_125 (by decide) (fun h125 => ?_) (fun h125 => ?_)
    · rw [if_pos h125] at hF
      exact T_M_lose_L137 hn hD S hret hlk hK out c2 hc2 v1 v2 v3 v4 v5 v4 st92 _ _ _ hP hS (lv_sub hl [0, 1, 2, 3, 4, 5] rfl) hF
    · rw [if_neg h125] at hF
      refine lv_iload S.1 S.2.1 d_M_lose_128 (lv_at hl 5 rfl) ?_
      refine lv_if_ne (tgt := 137) S.1 S.2.1 d_M_lose_130 (by decide) (fun h130 => ?_) (fun h130 => ?_)
      · rw [if_neg h130] at hF
        exact T_M_lose_L137 hn hD S hret hlk hK out c2 hc2 v1 v2 v3 v4 v5 v4 st92 _ _ _ hP hS (lv_sub hl [0, 1, 2, 3, 4, 5] rfl) hF
      · rw [if_pos h130] at hF
        refine lv_iconst (v := 1) S.1 S.2.1 d_M_lose_133 (by decide) ?_
        refine lv_goto (tgt := 138) S.1 S.2.1 d_M_lose_134 (by decide) ?_
        exact T_M_lose_L138 hn hD S hret hlk hK out c2 hc2 v1 v2 v3 v4 v5 v4 1 st92 _ _ _ hP hS (lv_sub hl [0, 1, 2, 3, 4, 5] rfl) hF
  · rw [if_pos h99] at hF
    refine lv_aload_n S.1 S.2.1 d_M_lose_102 rfl (lv_at hl 0 rfl) ?_
    refine lv_iload_n S.1 S.2.1 d_M_lose_103 rfl (lv_at hl 1 rfl) ?_
    refine lv_iload_n S.1 S.2.1 d_M_lose_104 rfl (lv_at hl 3 rfl) ?_
    refine lv_iconst (v := (-1)) S.1 S.2.1 d_M_lose_105 (by decide) ?_
    cases hc106 : F_M_look n v1 v3 (-1) st92 with
    | none => rw [hc106] at hF; cases hF
    | some u106 =>
      obtain ⟨r106, st106⟩ := u106
      rw [hc106] at hF
      replace hF := zbind hF
      refine zr_callV (rest := []) S zT_good (C_M_look hn hD l v1 v3 (-1) st92 (r106, st106) hc106) zn_M_look zx_95 ⟨rfl, rfl⟩ ⟨Nat.le_of_ble_eq_true rfl, Nat.le_of_ble_eq_true rfl⟩ ⟨Nat.zero_le _, Nat.zero_le _⟩ hK (zr_recv hK hP zkm_0 rfl rfl) hP hl.1 (Nat.le_of_ble_eq_true rfl) hS (fun _ h => h) d_M_lose_106 rfl (fun o H locs hpo _ _ hS => ?_)
      obtain ⟨rfl, hP⟩ := hpo
      refine W.eq (g2 := F0 m 109 ls []) rfl ?_
      replace hF : F_M_lose_L91_s2 n c2 v1 v2 v3 st106 = some out := hF
      replace hP : zV (dC, dI) zcl zKm ad (zmE n cI cZ ad) st106 H := hP
      unfold F_M_lose_L91_s2 at hF
      refine lv_goto (tgt := 185) S.1 S.2.1 d_M_lose_109 (by decide) ?_
      exact T_M_lose_L185 hn hD S hret hlk hK out c2 hc2 v1 v2 v3 st106 _ _ _ hP hS (lv_sub hl [0, 1, 2, 3] rfl) hF

set_option maxHeartbeats 4000000 in
set_option maxRecDepth 1000000 in
theorem T_M_lose_L39 {dC : Nat → ClassId} {dI : Nat → Nat → Nat} {cI cZ cR cA : ClassId} {n : Nat} {ad : zK → Nat} {A : Nat → Prop} (hn : 2 ≤ n ∧ n ≤ 6) (hD : zD A zKm ad) {p : Program} {l : Launch} {e : Env} {s : State} {m : MethodId} {args : Array Value} {below : List Frame} {meth : Method} {c : Code} (S : CallFix p m c b_M_lose 6 s args zT N_M) (hret : meth.sig.returnType = none) (hlk : meth.locks = false) (hK : va_K (dC, dI) zcl (zty cI cZ cR cA) s) (out : Int32 × zS) (c2 : Int32 → Int32 → Int32 → zS → Option (Int32 × zS)) (hc2 : ∀ (v1 : Int32) (v2 : Int32) (v3 : Int32) (st : zS) (H : Heap) (locs : List Loc) (ls : Array Slot), zV (dC, dI) zcl zKm ad (zmE n cI cZ ad) st H → va_S A s.heap H locs → lv_has ls 6 [(0, .ref (ad (0, 0))), (1, .int v1), (2, .int v2), (3, .int v3)] → c2 v1 v2 v3 st = some out → W p l e rm_M_lose s m args below meth c H locs 0 0 (zQ below A (fun o H => o = none ∧ zV (dC, dI) zcl zKm ad (zmE n cI cZ ad) out.2 H) args s) (F0 m 2 ls [])) (v1 : Int32) (v2 : Int32) (v3 : Int32) (v4 : Int32) (t0 : Int32) (st : zS) (H : Heap) (locs : List Loc) (ls : Array Slot) (hP : zV (dC, dI) zcl zKm ad (zmE n cI cZ ad) st H) (hS : va_S A s.heap H locs) (hl : lv_has ls 6 [(0, .ref (ad (0, 0))), (1, .int v1), (2, .int v2), (3, .int v3), (4, .int v4)]) (hF : F_M_lose_L39 n c2 v1 v2 v3 v4 t0 st = some out) : W p l e rm_M_lose s m args below meth c H locs 0 0 (zQ below A (fun o H => o = none ∧ zV (dC, dI) zcl zKm ad (zmE n cI cZ ad) out.2 H) args s) (F0 m 39 ls [.int t0]) := by
  unfold F_M_lose_L39 at hF
  refine lv_istore S.1 S.2.1 d_M_lose_39 hl (by decide) rfl (fun ls hl => ?_)
  have hl : lv_has ls 6 [(5, .int t0), (0, .ref (ad (0, 0))), (1, .int v1), (2, .int v2), (3, .int v3), (4, .int v4)] := hl
  refine lv_aload_n S.1 S.2.1 d_M_lose_41 rfl (lv_at hl 1 rfl) ?_
  refine zr_get (v := .ref (ad (8, 0))) S zi_M hK hP zkm_0 rfl rfl 8 (by decide) zx_31 rfl d_M_lose_42 ?_
  refine lv_bipush (v := 36) S.1 S.2.1 d_M_lose_45 (by decide) ?_
  refine lv_iload_n S.1 S.2.1 d_M_lose_47 rfl (lv_at hl 3 rfl) ?_
  refine lv_imul S.1 S.2.1 d_M_lose_48 ?_
  refine lv_iload S.1 S.2.1 d_M_lose_49 (lv_at hl 5 rfl) ?_
  refine lv_iadd S.1 S.2.1 d_M_lose_51 ?_
  refine lv_sipush (v := 10000) S.1 S.2.1 d_M_lose_52 (by decide) ?_
  by_cases g55 : zOut ((36 * v2) + v4) 216
  · rw [if_pos g55] at hF; cases hF
  rw [if_neg g55] at hF
  refine zr_iast S hK hP hD hS zkm_8 (fun _ => rfl) 0 rfl g55 d_M_lose_55 (fun H locs hP hS => ?_)
  replace hF : F_M_lose_L39_s1 n c2 t0 v1 v2 v3 v4 (zs st 8 0 (Int32.toNatClampNeg ((36 * v2) + v4)) 10000) = some out := hF
  generalize zs st 8 0 (Int32.toNatClampNeg ((36 * v2) + v4)) 10000 = st56 at hP hF
  unfold F_M_lose_L39_s1 at hF
  refine lv_aload_n S.1 S.2.1 d_M_lose_56 rfl (lv_at hl 1 rfl) ?_
  refine zr_get (v := .ref (ad (9, 0))) S zi_M hK hP zkm_0 rfl rfl 9 (by decide) zx_32 rfl d_M_lose_57 ?_
  refine lv_bipush (v := 36) S.1 S.2.1 d_M_lose_60 (by decide) ?_
  refine lv_iload_n S.1 S.2.1 d_M_lose_62 rfl (lv_at hl 3 rfl) ?_
  refine lv_imul S.1 S.2.1 d_M_lose_63 ?_
  refine lv_iload S.1 S.2.1 d_M_lose_64 (lv_at hl 5 rfl) ?_
  refine lv_iadd S.1 S.2.1 d_M_lose_66 ?_
  refine lv_iconst (v := 0) S.1 S.2.1 d_M_lose_67 (by decide) ?_
  by_cases g68 : zOut ((36 * v2) + v4) 216
  · rw [if_pos g68] at hF; cases hF
  rw [if_neg g68] at hF
  refine zr_zast S hK hP hD hS zkm_9 (fun _ => rfl) 1 rfl g68 (by decide) d_M_lose_68 (fun H locs hP hS => ?_)
  replace hF : F_M_lose_L39_s2 n c2 t0 v1 v2 v3 v4 (zs st56 9 0 (Int32.toNatClampNeg ((36 * v2) + v4)) 0) = some out := hF
  generalize zs st56 9 0 (Int32.toNatClampNeg ((36 * v2) + v4)) 0 = st69 at hP hF
  unfold F_M_lose_L39_s2 at hF
  refine lv_aload_n S.1 S.2.1 d_M_lose_69 rfl (lv_at hl 1 rfl) ?_
  refine zr_get (v := .ref (ad (4, 0))) S zi_M hK hP zkm_0 rfl rfl 4 (by decide) zx_27 rfl d_M_lose_70 ?_
  refine lv_iload S.1 S.2.1 d_M_lose_73 (lv_at hl 5 rfl) ?_
  refine lv_iload S.1 S.2.1 d_M_lose_75 (lv_at hl 0 rfl) ?_
  refine lv_if_eq (tgt := 84) S.1 S.2.1 d_M_lose_77 (by decide) (fun h77 => ?_) (fun h77 => ?_)
  · rw [if_pos h77] at hF
    refine lv_aload_n S.1 S.2.1 d_M_lose_84 rfl (lv_at hl 1 rfl) ?_
    refine zr_get (v := .ref (ad (4, 0))) S zi_M hK hP zkm_0 rfl rfl 4 (by decide) zx_27 rfl d_M_lose_85 ?_
    refine lv_iload S.1 S.2.1 d_M_lose_88 (lv_at hl 5 rfl) ?_
    by_cases g90 : zOut v4 36
    · rw [if_pos g90] at hF; cases hF
    rw [if_neg g90] at hF
    refine zr_iald S hK hP zkm_4 rfl 0 rfl g90 d_M_lose_90 ?_
    exact T_M_lose_L91 hn hD S hret hlk hK out c2 hc2 v1 v2 v3 v4 t0 v4 (st69 4 0 (Int32.toNatClampNeg v4)) st69 _ _ _ hP hS (lv_sub hl [1, 2, 3, 4, 5, 0] rfl) hF
  · rw [if_neg h77] at hF
    refine lv_iconst (v := (-1)) S.1 S.2.1 d_M_lose_80 (by decide) ?_
    refine lv_goto (tgt := 91) S.1 S.2.1 d_M_lose_81 (by decide) ?_
    exact T_M_lose_L91 hn hD S hret hlk hK out c2 hc2 v1 v2 v3 v4 t0 v4 (-1) st69 _ _ _ hP hS (lv_sub hl [1, 2, 3, 4, 5, 0] rfl) hF

set_option maxHeartbeats 4000000 in
set_option maxRecDepth 1000000 in
theorem T_M_lose_L2 {dC : Nat → ClassId} {dI : Nat → Nat → Nat} {cI cZ cR cA : ClassId} {n : Nat} {ad : zK → Nat} {A : Nat → Prop} (hn : 2 ≤ n ∧ n ≤ 6) (hD : zD A zKm ad) {p : Program} {l : Launch} {e : Env} {s : State} {m : MethodId} {args : Array Value} {below : List Frame} {meth : Method} {c : Code} (S : CallFix p m c b_M_lose 6 s args zT N_M) (hret : meth.sig.returnType = none) (hlk : meth.locks = false) (hK : va_K (dC, dI) zcl (zty cI cZ cR cA) s) (out : Int32 × zS) : ∀ (fu : Nat) (v1 : Int32) (v2 : Int32) (v3 : Int32) (st : zS) (H : Heap) (locs : List Loc) (ls : Array Slot) (hP : zV (dC, dI) zcl zKm ad (zmE n cI cZ ad) st H) (hS : va_S A s.heap H locs) (hl : lv_has ls 6 [(0, .ref (ad (0, 0))), (1, .int v1), (2, .int v2), (3, .int v3)]) (hF : F_M_lose_L2 n fu v1 v2 v3 st = some out), W p l e rm_M_lose s m args below meth c H locs 0 0 (zQ below A (fun o H => o = none ∧ zV (dC, dI) zcl zKm ad (zmE n cI cZ ad) out.2 H) args s) (F0 m 2 ls []) := by
  intro fu
  induction fu with
  | zero => intro v1 v2 v3 st H locs ls hP hS hl hF; rw [F_M_lose_L2] at hF; cases hF
  | succ f ih =>
    intro v1 v2 v3 st H locs ls hP hS hl hF
    rw [F_M_lose_L2] at hF
    refine lv_iload_n S.1 S.2.1 d_M_lose_2 rfl (lv_at hl 3 rfl) ?_
    refine lv_aload_n S.1 S.2.1 d_M_lose_3 rfl (lv_at hl 0 rfl) ?_
    refine zr_get (v := .int (nI n)) S zi_M hK hP zkm_0 rfl rfl 0 (by decide) zx_39 rfl d_M_lose_4 ?_
    refine lv_icmp_ge (tgt := 191) S.1 S.2.1 d_M_lose_7 (by decide) (fun h7 => ?_) (fun h7 => ?_)
    · rw [if_pos h7] at hF
      cases hF
      exact zr_vret S hret hlk hS d_M_lose_191 ⟨rfl, hP⟩
    · rw [if_neg h7] at hF
      refine lv_bipush (v := 6) S.1 S.2.1 d_M_lose_10 (by decide) ?_
      refine lv_iload_n S.1 S.2.1 d_M_lose_12 rfl (lv_at hl 1 rfl) ?_
      refine lv_imul S.1 S.2.1 d_M_lose_13 ?_
      refine lv_iload_n S.1 S.2.1 d_M_lose_14 rfl (lv_at hl 3 rfl) ?_
      refine lv_iadd S.1 S.2.1 d_M_lose_15 ?_
      refine lv_istore S.1 S.2.1 d_M_lose_16 hl (by decide) rfl (fun ls hl => ?_)
      have hl : lv_has ls 6 [(4, .int ((6 * v1) + v3)), (0, .ref (ad (0, 0))), (1, .int v1), (2, .int v2), (3, .int v3)] := hl
      refine lv_iload_n S.1 S.2.1 d_M_lose_18 rfl (lv_at hl 4 rfl) ?_
      refine lv_iload_n S.1 S.2.1 d_M_lose_19 rfl (lv_at hl 2 rfl) ?_
      refine lv_icmp_eq (tgt := 185) S.1 S.2.1 d_M_lose_20 (by decide) (fun h20 => ?_) (fun h20 => ?_)
      · rw [if_pos h20] at hF
        exact T_M_lose_L185 hn hD S hret hlk hK out (F_M_lose_L2 n f) ih v1 v2 v3 st _ _ _ hP hS (lv_sub hl [1, 2, 3, 4] rfl) hF
      · rw [if_neg h20] at hF
        refine lv_aload_n S.1 S.2.1 d_M_lose_23 rfl (lv_at hl 1 rfl) ?_
        refine zr_get (v := .ref (ad (4, 0))) S zi_M hK hP zkm_0 rfl rfl 4 (by decide) zx_27 rfl d_M_lose_24 ?_
        refine lv_iload S.1 S.2.1 d_M_lose_27 (lv_at hl 0 rfl) ?_
        by_cases g29 : zOut ((6 * v1) + v3) 36
        · rw [if_pos g29] at hF; cases hF
        rw [if_neg g29] at hF
        refine zr_iald S hK hP zkm_4 rfl 0 rfl g29 d_M_lose_29 ?_
        refine lv_iload_n S.1 S.2.1 d_M_lose_30 rfl (lv_at hl 3 rfl) ?_
        refine lv_icmp_ne (tgt := 38) S.1 S.2.1 d_M_lose_31 (by decide) (fun h31 => ?_) (fun h31 => ?_)
        · rw [if_neg h31] at hF
          refine lv_iconst (v := 0) S.1 S.2.1 d_M_lose_38 (by decide) ?_
          exact T_M_lose_L39 hn hD S hret hlk hK out (F_M_lose_L2 n f) ih v1 v2 v3 ((6 * v1) + v3) 0 st _ _ _ hP hS (lv_sub hl [1, 2, 3, 4, 0] rfl) hF
        · rw [if_pos h31] at hF
          refine lv_iconst (v := 1) S.1 S.2.1 d_M_lose_34 (by decide) ?_
          refine lv_goto (tgt := 39) S.1 S.2.1 d_M_lose_35 (by decide) ?_
          exact T_M_lose_L39 hn hD S hret hlk hK out (F_M_lose_L2 n f) ih v1 v2 v3 ((6 * v1) + v3) 1 st _ _ _ hP hS (lv_sub hl [1, 2, 3, 4, 0] rfl) hF

set_option maxHeartbeats 4000000 in
set_option maxRecDepth 1000000 in
theorem C_M_lose {dC : Nat → ClassId} {dI : Nat → Nat → Nat} {cI cZ cR cA : ClassId} {n : Nat} {ad : zK → Nat} {A : Nat → Prop} (hn : 2 ≤ n ∧ n ≤ 6) (hD : zD A zKm ad) (l : Launch) (v1 : Int32) (v2 : Int32) (st : zS) (out : Int32 × zS) (hF : F_M_lose n v1 v2 st = some out) : zC zT (dC, dI) zcl (zty cI cZ cR cA) A l y_M_lose b_M_lose 6 (none) rm_M_lose [.ref (ad (0, 0)), .int v1, .int v2] (fun H => zV (dC, dI) zcl zKm ad (zmE n cI cZ ad) st H) (fun o H => o = none ∧ zV (dC, dI) zcl zKm ad (zmE n cI cZ ad) out.2 H) := by
  refine zC_of (by decide) (Nat.le_of_ble_eq_true rfl) (fun p e s m args below meth c ls S hret hlk hK hP hl => ?_)
  have hS : va_S A s.heap s.heap [] := va_S.rf
  have hl : lv_has ls 6 [(0, .ref (ad (0, 0))), (1, .int v1), (2, .int v2)] := hl
  have hP : zV (dC, dI) zcl zKm ad (zmE n cI cZ ad) st s.heap := hP
  unfold F_M_lose at hF
  refine lv_iconst (v := 0) S.1 S.2.1 d_M_lose_0 (by decide) ?_
  refine lv_istore_n S.1 S.2.1 d_M_lose_1 rfl hl (by decide) rfl (fun ls hl => ?_)
  have hl : lv_has ls 6 [(3, .int 0), (0, .ref (ad (0, 0))), (1, .int v1), (2, .int v2)] := hl
  exact T_M_lose_L2 hn hD S hret hlk hK out zFuel v1 v2 0 st _ _ _ hP hS (lv_sub hl [1, 2, 3, 0] rfl) hF

theorem d_M_links_0 : decode b_M_links 0 = .ok (.iconst 0, 1) := by decide +kernel
theorem d_M_links_1 : decode b_M_links 1 = .ok (.istore_n 1, 1) := by decide +kernel
theorem d_M_links_2 : decode b_M_links 2 = .ok (.iconst 0, 1) := by decide +kernel
theorem d_M_links_3 : decode b_M_links 3 = .ok (.istore_n 2, 1) := by decide +kernel
theorem d_M_links_4 : decode b_M_links 4 = .ok (.iload_n 2, 1) := by decide +kernel
theorem d_M_links_5 : decode b_M_links 5 = .ok (.bipush 36, 2) := by decide +kernel
theorem d_M_links_7 : decode b_M_links 7 = .ok (.if_icmp .ge 26, 3) := by decide +kernel
theorem d_M_links_10 : decode b_M_links 10 = .ok (.aload_n 0, 1) := by decide +kernel
theorem d_M_links_11 : decode b_M_links 11 = .ok (.getfield 7, 3) := by decide +kernel
theorem d_M_links_14 : decode b_M_links 14 = .ok (.iload_n 2, 1) := by decide +kernel
theorem d_M_links_15 : decode b_M_links 15 = .ok (.iaload, 1) := by decide +kernel
theorem d_M_links_16 : decode b_M_links 16 = .ok (.ifCond .le 9, 3) := by decide +kernel
theorem d_M_links_19 : decode b_M_links 19 = .ok (.iload_n 1, 1) := by decide +kernel
theorem d_M_links_20 : decode b_M_links 20 = .ok (.iconst 1, 1) := by decide +kernel
theorem d_M_links_21 : decode b_M_links 21 = .ok (.iadd, 1) := by decide +kernel
theorem d_M_links_22 : decode b_M_links 22 = .ok (.goto 4, 3) := by decide +kernel
theorem d_M_links_25 : decode b_M_links 25 = .ok (.iload_n 1, 1) := by decide +kernel
theorem d_M_links_26 : decode b_M_links 26 = .ok (.istore_n 1, 1) := by decide +kernel
theorem d_M_links_27 : decode b_M_links 27 = .ok (.iinc 2 1, 3) := by decide +kernel
theorem d_M_links_30 : decode b_M_links 30 = .ok (.goto (-26), 3) := by decide +kernel
theorem d_M_links_33 : decode b_M_links 33 = .ok (.iload_n 1, 1) := by decide +kernel
theorem d_M_links_34 : decode b_M_links 34 = .ok (.iconst 2, 1) := by decide +kernel
theorem d_M_links_35 : decode b_M_links 35 = .ok (.idiv, 1) := by decide +kernel
theorem d_M_links_36 : decode b_M_links 36 = .ok (.ireturn, 1) := by decide +kernel
def F_M_links_L26 (n : Nat) (c4 : Int32 → Int32 → zS → Option (Int32 × zS)) (v2 : Int32) (t0 : Int32) (st : zS) : Option (Int32 × zS) :=
    c4 t0 (v2 + 1) st

def F_M_links_L4 (n : Nat) : Nat → Int32 → Int32 → zS → Option (Int32 × zS)
  | 0, _, _, _ => none
  | f + 1, v1, v2, st =>
    if 36 ≤ v2 then (some (v1 / 2, st)) else (if zOut v2 36 then none else if (st 1 0 (Int32.toNatClampNeg v2)) ≤ 0 then (F_M_links_L26 n (F_M_links_L4 n f) v2 v1 st) else (F_M_links_L26 n (F_M_links_L4 n f) v2 (v1 + 1) st))

def F_M_links (n : Nat) (st : zS) : Option (Int32 × zS) :=
    F_M_links_L4 n zFuel 0 0 st

set_option maxHeartbeats 4000000 in
set_option maxRecDepth 1000000 in
theorem T_M_links_L26 {dC : Nat → ClassId} {dI : Nat → Nat → Nat} {cI cZ cR cA : ClassId} {n : Nat} {ad : zK → Nat} {A : Nat → Prop} (hn : 2 ≤ n ∧ n ≤ 6) (hD : zD A zKm ad) {p : Program} {l : Launch} {e : Env} {s : State} {m : MethodId} {args : Array Value} {below : List Frame} {meth : Method} {c : Code} (S : CallFix p m c b_M_links 3 s args zT N_M) (hret : meth.sig.returnType = some .int) (hlk : meth.locks = false) (hK : va_K (dC, dI) zcl (zty cI cZ cR cA) s) (out : Int32 × zS) (c4 : Int32 → Int32 → zS → Option (Int32 × zS)) (hc4 : ∀ (v1 : Int32) (v2 : Int32) (st : zS) (H : Heap) (locs : List Loc) (ls : Array Slot), zV (dC, dI) zcl zKm ad (zmE n cI cZ ad) st H → va_S A s.heap H locs → lv_has ls 3 [(0, .ref (ad (0, 0))), (1, .int v1), (2, .int v2)] → c4 v1 v2 st = some out → W p l e rm_M_links s m args below meth c H locs 0 0 (zQ below A (fun o H => o = some (.int out.1) ∧ zV (dC, dI) zcl zKm ad (zmE n cI cZ ad) out.2 H) args s) (F0 m 4 ls [])) (v2 : Int32) (t0 : Int32) (st : zS) (H : Heap) (locs : List Loc) (ls : Array Slot) (hP : zV (dC, dI) zcl zKm ad (zmE n cI cZ ad) st H) (hS : va_S A s.heap H locs) (hl : lv_has ls 3 [(0, .ref (ad (0, 0))), (2, .int v2)]) (hF : F_M_links_L26 n c4 v2 t0 st = some out) : W p l e rm_M_links s m args below meth c H locs 0 0 (zQ below A (fun o H => o = some (.int out.1) ∧ zV (dC, dI) zcl zKm ad (zmE n cI cZ ad) out.2 H) args s) (F0 m 26 ls [.int t0]) := by
  unfold F_M_links_L26 at hF
  refine lv_istore_n S.1 S.2.1 d_M_links_26 rfl hl (by decide) rfl (fun ls hl => ?_)
  have hl : lv_has ls 3 [(1, .int t0), (0, .ref (ad (0, 0))), (2, .int v2)] := hl
  refine lv_iinc (k := 2) (v := v2 + 1) S.1 S.2.1 d_M_links_27 hl rfl rfl (by decide) rfl (fun ls hl => ?_)
  have hl : lv_has ls 3 [(2, .int (v2 + 1)), (1, .int t0), (0, .ref (ad (0, 0)))] := hl
  refine lv_goto (tgt := 4) S.1 S.2.1 d_M_links_30 (by decide) ?_
  exact hc4 t0 (v2 + 1) st _ _ _ hP hS (lv_sub hl [2, 1, 0] rfl) hF

set_option maxHeartbeats 4000000 in
set_option maxRecDepth 1000000 in
theorem T_M_links_L4 {dC : Nat → ClassId} {dI : Nat → Nat → Nat} {cI cZ cR cA : ClassId} {n : Nat} {ad : zK → Nat} {A : Nat → Prop} (hn : 2 ≤ n ∧ n ≤ 6) (hD : zD A zKm ad) {p : Program} {l : Launch} {e : Env} {s : State} {m : MethodId} {args : Array Value} {below : List Frame} {meth : Method} {c : Code} (S : CallFix p m c b_M_links 3 s args zT N_M) (hret : meth.sig.returnType = some .int) (hlk : meth.locks = false) (hK : va_K (dC, dI) zcl (zty cI cZ cR cA) s) (out : Int32 × zS) : ∀ (fu : Nat) (v1 : Int32) (v2 : Int32) (st : zS) (H : Heap) (locs : List Loc) (ls : Array Slot) (hP : zV (dC, dI) zcl zKm ad (zmE n cI cZ ad) st H) (hS : va_S A s.heap H locs) (hl : lv_has ls 3 [(0, .ref (ad (0, 0))), (1, .int v1), (2, .int v2)]) (hF : F_M_links_L4 n fu v1 v2 st = some out), W p l e rm_M_links s m args below meth c H locs 0 0 (zQ below A (fun o H => o = some (.int out.1) ∧ zV (dC, dI) zcl zKm ad (zmE n cI cZ ad) out.2 H) args s) (F0 m 4 ls []) := by
  intro fu
  induction fu with
  | zero => intro v1 v2 st H locs ls hP hS hl hF; rw [F_M_links_L4] at hF; cases hF
  | succ f ih =>
    intro v1 v2 st H locs ls hP hS hl hF
    rw [F_M_links_L4] at hF
    refine lv_iload_n S.1 S.2.1 d_M_links_4 rfl (lv_at hl 2 rfl) ?_
    refine lv_bipush (v := 36) S.1 S.2.1 d_M_links_5 (by decide) ?_
    refine lv_icmp_ge (tgt := 33) S.1 S.2.1 d_M_links_7 (by decide) (fun h7 => ?_) (fun h7 => ?_)
    · rw [if_pos h7] at hF
      refine lv_iload_n S.1 S.2.1 d_M_links_33 rfl (lv_at hl 1 rfl) ?_
      refine lv_iconst (v := 2) S.1 S.2.1 d_M_links_34 (by decide) ?_
      refine lv_idiv S.1 S.2.1 d_M_links_35 (by decide) ?_
      cases hF
      exact zr_iret S hret hlk hS d_M_links_36 ⟨rfl, hP⟩
    · rw [if_neg h7] at hF
      refine lv_aload_n S.1 S.2.1 d_M_links_10 rfl (lv_at hl 0 rfl) ?_
      refine zr_get (v := .ref (ad (1, 0))) S zi_M hK hP zkm_0 rfl rfl 1 (by decide) zx_41 rfl d_M_links_11 ?_
      refine lv_iload_n S.1 S.2.1 d_M_links_14 rfl (lv_at hl 2 rfl) ?_
      by_cases g15 : zOut v2 36
      · rw [if_pos g15] at hF; cases hF
      rw [if_neg g15] at hF
      refine zr_iald S hK hP zkm_1 rfl 0 rfl g15 d_M_links_15 ?_
      refine lv_if_le (tgt := 25) S.1 S.2.1 d_M_links_16 (by decide) (fun h16 => ?_) (fun h16 => ?_)
      · rw [if_pos h16] at hF
        refine lv_iload_n S.1 S.2.1 d_M_links_25 rfl (lv_at hl 1 rfl) ?_
        exact T_M_links_L26 hn hD S hret hlk hK out (F_M_links_L4 n f) ih v2 v1 st _ _ _ hP hS (lv_sub hl [0, 2] rfl) hF
      · rw [if_neg h16] at hF
        refine lv_iload_n S.1 S.2.1 d_M_links_19 rfl (lv_at hl 1 rfl) ?_
        refine lv_iconst (v := 1) S.1 S.2.1 d_M_links_20 (by decide) ?_
        refine lv_iadd S.1 S.2.1 d_M_links_21 ?_
        refine lv_goto (tgt := 26) S.1 S.2.1 d_M_links_22 (by decide) ?_
        exact T_M_links_L26 hn hD S hret hlk hK out (F_M_links_L4 n f) ih v2 (v1 + 1) st _ _ _ hP hS (lv_sub hl [0, 2] rfl) hF

set_option maxHeartbeats 4000000 in
set_option maxRecDepth 1000000 in
theorem C_M_links {dC : Nat → ClassId} {dI : Nat → Nat → Nat} {cI cZ cR cA : ClassId} {n : Nat} {ad : zK → Nat} {A : Nat → Prop} (hn : 2 ≤ n ∧ n ≤ 6) (hD : zD A zKm ad) (l : Launch) (st : zS) (out : Int32 × zS) (hF : F_M_links n st = some out) : zC zT (dC, dI) zcl (zty cI cZ cR cA) A l y_M_links b_M_links 3 (some .int) rm_M_links [.ref (ad (0, 0))] (fun H => zV (dC, dI) zcl zKm ad (zmE n cI cZ ad) st H) (fun o H => o = some (.int out.1) ∧ zV (dC, dI) zcl zKm ad (zmE n cI cZ ad) out.2 H) := by
  refine zC_of (by decide) (Nat.le_of_ble_eq_true rfl) (fun p e s m args below meth c ls S hret hlk hK hP hl => ?_)
  have hS : va_S A s.heap s.heap [] := va_S.rf
  have hl : lv_has ls 3 [(0, .ref (ad (0, 0)))] := hl
  have hP : zV (dC, dI) zcl zKm ad (zmE n cI cZ ad) st s.heap := hP
  unfold F_M_links at hF
  refine lv_iconst (v := 0) S.1 S.2.1 d_M_links_0 (by decide) ?_
  refine lv_istore_n S.1 S.2.1 d_M_links_1 rfl hl (by decide) rfl (fun ls hl => ?_)
  have hl : lv_has ls 3 [(1, .int 0), (0, .ref (ad (0, 0)))] := hl
  refine lv_iconst (v := 0) S.1 S.2.1 d_M_links_2 (by decide) ?_
  refine lv_istore_n S.1 S.2.1 d_M_links_3 rfl hl (by decide) rfl (fun ls hl => ?_)
  have hl : lv_has ls 3 [(2, .int 0), (1, .int 0), (0, .ref (ad (0, 0)))] := hl
  exact T_M_links_L4 hn hD S hret hlk hK out zFuel 0 0 st _ _ _ hP hS (lv_sub hl [2, 1, 0] rfl) hF

