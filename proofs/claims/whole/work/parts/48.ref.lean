theorem d_M_connect_0 : decode b_M_connect 0 = .ok (.aload_n 0, 1) := by decide +kernel
theorem d_M_connect_1 : decode b_M_connect 1 = .ok (.iload_n 1, 1) := by decide +kernel
theorem d_M_connect_2 : decode b_M_connect 2 = .ok (.invokevirtual 60, 3) := by decide +kernel
theorem d_M_connect_5 : decode b_M_connect 5 = .ok (.ifCond .eq 27, 3) := by decide +kernel
theorem d_M_connect_8 : decode b_M_connect 8 = .ok (.aload_n 0, 1) := by decide +kernel
theorem d_M_connect_9 : decode b_M_connect 9 = .ok (.iload_n 2, 1) := by decide +kernel
theorem d_M_connect_10 : decode b_M_connect 10 = .ok (.invokevirtual 60, 3) := by decide +kernel
theorem d_M_connect_13 : decode b_M_connect 13 = .ok (.ifCond .eq 19, 3) := by decide +kernel
theorem d_M_connect_16 : decode b_M_connect 16 = .ok (.iload_n 1, 1) := by decide +kernel
theorem d_M_connect_17 : decode b_M_connect 17 = .ok (.iload_n 2, 1) := by decide +kernel
theorem d_M_connect_18 : decode b_M_connect 18 = .ok (.if_icmp .eq 14, 3) := by decide +kernel
theorem d_M_connect_21 : decode b_M_connect 21 = .ok (.iload_n 3, 1) := by decide +kernel
theorem d_M_connect_22 : decode b_M_connect 22 = .ok (.iconst 1, 1) := by decide +kernel
theorem d_M_connect_23 : decode b_M_connect 23 = .ok (.if_icmp .lt 9, 3) := by decide +kernel
theorem d_M_connect_26 : decode b_M_connect 26 = .ok (.iload_n 3, 1) := by decide +kernel
theorem d_M_connect_27 : decode b_M_connect 27 = .ok (.bipush 100, 2) := by decide +kernel
theorem d_M_connect_29 : decode b_M_connect 29 = .ok (.if_icmp .le 5, 3) := by decide +kernel
theorem d_M_connect_32 : decode b_M_connect 32 = .ok (.iconst (-1), 1) := by decide +kernel
theorem d_M_connect_33 : decode b_M_connect 33 = .ok (.ireturn, 1) := by decide +kernel
theorem d_M_connect_34 : decode b_M_connect 34 = .ok (.aload_n 0, 1) := by decide +kernel
theorem d_M_connect_35 : decode b_M_connect 35 = .ok (.getfield 64, 3) := by decide +kernel
theorem d_M_connect_38 : decode b_M_connect 38 = .ok (.bipush 100, 2) := by decide +kernel
theorem d_M_connect_40 : decode b_M_connect 40 = .ok (.if_icmp .le 6, 3) := by decide +kernel
theorem d_M_connect_43 : decode b_M_connect 43 = .ok (.bipush (-2), 2) := by decide +kernel
theorem d_M_connect_45 : decode b_M_connect 45 = .ok (.ireturn, 1) := by decide +kernel
theorem d_M_connect_46 : decode b_M_connect 46 = .ok (.aload_n 0, 1) := by decide +kernel
theorem d_M_connect_47 : decode b_M_connect 47 = .ok (.iload_n 1, 1) := by decide +kernel
theorem d_M_connect_48 : decode b_M_connect 48 = .ok (.iload_n 2, 1) := by decide +kernel
theorem d_M_connect_49 : decode b_M_connect 49 = .ok (.invokevirtual 108, 3) := by decide +kernel
theorem d_M_connect_52 : decode b_M_connect 52 = .ok (.istore 4, 2) := by decide +kernel
theorem d_M_connect_54 : decode b_M_connect 54 = .ok (.iload_n 1, 1) := by decide +kernel
theorem d_M_connect_55 : decode b_M_connect 55 = .ok (.iload_n 2, 1) := by decide +kernel
theorem d_M_connect_56 : decode b_M_connect 56 = .ok (.if_icmp .ge 7, 3) := by decide +kernel
theorem d_M_connect_59 : decode b_M_connect 59 = .ok (.iload_n 1, 1) := by decide +kernel
theorem d_M_connect_60 : decode b_M_connect 60 = .ok (.goto 4, 3) := by decide +kernel
theorem d_M_connect_63 : decode b_M_connect 63 = .ok (.iload_n 2, 1) := by decide +kernel
theorem d_M_connect_64 : decode b_M_connect 64 = .ok (.istore 5, 2) := by decide +kernel
theorem d_M_connect_66 : decode b_M_connect 66 = .ok (.iload_n 1, 1) := by decide +kernel
theorem d_M_connect_67 : decode b_M_connect 67 = .ok (.iload_n 2, 1) := by decide +kernel
theorem d_M_connect_68 : decode b_M_connect 68 = .ok (.if_icmp .ge 7, 3) := by decide +kernel
theorem d_M_connect_71 : decode b_M_connect 71 = .ok (.iload_n 2, 1) := by decide +kernel
theorem d_M_connect_72 : decode b_M_connect 72 = .ok (.goto 4, 3) := by decide +kernel
theorem d_M_connect_75 : decode b_M_connect 75 = .ok (.iload_n 1, 1) := by decide +kernel
theorem d_M_connect_76 : decode b_M_connect 76 = .ok (.istore 6, 2) := by decide +kernel
theorem d_M_connect_78 : decode b_M_connect 78 = .ok (.aload_n 0, 1) := by decide +kernel
theorem d_M_connect_79 : decode b_M_connect 79 = .ok (.getfield 7, 3) := by decide +kernel
theorem d_M_connect_82 : decode b_M_connect 82 = .ok (.bipush 6, 2) := by decide +kernel
theorem d_M_connect_84 : decode b_M_connect 84 = .ok (.iload_n 1, 1) := by decide +kernel
theorem d_M_connect_85 : decode b_M_connect 85 = .ok (.imul, 1) := by decide +kernel
theorem d_M_connect_86 : decode b_M_connect 86 = .ok (.iload_n 2, 1) := by decide +kernel
theorem d_M_connect_87 : decode b_M_connect 87 = .ok (.iadd, 1) := by decide +kernel
theorem d_M_connect_88 : decode b_M_connect 88 = .ok (.iload_n 3, 1) := by decide +kernel
theorem d_M_connect_89 : decode b_M_connect 89 = .ok (.iastore, 1) := by decide +kernel
theorem d_M_connect_90 : decode b_M_connect 90 = .ok (.aload_n 0, 1) := by decide +kernel
theorem d_M_connect_91 : decode b_M_connect 91 = .ok (.getfield 7, 3) := by decide +kernel
theorem d_M_connect_94 : decode b_M_connect 94 = .ok (.bipush 6, 2) := by decide +kernel
theorem d_M_connect_96 : decode b_M_connect 96 = .ok (.iload_n 2, 1) := by decide +kernel
theorem d_M_connect_97 : decode b_M_connect 97 = .ok (.imul, 1) := by decide +kernel
theorem d_M_connect_98 : decode b_M_connect 98 = .ok (.iload_n 1, 1) := by decide +kernel
theorem d_M_connect_99 : decode b_M_connect 99 = .ok (.iadd, 1) := by decide +kernel
theorem d_M_connect_100 : decode b_M_connect 100 = .ok (.iload_n 3, 1) := by decide +kernel
theorem d_M_connect_101 : decode b_M_connect 101 = .ok (.iastore, 1) := by decide +kernel
theorem d_M_connect_102 : decode b_M_connect 102 = .ok (.iload 4, 2) := by decide +kernel
theorem d_M_connect_104 : decode b_M_connect 104 = .ok (.ifCond .eq 22, 3) := by decide +kernel
theorem d_M_connect_107 : decode b_M_connect 107 = .ok (.aload_n 0, 1) := by decide +kernel
theorem d_M_connect_108 : decode b_M_connect 108 = .ok (.iload 5, 2) := by decide +kernel
theorem d_M_connect_110 : decode b_M_connect 110 = .ok (.iload 6, 2) := by decide +kernel
theorem d_M_connect_112 : decode b_M_connect 112 = .ok (.invokevirtual 111, 3) := by decide +kernel
theorem d_M_connect_115 : decode b_M_connect 115 = .ok (.aload_n 0, 1) := by decide +kernel
theorem d_M_connect_116 : decode b_M_connect 116 = .ok (.iload 6, 2) := by decide +kernel
theorem d_M_connect_118 : decode b_M_connect 118 = .ok (.iload 5, 2) := by decide +kernel
theorem d_M_connect_120 : decode b_M_connect 120 = .ok (.invokevirtual 111, 3) := by decide +kernel
theorem d_M_connect_123 : decode b_M_connect 123 = .ok (.goto 19, 3) := by decide +kernel
theorem d_M_connect_126 : decode b_M_connect 126 = .ok (.aload_n 0, 1) := by decide +kernel
theorem d_M_connect_127 : decode b_M_connect 127 = .ok (.iload 5, 2) := by decide +kernel
theorem d_M_connect_129 : decode b_M_connect 129 = .ok (.iload 6, 2) := by decide +kernel
theorem d_M_connect_131 : decode b_M_connect 131 = .ok (.invokevirtual 114, 3) := by decide +kernel
theorem d_M_connect_134 : decode b_M_connect 134 = .ok (.aload_n 0, 1) := by decide +kernel
theorem d_M_connect_135 : decode b_M_connect 135 = .ok (.iload 6, 2) := by decide +kernel
theorem d_M_connect_137 : decode b_M_connect 137 = .ok (.iload 5, 2) := by decide +kernel
theorem d_M_connect_139 : decode b_M_connect 139 = .ok (.invokevirtual 114, 3) := by decide +kernel
theorem d_M_connect_142 : decode b_M_connect 142 = .ok (.aload_n 0, 1) := by decide +kernel
theorem d_M_connect_143 : decode b_M_connect 143 = .ok (.invokevirtual 117, 3) := by decide +kernel
theorem d_M_connect_146 : decode b_M_connect 146 = .ok (.ireturn, 1) := by decide +kernel
def F_M_connect_L142_s1 (n : Nat) (t0 : Int32) (st : zS) : Option (Int32 × zS) :=
    some (t0, st)

def F_M_connect_L142 (n : Nat) (st : zS) : Option (Int32 × zS) :=
    (F_M_links n st).bind (fun u => F_M_connect_L142_s1 n u.1 u.2)

def F_M_connect_L76_s4 (n : Nat) (st : zS) : Option (Int32 × zS) :=
    F_M_connect_L142 n st

def F_M_connect_L76_s3 (n : Nat) (v6 : Int32) (v5 : Int32) (st : zS) : Option (Int32 × zS) :=
    (F_M_greet n v6 v5 st).bind (fun u => F_M_connect_L76_s4 n u.2)

def F_M_connect_L76_s6 (n : Nat) (st : zS) : Option (Int32 × zS) :=
    F_M_connect_L142 n st

def F_M_connect_L76_s5 (n : Nat) (v6 : Int32) (v5 : Int32) (st : zS) : Option (Int32 × zS) :=
    (F_M_recost n v6 v5 st).bind (fun u => F_M_connect_L76_s6 n u.2)

def F_M_connect_L76_s2 (n : Nat) (v6 : Int32) (v4 : Int32) (v5 : Int32) (st : zS) : Option (Int32 × zS) :=
    if v4 = 0 then ((F_M_greet n v5 v6 st).bind (fun u => F_M_connect_L76_s3 n v6 v5 u.2)) else ((F_M_recost n v5 v6 st).bind (fun u => F_M_connect_L76_s5 n v6 v5 u.2))

def F_M_connect_L76_s1 (n : Nat) (v6 : Int32) (v1 : Int32) (v2 : Int32) (v3 : Int32) (v4 : Int32) (v5 : Int32) (st : zS) : Option (Int32 × zS) :=
    if zOut ((6 * v2) + v1) 36 then none else F_M_connect_L76_s2 n v6 v4 v5 (zs st 1 0 (Int32.toNatClampNeg ((6 * v2) + v1)) v3)

def F_M_connect_L76 (n : Nat) (v1 : Int32) (v2 : Int32) (v3 : Int32) (v4 : Int32) (v5 : Int32) (t0 : Int32) (st : zS) : Option (Int32 × zS) :=
    if zOut ((6 * v1) + v2) 36 then none else F_M_connect_L76_s1 n t0 v1 v2 v3 v4 v5 (zs st 1 0 (Int32.toNatClampNeg ((6 * v1) + v2)) v3)

def F_M_connect_L64 (n : Nat) (v1 : Int32) (v2 : Int32) (v3 : Int32) (v4 : Int32) (t0 : Int32) (st : zS) : Option (Int32 × zS) :=
    if v2 ≤ v1 then (F_M_connect_L76 n v1 v2 v3 v4 t0 v1 st) else (F_M_connect_L76 n v1 v2 v3 v4 t0 v2 st)

def F_M_connect_s3 (n : Nat) (v1 : Int32) (v2 : Int32) (v3 : Int32) (t0 : Int32) (st : zS) : Option (Int32 × zS) :=
    if v2 ≤ v1 then (F_M_connect_L64 n v1 v2 v3 t0 v2 st) else (F_M_connect_L64 n v1 v2 v3 t0 v1 st)

def F_M_connect_s2 (n : Nat) (v1 : Int32) (v2 : Int32) (v3 : Int32) (t0 : Int32) (st : zS) : Option (Int32 × zS) :=
    if t0 = 0 then (some ((-1), st)) else (if v1 = v2 then (some ((-1), st)) else (if v3 < 1 then (some ((-1), st)) else (if v3 ≤ 100 then (if (st 0 0 0) ≤ 100 then ((F_M_isLink n v1 v2 st).bind (fun u => F_M_connect_s3 n v1 v2 v3 u.1 u.2)) else (some ((-2), st))) else (some ((-1), st)))))

def F_M_connect_s1 (n : Nat) (v1 : Int32) (v2 : Int32) (v3 : Int32) (t0 : Int32) (st : zS) : Option (Int32 × zS) :=
    if t0 = 0 then (some ((-1), st)) else ((F_M_isRouter n v2 st).bind (fun u => F_M_connect_s2 n v1 v2 v3 u.1 u.2))

def F_M_connect (n : Nat) (v1 : Int32) (v2 : Int32) (v3 : Int32) (st : zS) : Option (Int32 × zS) :=
    (F_M_isRouter n v1 st).bind (fun u => F_M_connect_s1 n v1 v2 v3 u.1 u.2)

set_option maxHeartbeats 4000000 in
set_option maxRecDepth 1000000 in
theorem T_M_connect_L142 {dC : Nat → ClassId} {dI : Nat → Nat → Nat} {cI cZ cR cA : ClassId} {n : Nat} {ad : zK → Nat} {A : Nat → Prop} (hn : 2 ≤ n ∧ n ≤ 6) (hD : zD A zKm ad) {p : Program} {l : Launch} {e : Env} {s : State} {m : MethodId} {args : Array Value} {below : List Frame} {meth : Method} {c : Code} (S : CallFix p m c b_M_connect 7 s args zT N_M) (hret : meth.sig.returnType = some .int) (hlk : meth.locks = false) (hK : va_K (dC, dI) zcl (zty cI cZ cR cA) s) (out : Int32 × zS) (st : zS) (H : Heap) (locs : List Loc) (ls : Array Slot) (hP : zV (dC, dI) zcl zKm ad (zmE n cI cZ ad) st H) (hS : va_S A s.heap H locs) (hl : lv_has ls 7 [(0, .ref (ad (0, 0)))]) (hF : F_M_connect_L142 n st = some out) : W p l e rm_M_connect s m args below meth c H locs 0 0 (zQ below A (fun o H => o = some (.int out.1) ∧ zV (dC, dI) zcl zKm ad (zmE n cI cZ ad) out.2 H) args s) (F0 m 142 ls []) := by
  unfold F_M_connect_L142 at hF
  refine lv_aload_n S.1 S.2.1 d_M_connect_142 rfl (lv_at hl 0 rfl) ?_
  cases hc143 : F_M_links n st with
  | none => rw [hc143] at hF; cases hF
  | some u143 =>
    obtain ⟨r143, st143⟩ := u143
    rw [hc143] at hF
    replace hF := zbind hF
    refine zr_callV (rest := []) S zT_good (C_M_links hn hD l st (r143, st143) hc143) zn_M_links zx_100 ⟨rfl, rfl⟩ ⟨Nat.le_of_ble_eq_true rfl, Nat.le_of_ble_eq_true rfl⟩ ⟨Nat.zero_le _, Nat.zero_le _⟩ hK (zr_recv hK hP zkm_0 rfl rfl) hP hl.1 (Nat.le_of_ble_eq_true rfl) hS (fun _ h => h) d_M_connect_143 rfl (fun o H locs hpo _ _ hS => ?_)
    obtain ⟨rfl, hP⟩ := hpo
    refine W.eq (g2 := F0 m 146 ls [.int r143]) rfl ?_
    replace hF : F_M_connect_L142_s1 n r143 st143 = some out := hF
    replace hP : zV (dC, dI) zcl zKm ad (zmE n cI cZ ad) st143 H := hP
    unfold F_M_connect_L142_s1 at hF
    cases hF
    exact zr_iret S hret hlk hS d_M_connect_146 ⟨rfl, hP⟩

set_option maxHeartbeats 4000000 in
set_option maxRecDepth 1000000 in
theorem T_M_connect_L76 {dC : Nat → ClassId} {dI : Nat → Nat → Nat} {cI cZ cR cA : ClassId} {n : Nat} {ad : zK → Nat} {A : Nat → Prop} (hn : 2 ≤ n ∧ n ≤ 6) (hD : zD A zKm ad) {p : Program} {l : Launch} {e : Env} {s : State} {m : MethodId} {args : Array Value} {below : List Frame} {meth : Method} {c : Code} (S : CallFix p m c b_M_connect 7 s args zT N_M) (hret : meth.sig.returnType = some .int) (hlk : meth.locks = false) (hK : va_K (dC, dI) zcl (zty cI cZ cR cA) s) (out : Int32 × zS) (v1 : Int32) (v2 : Int32) (v3 : Int32) (v4 : Int32) (v5 : Int32) (t0 : Int32) (st : zS) (H : Heap) (locs : List Loc) (ls : Array Slot) (hP : zV (dC, dI) zcl zKm ad (zmE n cI cZ ad) st H) (hS : va_S A s.heap H locs) (hl : lv_has ls 7 [(0, .ref (ad (0, 0))), (1, .int v1), (2, .int v2), (3, .int v3), (4, .int v4), (5, .int v5)]) (hF : F_M_connect_L76 n v1 v2 v3 v4 v5 t0 st = some out) : W p l e rm_M_connect s m args below meth c H locs 0 0 (zQ below A (fun o H => o = some (.int out.1) ∧ zV (dC, dI) zcl zKm ad (zmE n cI cZ ad) out.2 H) args s) (F0 m 76 ls [.int t0]) := by
  unfold F_M_connect_L76 at hF
  refine lv_istore S.1 S.2.1 d_M_connect_76 hl (by decide) rfl (fun ls hl => ?_)
  have hl : lv_has ls 7 [(6, .int t0), (0, .ref (ad (0, 0))), (1, .int v1), (2, .int v2), (3, .int v3), (4, .int v4), (5, .int v5)] := hl
  refine lv_aload_n S.1 S.2.1 d_M_connect_78 rfl (lv_at hl 1 rfl) ?_
  refine zr_get (v := .ref (ad (1, 0))) S zi_M hK hP zkm_0 rfl rfl 1 (by decide) zx_41 rfl d_M_connect_79 ?_
  refine lv_bipush (v := 6) S.1 S.2.1 d_M_connect_82 (by decide) ?_
  refine lv_iload_n S.1 S.2.1 d_M_connect_84 rfl (lv_at hl 2 rfl) ?_
  refine lv_imul S.1 S.2.1 d_M_connect_85 ?_
  refine lv_iload_n S.1 S.2.1 d_M_connect_86 rfl (lv_at hl 3 rfl) ?_
  refine lv_iadd S.1 S.2.1 d_M_connect_87 ?_
  refine lv_iload_n S.1 S.2.1 d_M_connect_88 rfl (lv_at hl 4 rfl) ?_
  by_cases g89 : zOut ((6 * v1) + v2) 36
  · rw [if_pos g89] at hF; cases hF
  rw [if_neg g89] at hF
  refine zr_iast S hK hP hD hS zkm_1 (fun _ => rfl) 0 rfl g89 d_M_connect_89 (fun H locs hP hS => ?_)
  replace hF : F_M_connect_L76_s1 n t0 v1 v2 v3 v4 v5 (zs st 1 0 (Int32.toNatClampNeg ((6 * v1) + v2)) v3) = some out := hF
  generalize zs st 1 0 (Int32.toNatClampNeg ((6 * v1) + v2)) v3 = st90 at hP hF
  unfold F_M_connect_L76_s1 at hF
  refine lv_aload_n S.1 S.2.1 d_M_connect_90 rfl (lv_at hl 1 rfl) ?_
  refine zr_get (v := .ref (ad (1, 0))) S zi_M hK hP zkm_0 rfl rfl 1 (by decide) zx_41 rfl d_M_connect_91 ?_
  refine lv_bipush (v := 6) S.1 S.2.1 d_M_connect_94 (by decide) ?_
  refine lv_iload_n S.1 S.2.1 d_M_connect_96 rfl (lv_at hl 3 rfl) ?_
  refine lv_imul S.1 S.2.1 d_M_connect_97 ?_
  refine lv_iload_n S.1 S.2.1 d_M_connect_98 rfl (lv_at hl 2 rfl) ?_
  refine lv_iadd S.1 S.2.1 d_M_connect_99 ?_
  refine lv_iload_n S.1 S.2.1 d_M_connect_100 rfl (lv_at hl 4 rfl) ?_
  by_cases g101 : zOut ((6 * v2) + v1) 36
  · rw [if_pos g101] at hF; cases hF
  rw [if_neg g101] at hF
  refine zr_iast S hK hP hD hS zkm_1 (fun _ => rfl) 0 rfl g101 d_M_connect_101 (fun H locs hP hS => ?_)
  replace hF : F_M_connect_L76_s2 n t0 v4 v5 (zs st90 1 0 (Int32.toNatClampNeg ((6 * v2) + v1)) v3) = some out := hF
  generalize zs st90 1 0 (Int32.toNatClampNeg ((6 * v2) + v1)) v3 = st102 at hP hF
  unfold F_M_connect_L76_s2 at hF
  refine lv_iload S.1 S.2.1 d_M_connect_102 (lv_at hl 5 rfl) ?_
  refine lv_if_eq (tgt := 126) S.1 S.2.1 d_M_connect_104 (by decide) (fun h104 => ?_) (fun h104 => ?_)
  · rw [if_pos h104] at hF
    refine lv_aload_n S.1 S.2.1 d_M_connect_126 rfl (lv_at hl 1 rfl) ?_
    refine lv_iload S.1 S.2.1 d_M_connect_127 (lv_at hl 6 rfl) ?_
    refine lv_iload S.1 S.2.1 d_M_connect_129 (lv_at hl 0 rfl) ?_
    cases hc131 : F_M_greet n v5 t0 st102 with
    | none => rw [hc131] at hF; cases hF
    | some u131 =>
      obtain ⟨r131, st131⟩ := u131
      rw [hc131] at hF
      replace hF := zbind hF
      refine zr_callV (rest := []) S zT_good (C_M_greet hn hD l v5 t0 st102 (r131, st131) hc131) zn_M_greet zx_99 ⟨rfl, rfl⟩ ⟨Nat.le_of_ble_eq_true rfl, Nat.le_of_ble_eq_true rfl⟩ ⟨Nat.zero_le _, Nat.zero_le _⟩ hK (zr_recv hK hP zkm_0 rfl rfl) hP hl.1 (Nat.le_of_ble_eq_true rfl) hS (fun _ h => h) d_M_connect_131 rfl (fun o H locs hpo _ _ hS => ?_)
      obtain ⟨rfl, hP⟩ := hpo
      refine W.eq (g2 := F0 m 134 ls []) rfl ?_
      replace hF : F_M_connect_L76_s3 n t0 v5 st131 = some out := hF
      replace hP : zV (dC, dI) zcl zKm ad (zmE n cI cZ ad) st131 H := hP
      unfold F_M_connect_L76_s3 at hF
      refine lv_aload_n S.1 S.2.1 d_M_connect_134 rfl (lv_at hl 1 rfl) ?_
      refine lv_iload S.1 S.2.1 d_M_connect_135 (lv_at hl 0 rfl) ?_
      refine lv_iload S.1 S.2.1 d_M_connect_137 (lv_at hl 6 rfl) ?_
      cases hc139 : F_M_greet n t0 v5 st131 with
      | none => rw [hc139] at hF; cases hF
      | some u139 =>
        obtain ⟨r139, st139⟩ := u139
        rw [hc139] at hF
        replace hF := zbind hF
        refine zr_callV (rest := []) S zT_good (C_M_greet hn hD l t0 v5 st131 (r139, st139) hc139) zn_M_greet zx_99 ⟨rfl, rfl⟩ ⟨Nat.le_of_ble_eq_true rfl, Nat.le_of_ble_eq_true rfl⟩ ⟨Nat.zero_le _, Nat.zero_le _⟩ hK (zr_recv hK hP zkm_0 rfl rfl) hP hl.1 (Nat.le_of_ble_eq_true rfl) hS (fun _ h => h) d_M_connect_139 rfl (fun o H locs hpo _ _ hS => ?_)
        obtain ⟨rfl, hP⟩ := hpo
        refine W.eq (g2 := F0 m 142 ls []) rfl ?_
        replace hF : F_M_connect_L76_s4 n st139 = some out := hF
        replace hP : zV (dC, dI) zcl zKm ad (zmE n cI cZ ad) st139 H := hP
        unfold F_M_connect_L76_s4 at hF
        exact T_M_connect_L142 hn hD S hret hlk hK out st139 _ _ _ hP hS (lv_sub hl [1] rfl) hF
  · rw [if_neg h104] at hF
    refine lv_aload_n S.1 S.2.1 d_M_connect_107 rfl (lv_at hl 1 rfl) ?_
    refine lv_iload S.1 S.2.1 d_M_connect_108 (lv_at hl 6 rfl) ?_
    refine lv_iload S.1 S.2.1 d_M_connect_110 (lv_at hl 0 rfl) ?_
    cases hc112 : F_M_recost n v5 t0 st102 with
    | none => rw [hc112] at hF; cases hF
    | some u112 =>
      obtain ⟨r112, st112⟩ := u112
      rw [hc112] at hF
      replace hF := zbind hF
      refine zr_callV (rest := []) S zT_good (C_M_recost hn hD l v5 t0 st102 (r112, st112) hc112) zn_M_recost zx_98 ⟨rfl, rfl⟩ ⟨Nat.le_of_ble_eq_true rfl, Nat.le_of_ble_eq_true rfl⟩ ⟨Nat.zero_le _, Nat.zero_le _⟩ hK (zr_recv hK hP zkm_0 rfl rfl) hP hl.1 (Nat.le_of_ble_eq_true rfl) hS (fun _ h => h) d_M_connect_112 rfl (fun o H locs hpo _ _ hS => ?_)
      obtain ⟨rfl, hP⟩ := hpo
      refine W.eq (g2 := F0 m 115 ls []) rfl ?_
      replace hF : F_M_connect_L76_s5 n t0 v5 st112 = some out := hF
      replace hP : zV (dC, dI) zcl zKm ad (zmE n cI cZ ad) st112 H := hP
      unfold F_M_connect_L76_s5 at hF
      refine lv_aload_n S.1 S.2.1 d_M_connect_115 rfl (lv_at hl 1 rfl) ?_
      refine lv_iload S.1 S.2.1 d_M_connect_116 (lv_at hl 0 rfl) ?_
      refine lv_iload S.1 S.2.1 d_M_connect_118 (lv_at hl 6 rfl) ?_
      cases hc120 : F_M_recost n t0 v5 st112 with
      | none => rw [hc120] at hF; cases hF
      | some u120 =>
        obtain ⟨r120, st120⟩ := u120
        rw [hc120] at hF
        replace hF := zbind hF
        refine zr_callV (rest := []) S zT_good (C_M_recost hn hD l t0 v5 st112 (r120, st120) hc120) zn_M_recost zx_98 ⟨rfl, rfl⟩ ⟨Nat.le_of_ble_eq_true rfl, Nat.le_of_ble_eq_true rfl⟩ ⟨Nat.zero_le _, Nat.zero_le _⟩ hK (zr_recv hK hP zkm_0 rfl rfl) hP hl.1 (Nat.le_of_ble_eq_true rfl) hS (fun _ h => h) d_M_connect_120 rfl (fun o H locs hpo _ _ hS => ?_)
        obtain ⟨rfl, hP⟩ := hpo
        refine W.eq (g2 := F0 m 123 ls []) rfl ?_
        replace hF : F_M_connect_L76_s6 n st120 = some out := hF
        replace hP : zV (dC, dI) zcl zKm ad (zmE n cI cZ ad) st120 H := hP
        unfold F_M_connect_L76_s6 at hF
        refine lv_goto (tgt := 142) S.1 S.2.1 d_M_connect_123 (by decide) ?_
        exact T_M_connect_L142 hn hD S hret hlk hK out st120 _ _ _ hP hS (lv_sub hl [1] rfl) hF

set_option maxHeartbeats 4000000 in
set_option maxRecDepth 1000000 in
theorem T_M_connect_L64 {dC : Nat → ClassId} {dI : Nat → Nat → Nat} {cI cZ cR cA : ClassId} {n : Nat} {ad : zK → Nat} {A : Nat → Prop} (hn : 2 ≤ n ∧ n ≤ 6) (hD : zD A zKm ad) {p : Program} {l : Launch} {e : Env} {s : State} {m : MethodId} {args : Array Value} {below : List Frame} {meth : Method} {c : Code} (S : CallFix p m c b_M_connect 7 s args zT N_M) (hret : meth.sig.returnType = some .int) (hlk : meth.locks = false) (hK : va_K (dC, dI) zcl (zty cI cZ cR cA) s) (out : Int32 × zS) (v1 : Int32) (v2 : Int32) (v3 : Int32) (v4 : Int32) (t0 : Int32) (st : zS) (H : Heap) (locs : List Loc) (ls : Array Slot) (hP : zV (dC, dI) zcl zKm ad (zmE n cI cZ ad) st H) (hS : va_S A s.heap H locs) (hl : lv_has ls 7 [(0, .ref (ad (0, 0))), (1, .int v1), (2, .int v2), (3, .int v3), (4, .int v4)]) (hF : F_M_connect_L64 n v1 v2 v3 v4 t0 st = some out) : W p l e rm_M_connect s m args below meth c H locs 0 0 (zQ below A (fun o H => o = some (.int out.1) ∧ zV (dC, dI) zcl zKm ad (zmE n cI cZ ad) out.2 H) args s) (F0 m 64 ls [.int t0]) := by
  unfold F_M_connect_L64 at hF
  refine lv_istore S.1 S.2.1 d_M_connect_64 hl (by decide) rfl (fun ls hl => ?_)
  have hl : lv_has ls 7 [(5, .int t0), (0, .ref (ad (0, 0))), (1, .int v1), (2, .int v2), (3, .int v3), (4, .int v4)] := hl
  refine lv_iload_n S.1 S.2.1 d_M_connect_66 rfl (lv_at hl 2 rfl) ?_
  refine lv_iload_n S.1 S.2.1 d_M_connect_67 rfl (lv_at hl 3 rfl) ?_
  refine lv_icmp_ge (tgt := 75) S.1 S.2.1 d_M_connect_68 (by decide) (fun h68 => ?_) (fun h68 => ?_)
  · rw [if_pos h68] at hF
    refine lv_iload_n S.1 S.2.1 d_M_connect_75 rfl (lv_at hl 2 rfl) ?_
    exact T_M_connect_L76 hn hD S hret hlk hK out v1 v2 v3 v4 t0 v1 st _ _ _ hP hS (lv_sub hl [1, 2, 3, 4, 5, 0] rfl) hF
  · rw [if_neg h68] at hF
    refine lv_iload_n S.1 S.2.1 d_M_connect_71 rfl (lv_at hl 3 rfl) ?_
    refine lv_goto (tgt := 76) S.1 S.2.1 d_M_connect_72 (by decide) ?_
    exact T_M_connect_L76 hn hD S hret hlk hK out v1 v2 v3 v4 t0 v2 st _ _ _ hP hS (lv_sub hl [1, 2, 3, 4, 5, 0] rfl) hF

set_option maxHeartbeats 4000000 in
set_option maxRecDepth 1000000 in
theorem C_M_connect {dC : Nat → ClassId} {dI : Nat → Nat → Nat} {cI cZ cR cA : ClassId} {n : Nat} {ad : zK → Nat} {A : Nat → Prop} (hn : 2 ≤ n ∧ n ≤ 6) (hD : zD A zKm ad) (l : Launch) (v1 : Int32) (v2 : Int32) (v3 : Int32) (st : zS) (out : Int32 × zS) (hF : F_M_connect n v1 v2 v3 st = some out) : zC zT (dC, dI) zcl (zty cI cZ cR cA) A l y_M_connect b_M_connect 7 (some .int) rm_M_connect [.ref (ad (0, 0)), .int v1, .int v2, .int v3] (fun H => zV (dC, dI) zcl zKm ad (zmE n cI cZ ad) st H) (fun o H => o = some (.int out.1) ∧ zV (dC, dI) zcl zKm ad (zmE n cI cZ ad) out.2 H) := by
  refine zC_of (by decide) (Nat.le_of_ble_eq_true rfl) (fun p e s m args below meth c ls S hret hlk hK hP hl => ?_)
  have hS : va_S A s.heap s.heap [] := va_S.rf
  have hl : lv_has ls 7 [(0, .ref (ad (0, 0))), (1, .int v1), (2, .int v2), (3, .int v3)] := hl
  have hP : zV (dC, dI) zcl zKm ad (zmE n cI cZ ad) st s.heap := hP
  unfold F_M_connect at hF
  refine lv_aload_n S.1 S.2.1 d_M_connect_0 rfl (lv_at hl 0 rfl) ?_
  refine lv_iload_n S.1 S.2.1 d_M_connect_1 rfl (lv_at hl 1 rfl) ?_
  cases hc2 : F_M_isRouter n v1 st with
  | none => rw [hc2] at hF; cases hF
  | some u2 =>
    obtain ⟨r2, st2⟩ := u2
    rw [hc2] at hF
    replace hF := zbind hF
    refine zr_callV (rest := []) S zT_good (C_M_isRouter hn hD l v1 st (r2, st2) hc2) zn_M_isRouter zx_106 ⟨rfl, rfl⟩ ⟨Nat.le_of_ble_eq_true rfl, Nat.le_of_ble_eq_true rfl⟩ ⟨Nat.zero_le _, Nat.zero_le _⟩ hK (zr_recv hK hP zkm_0 rfl rfl) hP hl.1 (Nat.le_of_ble_eq_true rfl) hS (fun _ h => h) d_M_connect_2 rfl (fun o H locs hpo _ _ hS => ?_)
    obtain ⟨rfl, hP⟩ := hpo
    refine W.eq (g2 := F0 m 5 ls [.int r2]) rfl ?_
    replace hF : F_M_connect_s1 n v1 v2 v3 r2 st2 = some out := hF
    replace hP : zV (dC, dI) zcl zKm ad (zmE n cI cZ ad) st2 H := hP
    unfold F_M_connect_s1 at hF
    refine lv_if_eq (tgt := 32) S.1 S.2.1 d_M_connect_5 (by decide) (fun h5 => ?_) (fun h5 => ?_)
    · rw [if_pos h5] at hF
      refine lv_iconst (v := (-1)) S.1 S.2.1 d_M_connect_32 (by decide) ?_
      cases hF
      exact zr_iret S hret hlk hS d_M_connect_33 ⟨rfl, hP⟩
    · rw [if_neg h5] at hF
      refine lv_aload_n S.1 S.2.1 d_M_connect_8 rfl (lv_at hl 0 rfl) ?_
      refine lv_iload_n S.1 S.2.1 d_M_connect_9 rfl (lv_at hl 2 rfl) ?_
      cases hc10 : F_M_isRouter n v2 st2 with
      | none => rw [hc10] at hF; cases hF
      | some u10 =>
        obtain ⟨r10, st10⟩ := u10
        rw [hc10] at hF
        replace hF := zbind hF
        refine zr_callV (rest := []) S zT_good (C_M_isRouter hn hD l v2 st2 (r10, st10) hc10) zn_M_isRouter zx_106 ⟨rfl, rfl⟩ ⟨Nat.le_of_ble_eq_true rfl, Nat.le_of_ble_eq_true rfl⟩ ⟨Nat.zero_le _, Nat.zero_le _⟩ hK (zr_recv hK hP zkm_0 rfl rfl) hP hl.1 (Nat.le_of_ble_eq_true rfl) hS (fun _ h => h) d_M_connect_10 rfl (fun o H locs hpo _ _ hS => ?_)
        obtain ⟨rfl, hP⟩ := hpo
        refine W.eq (g2 := F0 m 13 ls [.int r10]) rfl ?_
        replace hF : F_M_connect_s2 n v1 v2 v3 r10 st10 = some out := hF
        replace hP : zV (dC, dI) zcl zKm ad (zmE n cI cZ ad) st10 H := hP
        unfold F_M_connect_s2 at hF
        refine lv_if_eq (tgt := 32) S.1 S.2.1 d_M_connect_13 (by decide) (fun h13 => ?_) (fun h13 => ?_)
        · rw [if_pos h13] at hF
          refine lv_iconst (v := (-1)) S.1 S.2.1 d_M_connect_32 (by decide) ?_
          cases hF
          exact zr_iret S hret hlk hS d_M_connect_33 ⟨rfl, hP⟩
        · rw [if_neg h13] at hF
          refine lv_iload_n S.1 S.2.1 d_M_connect_16 rfl (lv_at hl 1 rfl) ?_
          refine lv_iload_n S.1 S.2.1 d_M_connect_17 rfl (lv_at hl 2 rfl) ?_
          refine lv_icmp_eq (tgt := 32) S.1 S.2.1 d_M_connect_18 (by decide) (fun h18 => ?_) (fun h18 => ?_)
          · rw [if_pos h18] at hF
            refine lv_iconst (v := (-1)) S.1 S.2.1 d_M_connect_32 (by decide) ?_
            cases hF
            exact zr_iret S hret hlk hS d_M_connect_33 ⟨rfl, hP⟩
          · rw [if_neg h18] at hF
            refine lv_iload_n S.1 S.2.1 d_M_connect_21 rfl (lv_at hl 3 rfl) ?_
            refine lv_iconst (v := 1) S.1 S.2.1 d_M_connect_22 (by decide) ?_
            refine lv_icmp_lt (tgt := 32) S.1 S.2.1 d_M_connect_23 (by decide) (fun h23 => ?_) (fun h23 => ?_)
            · rw [if_pos h23] at hF
              refine lv_iconst (v := (-1)) S.1 S.2.1 d_M_connect_32 (by decide) ?_
              cases hF
              exact zr_iret S hret hlk hS d_M_connect_33 ⟨rfl, hP⟩
            · rw [if_neg h23] at hF
              refine lv_iload_n S.1 S.2.1 d_M_connect_26 rfl (lv_at hl 3 rfl) ?_
              refine lv_bipush (v := 100) S.1 S.2.1 d_M_connect_27 (by decide) ?_
              refine lv_icmp_le (tgt := 34) S.1 S.2.1 d_M_connect_29 (by decide) (fun h29 => ?_) (fun h29 => ?_)
              · rw [if_pos h29] at hF
                refine lv_aload_n S.1 S.2.1 d_M_connect_34 rfl (lv_at hl 0 rfl) ?_
                refine zr_get (v := .int (st10 0 0 0)) S zi_M hK hP zkm_0 rfl rfl 10 (by decide) zx_40 rfl d_M_connect_35 ?_
                refine lv_bipush (v := 100) S.1 S.2.1 d_M_connect_38 (by decide) ?_
                refine lv_icmp_le (tgt := 46) S.1 S.2.1 d_M_connect_40 (by decide) (fun h40 => ?_) (fun h40 => ?_)
                · rw [if_pos h40] at hF
                  refine lv_aload_n S.1 S.2.1 d_M_connect_46 rfl (lv_at hl 0 rfl) ?_
                  refine lv_iload_n S.1 S.2.1 d_M_connect_47 rfl (lv_at hl 1 rfl) ?_
                  refine lv_iload_n S.1 S.2.1 d_M_connect_48 rfl (lv_at hl 2 rfl) ?_
                  cases hc49 : F_M_isLink n v1 v2 st10 with
                  | none => rw [hc49] at hF; cases hF
                  | some u49 =>
                    obtain ⟨r49, st49⟩ := u49
                    rw [hc49] at hF
                    replace hF := zbind hF
                    refine zr_callV (rest := []) S zT_good (C_M_isLink hn hD l v1 v2 st10 (r49, st49) hc49) zn_M_isLink zx_97 ⟨rfl, rfl⟩ ⟨Nat.le_of_ble_eq_true rfl, Nat.le_of_ble_eq_true rfl⟩ ⟨Nat.zero_le _, Nat.zero_le _⟩ hK (zr_recv hK hP zkm_0 rfl rfl) hP hl.1 (Nat.le_of_ble_eq_true rfl) hS (fun _ h => h) d_M_connect_49 rfl (fun o H locs hpo _ _ hS => ?_)
                    obtain ⟨rfl, hP⟩ := hpo
                    refine W.eq (g2 := F0 m 52 ls [.int r49]) rfl ?_
                    replace hF : F_M_connect_s3 n v1 v2 v3 r49 st49 = some out := hF
                    replace hP : zV (dC, dI) zcl zKm ad (zmE n cI cZ ad) st49 H := hP
                    unfold F_M_connect_s3 at hF
                    refine lv_istore S.1 S.2.1 d_M_connect_52 hl (by decide) rfl (fun ls hl => ?_)
                    have hl : lv_has ls 7 [(4, .int r49), (0, .ref (ad (0, 0))), (1, .int v1), (2, .int v2), (3, .int v3)] := hl
                    refine lv_iload_n S.1 S.2.1 d_M_connect_54 rfl (lv_at hl 2 rfl) ?_
                    refine lv_iload_n S.1 S.2.1 d_M_connect_55 rfl (lv_at hl 3 rfl) ?_
                    refine lv_icmp_ge (tgt := 63) S.1 S.2.1 d_M_connect_56 (by decide) (fun h56 => ?_) (fun h56 => ?_)
                    · rw [if_pos h56] at hF
                      refine lv_iload_n S.1 S.2.1 d_M_connect_63 rfl (lv_at hl 3 rfl) ?_
                      exact T_M_connect_L64 hn hD S hret hlk hK out v1 v2 v3 r49 v2 st49 _ _ _ hP hS (lv_sub hl [1, 2, 3, 4, 0] rfl) hF
                    · rw [if_neg h56] at hF
                      refine lv_iload_n S.1 S.2.1 d_M_connect_59 rfl (lv_at hl 2 rfl) ?_
                      refine lv_goto (tgt := 64) S.1 S.2.1 d_M_connect_60 (by decide) ?_
                      exact T_M_connect_L64 hn hD S hret hlk hK out v1 v2 v3 r49 v1 st49 _ _ _ hP hS (lv_sub hl [1, 2, 3, 4, 0] rfl) hF
                · rw [if_neg h40] at hF
                  refine lv_bipush (v := (-2)) S.1 S.2.1 d_M_connect_43 (by decide) ?_
                  cases hF
                  exact zr_iret S hret hlk hS d_M_connect_45 ⟨rfl, hP⟩
              · rw [if_neg h29] at hF
                refine lv_iconst (v := (-1)) S.1 S.2.1 d_M_connect_32 (by decide) ?_
                cases hF
                exact zr_iret S hret hlk hS d_M_connect_33 ⟨rfl, hP⟩

