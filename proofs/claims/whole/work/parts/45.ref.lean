theorem d_M_look_0 : decode b_M_look 0 = .ok (.bipush 6, 2) := by decide +kernel
theorem d_M_look_2 : decode b_M_look 2 = .ok (.iload_n 1, 1) := by decide +kernel
theorem d_M_look_3 : decode b_M_look 3 = .ok (.imul, 1) := by decide +kernel
theorem d_M_look_4 : decode b_M_look 4 = .ok (.iload_n 2, 1) := by decide +kernel
theorem d_M_look_5 : decode b_M_look 5 = .ok (.iadd, 1) := by decide +kernel
theorem d_M_look_6 : decode b_M_look 6 = .ok (.istore 4, 2) := by decide +kernel
theorem d_M_look_8 : decode b_M_look 8 = .ok (.aload_n 0, 1) := by decide +kernel
theorem d_M_look_9 : decode b_M_look 9 = .ok (.iload_n 1, 1) := by decide +kernel
theorem d_M_look_10 : decode b_M_look 10 = .ok (.iload_n 2, 1) := by decide +kernel
theorem d_M_look_11 : decode b_M_look 11 = .ok (.invokevirtual 87, 3) := by decide +kernel
theorem d_M_look_14 : decode b_M_look 14 = .ok (.ifCond .eq 57, 3) := by decide +kernel
theorem d_M_look_17 : decode b_M_look 17 = .ok (.aload_n 0, 1) := by decide +kernel
theorem d_M_look_18 : decode b_M_look 18 = .ok (.getfield 13, 3) := by decide +kernel
theorem d_M_look_21 : decode b_M_look 21 = .ok (.iload 4, 2) := by decide +kernel
theorem d_M_look_23 : decode b_M_look 23 = .ok (.iaload, 1) := by decide +kernel
theorem d_M_look_24 : decode b_M_look 24 = .ok (.istore 5, 2) := by decide +kernel
theorem d_M_look_26 : decode b_M_look 26 = .ok (.aload_n 0, 1) := by decide +kernel
theorem d_M_look_27 : decode b_M_look 27 = .ok (.iload_n 1, 1) := by decide +kernel
theorem d_M_look_28 : decode b_M_look 28 = .ok (.iload_n 2, 1) := by decide +kernel
theorem d_M_look_29 : decode b_M_look 29 = .ok (.invokevirtual 91, 3) := by decide +kernel
theorem d_M_look_32 : decode b_M_look 32 = .ok (.iload_n 3, 1) := by decide +kernel
theorem d_M_look_33 : decode b_M_look 33 = .ok (.ifCond .lt 11, 3) := by decide +kernel
theorem d_M_look_36 : decode b_M_look 36 = .ok (.aload_n 0, 1) := by decide +kernel
theorem d_M_look_37 : decode b_M_look 37 = .ok (.iload_n 1, 1) := by decide +kernel
theorem d_M_look_38 : decode b_M_look 38 = .ok (.iload_n 3, 1) := by decide +kernel
theorem d_M_look_39 : decode b_M_look 39 = .ok (.iconst 2, 1) := by decide +kernel
theorem d_M_look_40 : decode b_M_look 40 = .ok (.iload_n 2, 1) := by decide +kernel
theorem d_M_look_41 : decode b_M_look 41 = .ok (.invokevirtual 67, 3) := by decide +kernel
theorem d_M_look_44 : decode b_M_look 44 = .ok (.aload_n 0, 1) := by decide +kernel
theorem d_M_look_45 : decode b_M_look 45 = .ok (.getfield 13, 3) := by decide +kernel
theorem d_M_look_48 : decode b_M_look 48 = .ok (.iload 4, 2) := by decide +kernel
theorem d_M_look_50 : decode b_M_look 50 = .ok (.iaload, 1) := by decide +kernel
theorem d_M_look_51 : decode b_M_look 51 = .ok (.iload 5, 2) := by decide +kernel
theorem d_M_look_53 : decode b_M_look 53 = .ok (.if_icmp .ne 7, 3) := by decide +kernel
theorem d_M_look_56 : decode b_M_look 56 = .ok (.iconst 0, 1) := by decide +kernel
theorem d_M_look_57 : decode b_M_look 57 = .ok (.goto 11, 3) := by decide +kernel
theorem d_M_look_60 : decode b_M_look 60 = .ok (.aload_n 0, 1) := by decide +kernel
theorem d_M_look_61 : decode b_M_look 61 = .ok (.iload_n 1, 1) := by decide +kernel
theorem d_M_look_62 : decode b_M_look 62 = .ok (.iload_n 2, 1) := by decide +kernel
theorem d_M_look_63 : decode b_M_look 63 = .ok (.iconst 0, 1) := by decide +kernel
theorem d_M_look_64 : decode b_M_look 64 = .ok (.iload_n 3, 1) := by decide +kernel
theorem d_M_look_65 : decode b_M_look 65 = .ok (.invokevirtual 83, 3) := by decide +kernel
theorem d_M_look_68 : decode b_M_look 68 = .ok (.istore 6, 2) := by decide +kernel
theorem d_M_look_70 : decode b_M_look 70 = .ok (.return_, 1) := by decide +kernel
theorem d_M_look_71 : decode b_M_look 71 = .ok (.aload_n 0, 1) := by decide +kernel
theorem d_M_look_72 : decode b_M_look 72 = .ok (.getfield 13, 3) := by decide +kernel
theorem d_M_look_75 : decode b_M_look 75 = .ok (.iload 4, 2) := by decide +kernel
theorem d_M_look_77 : decode b_M_look 77 = .ok (.aload_n 0, 1) := by decide +kernel
theorem d_M_look_78 : decode b_M_look 78 = .ok (.iload_n 1, 1) := by decide +kernel
theorem d_M_look_79 : decode b_M_look 79 = .ok (.iload_n 2, 1) := by decide +kernel
theorem d_M_look_80 : decode b_M_look 80 = .ok (.aload_n 0, 1) := by decide +kernel
theorem d_M_look_81 : decode b_M_look 81 = .ok (.getfield 19, 3) := by decide +kernel
theorem d_M_look_84 : decode b_M_look 84 = .ok (.iload 4, 2) := by decide +kernel
theorem d_M_look_86 : decode b_M_look 86 = .ok (.iaload, 1) := by decide +kernel
theorem d_M_look_87 : decode b_M_look 87 = .ok (.invokevirtual 71, 3) := by decide +kernel
theorem d_M_look_90 : decode b_M_look 90 = .ok (.iastore, 1) := by decide +kernel
theorem d_M_look_91 : decode b_M_look 91 = .ok (.aload_n 0, 1) := by decide +kernel
theorem d_M_look_92 : decode b_M_look 92 = .ok (.getfield 22, 3) := by decide +kernel
theorem d_M_look_95 : decode b_M_look 95 = .ok (.iload 4, 2) := by decide +kernel
theorem d_M_look_97 : decode b_M_look 97 = .ok (.iconst 1, 1) := by decide +kernel
theorem d_M_look_98 : decode b_M_look 98 = .ok (.bastore, 1) := by decide +kernel
theorem d_M_look_99 : decode b_M_look 99 = .ok (.aload_n 0, 1) := by decide +kernel
theorem d_M_look_100 : decode b_M_look 100 = .ok (.getfield 29, 3) := by decide +kernel
theorem d_M_look_103 : decode b_M_look 103 = .ok (.iload 4, 2) := by decide +kernel
theorem d_M_look_105 : decode b_M_look 105 = .ok (.iconst 0, 1) := by decide +kernel
theorem d_M_look_106 : decode b_M_look 106 = .ok (.bastore, 1) := by decide +kernel
theorem d_M_look_107 : decode b_M_look 107 = .ok (.aload_n 0, 1) := by decide +kernel
theorem d_M_look_108 : decode b_M_look 108 = .ok (.getfield 26, 3) := by decide +kernel
theorem d_M_look_111 : decode b_M_look 111 = .ok (.iload 4, 2) := by decide +kernel
theorem d_M_look_113 : decode b_M_look 113 = .ok (.iload_n 3, 1) := by decide +kernel
theorem d_M_look_114 : decode b_M_look 114 = .ok (.ifCond .lt 18, 3) := by decide +kernel
theorem d_M_look_117 : decode b_M_look 117 = .ok (.iload_n 3, 1) := by decide +kernel
theorem d_M_look_118 : decode b_M_look 118 = .ok (.aload_n 0, 1) := by decide +kernel
theorem d_M_look_119 : decode b_M_look 119 = .ok (.getfield 19, 3) := by decide +kernel
theorem d_M_look_122 : decode b_M_look 122 = .ok (.iload 4, 2) := by decide +kernel
theorem d_M_look_124 : decode b_M_look 124 = .ok (.iaload, 1) := by decide +kernel
theorem d_M_look_125 : decode b_M_look 125 = .ok (.if_icmp .ne 7, 3) := by decide +kernel
theorem d_M_look_128 : decode b_M_look 128 = .ok (.iconst 1, 1) := by decide +kernel
theorem d_M_look_129 : decode b_M_look 129 = .ok (.goto 4, 3) := by decide +kernel
theorem d_M_look_132 : decode b_M_look 132 = .ok (.iconst 0, 1) := by decide +kernel
theorem d_M_look_133 : decode b_M_look 133 = .ok (.bastore, 1) := by decide +kernel
theorem d_M_look_134 : decode b_M_look 134 = .ok (.iload_n 3, 1) := by decide +kernel
theorem d_M_look_135 : decode b_M_look 135 = .ok (.ifCond .lt 21, 3) := by decide +kernel
theorem d_M_look_138 : decode b_M_look 138 = .ok (.aload_n 0, 1) := by decide +kernel
theorem d_M_look_139 : decode b_M_look 139 = .ok (.getfield 26, 3) := by decide +kernel
theorem d_M_look_142 : decode b_M_look 142 = .ok (.iload 4, 2) := by decide +kernel
theorem d_M_look_144 : decode b_M_look 144 = .ok (.baload, 1) := by decide +kernel
theorem d_M_look_145 : decode b_M_look 145 = .ok (.ifCond .ne 11, 3) := by decide +kernel
theorem d_M_look_148 : decode b_M_look 148 = .ok (.aload_n 0, 1) := by decide +kernel
theorem d_M_look_149 : decode b_M_look 149 = .ok (.iload_n 1, 1) := by decide +kernel
theorem d_M_look_150 : decode b_M_look 150 = .ok (.iload_n 3, 1) := by decide +kernel
theorem d_M_look_151 : decode b_M_look 151 = .ok (.iconst 2, 1) := by decide +kernel
theorem d_M_look_152 : decode b_M_look 152 = .ok (.iload_n 2, 1) := by decide +kernel
theorem d_M_look_153 : decode b_M_look 153 = .ok (.invokevirtual 67, 3) := by decide +kernel
theorem d_M_look_156 : decode b_M_look 156 = .ok (.aload_n 0, 1) := by decide +kernel
theorem d_M_look_157 : decode b_M_look 157 = .ok (.iload_n 1, 1) := by decide +kernel
theorem d_M_look_158 : decode b_M_look 158 = .ok (.iload_n 2, 1) := by decide +kernel
theorem d_M_look_159 : decode b_M_look 159 = .ok (.invokevirtual 95, 3) := by decide +kernel
theorem d_M_look_162 : decode b_M_look 162 = .ok (.ifCond .ne 9, 3) := by decide +kernel
theorem d_M_look_165 : decode b_M_look 165 = .ok (.aload_n 0, 1) := by decide +kernel
theorem d_M_look_166 : decode b_M_look 166 = .ok (.iload_n 1, 1) := by decide +kernel
theorem d_M_look_167 : decode b_M_look 167 = .ok (.iload_n 2, 1) := by decide +kernel
theorem d_M_look_168 : decode b_M_look 168 = .ok (.invokevirtual 98, 3) := by decide +kernel
theorem d_M_look_171 : decode b_M_look 171 = .ok (.return_, 1) := by decide +kernel
def F_M_look_L44_s1 (n : Nat) (t0 : Int32) (st : zS) : Option (Int32 × zS) :=
    some (0, st)

def F_M_look_L44 (n : Nat) (v1 : Int32) (v2 : Int32) (v3 : Int32) (v4 : Int32) (v5 : Int32) (st : zS) : Option (Int32 × zS) :=
    if zOut v4 36 then none else if (st 2 0 (Int32.toNatClampNeg v4)) = v5 then (some (0, st)) else ((F_M_tellAll n v1 v2 0 v3 st).bind (fun u => F_M_look_L44_s1 n u.1 u.2))

def F_M_look_L156_s2 (n : Nat) (st : zS) : Option (Int32 × zS) :=
    some (0, st)

def F_M_look_L156_s1 (n : Nat) (v1 : Int32) (v2 : Int32) (t0 : Int32) (st : zS) : Option (Int32 × zS) :=
    if t0 = 0 then ((F_M_end n v1 v2 st).bind (fun u => F_M_look_L156_s2 n u.2)) else (some (0, st))

def F_M_look_L156 (n : Nat) (v1 : Int32) (v2 : Int32) (st : zS) : Option (Int32 × zS) :=
    (F_M_askAll n v1 v2 st).bind (fun u => F_M_look_L156_s1 n v1 v2 u.1 u.2)

def F_M_look_L133_s2 (n : Nat) (v1 : Int32) (v2 : Int32) (st : zS) : Option (Int32 × zS) :=
    F_M_look_L156 n v1 v2 st

def F_M_look_L133_s1 (n : Nat) (v1 : Int32) (v2 : Int32) (v3 : Int32) (v4 : Int32) (st : zS) : Option (Int32 × zS) :=
    if v3 < 0 then (F_M_look_L156 n v1 v2 st) else (if zOut v4 36 then none else if (st 6 0 (Int32.toNatClampNeg v4)) = 0 then ((F_M_send n v1 v3 2 v2 st).bind (fun u => F_M_look_L133_s2 n v1 v2 u.2)) else (F_M_look_L156 n v1 v2 st))

def F_M_look_L133 (n : Nat) (v1 : Int32) (v2 : Int32) (v3 : Int32) (v4 : Int32) (t1 : Int32) (t2 : Int32) (st : zS) : Option (Int32 × zS) :=
    if zOut t1 36 then none else if ¬ (t2 = 0 ∨ t2 = 1) then none else F_M_look_L133_s1 n v1 v2 v3 v4 (zs st 6 0 (Int32.toNatClampNeg t1) t2)

def F_M_look_L132 (n : Nat) (v1 : Int32) (v2 : Int32) (v3 : Int32) (v4 : Int32) (t1 : Int32) (st : zS) : Option (Int32 × zS) :=
    F_M_look_L133 n v1 v2 v3 v4 t1 0 st

def F_M_look_s5 (n : Nat) (v4 : Int32) (v1 : Int32) (v2 : Int32) (v3 : Int32) (st : zS) : Option (Int32 × zS) :=
    if v3 < 0 then (F_M_look_L132 n v1 v2 v3 v4 v4 st) else (if zOut v4 36 then none else if v3 = (st 4 0 (Int32.toNatClampNeg v4)) then (F_M_look_L133 n v1 v2 v3 v4 v4 1 st) else (F_M_look_L132 n v1 v2 v3 v4 v4 st))

def F_M_look_s4 (n : Nat) (v4 : Int32) (v1 : Int32) (v2 : Int32) (v3 : Int32) (st : zS) : Option (Int32 × zS) :=
    if zOut v4 36 then none else F_M_look_s5 n v4 v1 v2 v3 (zs st 7 0 (Int32.toNatClampNeg v4) 0)

def F_M_look_s3 (n : Nat) (v4 : Int32) (v1 : Int32) (v2 : Int32) (v3 : Int32) (st : zS) : Option (Int32 × zS) :=
    if zOut v4 36 then none else F_M_look_s4 n v4 v1 v2 v3 (zs st 5 0 (Int32.toNatClampNeg v4) 1)

def F_M_look_s2 (n : Nat) (v4 : Int32) (v1 : Int32) (v2 : Int32) (v3 : Int32) (t1 : Int32) (t2 : Int32) (st : zS) : Option (Int32 × zS) :=
    if zOut t1 36 then none else F_M_look_s3 n v4 v1 v2 v3 (zs st 2 0 (Int32.toNatClampNeg t1) t2)

def F_M_look_s7 (n : Nat) (v5 : Int32) (v4 : Int32) (v1 : Int32) (v2 : Int32) (v3 : Int32) (st : zS) : Option (Int32 × zS) :=
    F_M_look_L44 n v1 v2 v3 v4 v5 st

def F_M_look_s6 (n : Nat) (v5 : Int32) (v4 : Int32) (v1 : Int32) (v2 : Int32) (v3 : Int32) (st : zS) : Option (Int32 × zS) :=
    if v3 < 0 then (F_M_look_L44 n v1 v2 v3 v4 v5 st) else ((F_M_send n v1 v3 2 v2 st).bind (fun u => F_M_look_s7 n v5 v4 v1 v2 v3 u.2))

def F_M_look_s1 (n : Nat) (v4 : Int32) (v1 : Int32) (v2 : Int32) (v3 : Int32) (t0 : Int32) (st : zS) : Option (Int32 × zS) :=
    if t0 = 0 then (if zOut v4 36 then none else (F_M_through n v1 v2 (st 4 0 (Int32.toNatClampNeg v4)) st).bind (fun u => F_M_look_s2 n v4 v1 v2 v3 v4 u.1 u.2)) else (if zOut v4 36 then none else (F_M_settle n v1 v2 st).bind (fun u => F_M_look_s6 n (st 2 0 (Int32.toNatClampNeg v4)) v4 v1 v2 v3 u.2))

def F_M_look (n : Nat) (v1 : Int32) (v2 : Int32) (v3 : Int32) (st : zS) : Option (Int32 × zS) :=
    (F_M_isFine n v1 v2 st).bind (fun u => F_M_look_s1 n ((6 * v1) + v2) v1 v2 v3 u.1 u.2)

set_option maxHeartbeats 4000000 in
set_option maxRecDepth 1000000 in
theorem T_M_look_L44 {dC : Nat → ClassId} {dI : Nat → Nat → Nat} {cI cZ cR cA : ClassId} {n : Nat} {ad : zK → Nat} {A : Nat → Prop} (hn : 2 ≤ n ∧ n ≤ 6) (hD : zD A zKm ad) {p : Program} {l : Launch} {e : Env} {s : State} {m : MethodId} {args : Array Value} {below : List Frame} {meth : Method} {c : Code} (S : CallFix p m c b_M_look 7 s args zT N_M) (hret : meth.sig.returnType = none) (hlk : meth.locks = false) (hK : va_K (dC, dI) zcl (zty cI cZ cR cA) s) (out : Int32 × zS) (v1 : Int32) (v2 : Int32) (v3 : Int32) (v4 : Int32) (v5 : Int32) (st : zS) (H : Heap) (locs : List Loc) (ls : Array Slot) (hP : zV (dC, dI) zcl zKm ad (zmE n cI cZ ad) st H) (hS : va_S A s.heap H locs) (hl : lv_has ls 7 [(0, .ref (ad (0, 0))), (1, .int v1), (2, .int v2), (3, .int v3), (4, .int v4), (5, .int v5)]) (hF : F_M_look_L44 n v1 v2 v3 v4 v5 st = some out) : W p l e rm_M_look s m args below meth c H locs 0 0 (zQ below A (fun o H => o = none ∧ zV (dC, dI) zcl zKm ad (zmE n cI cZ ad) out.2 H) args s) (F0 m 44 ls []) := by
  unfold F_M_look_L44 at hF
  refine lv_aload_n S.1 S.2.1 d_M_look_44 rfl (lv_at hl 0 rfl) ?_
  refine zr_get (v := .ref (ad (2, 0))) S zi_M hK hP zkm_0 rfl rfl 2 (by decide) zx_25 rfl d_M_look_45 ?_
  refine lv_iload S.1 S.2.1 d_M_look_48 (lv_at hl 4 rfl) ?_
  by_cases g50 : zOut v4 36
  · rw [if_pos g50] at hF; cases hF
  rw [if_neg g50] at hF
  refine zr_iald S hK hP zkm_2 rfl 0 rfl g50 d_M_look_50 ?_
  refine lv_iload S.1 S.2.1 d_M_look_51 (lv_at hl 5 rfl) ?_
  refine lv_icmp_ne (tgt := 60) S.1 S.2.1 d_M_look_53 (by decide) (fun h53 => ?_) (fun h53 => ?_)
  · rw [if_neg h53] at hF
    refine lv_aload_n S.1 S.2.1 d_M_look_60 rfl (lv_at hl 0 rfl) ?_
    refine lv_iload_n S.1 S.2.1 d_M_look_61 rfl (lv_at hl 1 rfl) ?_
    refine lv_iload_n S.1 S.2.1 d_M_look_62 rfl (lv_at hl 2 rfl) ?_
    refine lv_iconst (v := 0) S.1 S.2.1 d_M_look_63 (by decide) ?_
    refine lv_iload_n S.1 S.2.1 d_M_look_64 rfl (lv_at hl 3 rfl) ?_
    cases hc65 : F_M_tellAll n v1 v2 0 v3 st with
    | none => rw [hc65] at hF; cases hF
    | some u65 =>
      obtain ⟨r65, st65⟩ := u65
      rw [hc65] at hF
      replace hF := zbind hF
      refine zr_callV (rest := []) S zT_good (C_M_tellAll hn hD l v1 v2 0 v3 st (r65, st65) hc65) zn_M_tellAll zx_111 ⟨rfl, rfl⟩ ⟨Nat.le_of_ble_eq_true rfl, Nat.le_of_ble_eq_true rfl⟩ ⟨Nat.zero_le _, Nat.zero_le _⟩ hK (zr_recv hK hP zkm_0 rfl rfl) hP hl.1 (Nat.le_of_ble_eq_true rfl) hS (fun _ h => h) d_M_look_65 rfl (fun o H locs hpo _ _ hS => ?_)
      obtain ⟨rfl, hP⟩ := hpo
      refine W.eq (g2 := F0 m 68 ls [.int r65]) rfl ?_
      replace hF : F_M_look_L44_s1 n r65 st65 = some out := hF
      replace hP : zV (dC, dI) zcl zKm ad (zmE n cI cZ ad) st65 H := hP
      unfold F_M_look_L44_s1 at hF
      refine lv_istore S.1 S.2.1 d_M_look_68 hl (by decide) rfl (fun ls hl => ?_)
      have hl : lv_has ls 7 [(6, .int r65), (0, .ref (ad (0, 0))), (1, .int v1), (2, .int v2), (3, .int v3), (4, .int v4), (5, .int v5)] := hl
      cases hF
      exact zr_vret S hret hlk hS d_M_look_70 ⟨rfl, hP⟩
  · rw [if_pos h53] at hF
    refine lv_iconst (v := 0) S.1 S.2.1 d_M_look_56 (by decide) ?_
    refine lv_goto (tgt := 68) S.1 S.2.1 d_M_look_57 (by decide) ?_
    refine lv_istore S.1 S.2.1 d_M_look_68 hl (by decide) rfl (fun ls hl => ?_)
    have hl : lv_has ls 7 [(6, .int 0), (0, .ref (ad (0, 0))), (1, .int v1), (2, .int v2), (3, .int v3), (4, .int v4), (5, .int v5)] := hl
    cases hF
    exact zr_vret S hret hlk hS d_M_look_70 ⟨rfl, hP⟩

set_option maxHeartbeats 4000000 in
set_option maxRecDepth 1000000 in
theorem T_M_look_L156 {dC : Nat → ClassId} {dI : Nat → Nat → Nat} {cI cZ cR cA : ClassId} {n : Nat} {ad : zK → Nat} {A : Nat → Prop} (hn : 2 ≤ n ∧ n ≤ 6) (hD : zD A zKm ad) {p : Program} {l : Launch} {e : Env} {s : State} {m : MethodId} {args : Array Value} {below : List Frame} {meth : Method} {c : Code} (S : CallFix p m c b_M_look 7 s args zT N_M) (hret : meth.sig.returnType = none) (hlk : meth.locks = false) (hK : va_K (dC, dI) zcl (zty cI cZ cR cA) s) (out : Int32 × zS) (v1 : Int32) (v2 : Int32) (st : zS) (H : Heap) (locs : List Loc) (ls : Array Slot) (hP : zV (dC, dI) zcl zKm ad (zmE n cI cZ ad) st H) (hS : va_S A s.heap H locs) (hl : lv_has ls 7 [(0, .ref (ad (0, 0))), (1, .int v1), (2, .int v2)]) (hF : F_M_look_L156 n v1 v2 st = some out) : W p l e rm_M_look s m args below meth c H locs 0 0 (zQ below A (fun o H => o = none ∧ zV (dC, dI) zcl zKm ad (zmE n cI cZ ad) out.2 H) args s) (F0 m 156 ls []) := by
  unfold F_M_look_L156 at hF
  refine lv_aload_n S.1 S.2.1 d_M_look_156 rfl (lv_at hl 0 rfl) ?_
  refine lv_iload_n S.1 S.2.1 d_M_look_157 rfl (lv_at hl 1 rfl) ?_
  refine lv_iload_n S.1 S.2.1 d_M_look_158 rfl (lv_at hl 2 rfl) ?_
  cases hc159 : F_M_askAll n v1 v2 st with
  | none => rw [hc159] at hF; cases hF
  | some u159 =>
    obtain ⟨r159, st159⟩ := u159
    rw [hc159] at hF
    replace hF := zbind hF
    refine zr_callV (rest := []) S zT_good (C_M_askAll hn hD l v1 v2 st (r159, st159) hc159) zn_M_askAll zx_114 ⟨rfl, rfl⟩ ⟨Nat.le_of_ble_eq_true rfl, Nat.le_of_ble_eq_true rfl⟩ ⟨Nat.zero_le _, Nat.zero_le _⟩ hK (zr_recv hK hP zkm_0 rfl rfl) hP hl.1 (Nat.le_of_ble_eq_true rfl) hS (fun _ h => h) d_M_look_159 rfl (fun o H locs hpo _ _ hS => ?_)
    obtain ⟨rfl, hP⟩ := hpo
    refine W.eq (g2 := F0 m 162 ls [.int r159]) rfl ?_
    replace hF : F_M_look_L156_s1 n v1 v2 r159 st159 = some out := hF
    replace hP : zV (dC, dI) zcl zKm ad (zmE n cI cZ ad) st159 H := hP
    unfold F_M_look_L156_s1 at hF
    refine lv_if_ne (tgt := 171) S.1 S.2.1 d_M_look_162 (by decide) (fun h162 => ?_) (fun h162 => ?_)
    · rw [if_neg h162] at hF
      cases hF
      exact zr_vret S hret hlk hS d_M_look_171 ⟨rfl, hP⟩
    · rw [if_pos h162] at hF
      refine lv_aload_n S.1 S.2.1 d_M_look_165 rfl (lv_at hl 0 rfl) ?_
      refine lv_iload_n S.1 S.2.1 d_M_look_166 rfl (lv_at hl 1 rfl) ?_
      refine lv_iload_n S.1 S.2.1 d_M_look_167 rfl (lv_at hl 2 rfl) ?_
      cases hc168 : F_M_end n v1 v2 st159 with
      | none => rw [hc168] at hF; cases hF
      | some u168 =>
        obtain ⟨r168, st168⟩ := u168
        rw [hc168] at hF
        replace hF := zbind hF
        refine zr_callV (rest := []) S zT_good (C_M_end hn hD l v1 v2 st159 (r168, st168) hc168) zn_M_end zx_115 ⟨rfl, rfl⟩ ⟨Nat.le_of_ble_eq_true rfl, Nat.le_of_ble_eq_true rfl⟩ ⟨Nat.zero_le _, Nat.zero_le _⟩ hK (zr_recv hK hP zkm_0 rfl rfl) hP hl.1 (Nat.le_of_ble_eq_true rfl) hS (fun _ h => h) d_M_look_168 rfl (fun o H locs hpo _ _ hS => ?_)
        obtain ⟨rfl, hP⟩ := hpo
        refine W.eq (g2 := F0 m 171 ls []) rfl ?_
        replace hF : F_M_look_L156_s2 n st168 = some out := hF
        replace hP : zV (dC, dI) zcl zKm ad (zmE n cI cZ ad) st168 H := hP
        unfold F_M_look_L156_s2 at hF
        cases hF
        exact zr_vret S hret hlk hS d_M_look_171 ⟨rfl, hP⟩

set_option maxHeartbeats 4000000 in
set_option maxRecDepth 1000000 in
theorem T_M_look_L133 {dC : Nat → ClassId} {dI : Nat → Nat → Nat} {cI cZ cR cA : ClassId} {n : Nat} {ad : zK → Nat} {A : Nat → Prop} (hn : 2 ≤ n ∧ n ≤ 6) (hD : zD A zKm ad) {p : Program} {l : Launch} {e : Env} {s : State} {m : MethodId} {args : Array Value} {below : List Frame} {meth : Method} {c : Code} (S : CallFix p m c b_M_look 7 s args zT N_M) (hret : meth.sig.returnType = none) (hlk : meth.locks = false) (hK : va_K (dC, dI) zcl (zty cI cZ cR cA) s) (out : Int32 × zS) (v1 : Int32) (v2 : Int32) (v3 : Int32) (v4 : Int32) (t1 : Int32) (t2 : Int32) (st : zS) (H : Heap) (locs : List Loc) (ls : Array Slot) (hP : zV (dC, dI) zcl zKm ad (zmE n cI cZ ad) st H) (hS : va_S A s.heap H locs) (hl : lv_has ls 7 [(0, .ref (ad (0, 0))), (1, .int v1), (2, .int v2), (3, .int v3), (4, .int v4)]) (hF : F_M_look_L133 n v1 v2 v3 v4 t1 t2 st = some out) : W p l e rm_M_look s m args below meth c H locs 0 0 (zQ below A (fun o H => o = none ∧ zV (dC, dI) zcl zKm ad (zmE n cI cZ ad) out.2 H) args s) (F0 m 133 ls [.int t2, .int t1, .ref (ad (6, 0))]) := by
  unfold F_M_look_L133 at hF
  by_cases g133 : zOut t1 36
  · rw [if_pos g133] at hF; cases hF
  rw [if_neg g133] at hF
  by_cases b133 : ¬ (t2 = 0 ∨ t2 = 1)
  · rw [if_pos b133] at hF; cases hF
  rw [if_neg b133] at hF
  refine zr_zast S hK hP hD hS zkm_6 (fun _ => rfl) 1 rfl g133 (Decidable.not_not.mp b133) d_M_look_133 (fun H locs hP hS => ?_)
  replace hF : F_M_look_L133_s1 n v1 v2 v3 v4 (zs st 6 0 (Int32.toNatClampNeg t1) t2) = some out := hF
  generalize zs st 6 0 (Int32.toNatClampNeg t1) t2 = st134 at hP hF
  unfold F_M_look_L133_s1 at hF
  refine lv_iload_n S.1 S.2.1 d_M_look_134 rfl (lv_at hl 3 rfl) ?_
  refine lv_if_lt (tgt := 156) S.1 S.2.1 d_M_look_135 (by decide) (fun h135 => ?_) (fun h135 => ?_)
  · rw [if_pos h135] at hF
    exact T_M_look_L156 hn hD S hret hlk hK out v1 v2 st134 _ _ _ hP hS (lv_sub hl [0, 1, 2] rfl) hF
  · rw [if_neg h135] at hF
    refine lv_aload_n S.1 S.2.1 d_M_look_138 rfl (lv_at hl 0 rfl) ?_
    refine zr_get (v := .ref (ad (6, 0))) S zi_M hK hP zkm_0 rfl rfl 6 (by decide) zx_29 rfl d_M_look_139 ?_
    refine lv_iload S.1 S.2.1 d_M_look_142 (lv_at hl 4 rfl) ?_
    by_cases g144 : zOut v4 36
    · rw [if_pos g144] at hF; cases hF
    rw [if_neg g144] at hF
    refine zr_zald S hK hP zkm_6 rfl 1 rfl g144 d_M_look_144 ?_
    refine lv_if_ne (tgt := 156) S.1 S.2.1 d_M_look_145 (by decide) (fun h145 => ?_) (fun h145 => ?_)
    · rw [if_neg h145] at hF
      exact T_M_look_L156 hn hD S hret hlk hK out v1 v2 st134 _ _ _ hP hS (lv_sub hl [0, 1, 2] rfl) hF
    · rw [if_pos h145] at hF
      refine lv_aload_n S.1 S.2.1 d_M_look_148 rfl (lv_at hl 0 rfl) ?_
      refine lv_iload_n S.1 S.2.1 d_M_look_149 rfl (lv_at hl 1 rfl) ?_
      refine lv_iload_n S.1 S.2.1 d_M_look_150 rfl (lv_at hl 3 rfl) ?_
      refine lv_iconst (v := 2) S.1 S.2.1 d_M_look_151 (by decide) ?_
      refine lv_iload_n S.1 S.2.1 d_M_look_152 rfl (lv_at hl 2 rfl) ?_
      cases hc153 : F_M_send n v1 v3 2 v2 st134 with
      | none => rw [hc153] at hF; cases hF
      | some u153 =>
        obtain ⟨r153, st153⟩ := u153
        rw [hc153] at hF
        replace hF := zbind hF
        refine zr_callV (rest := []) S zT_good (C_M_send hn hD l v1 v3 2 v2 st134 (r153, st153) hc153) zn_M_send zx_107 ⟨rfl, rfl⟩ ⟨Nat.le_of_ble_eq_true rfl, Nat.le_of_ble_eq_true rfl⟩ ⟨Nat.zero_le _, Nat.zero_le _⟩ hK (zr_recv hK hP zkm_0 rfl rfl) hP hl.1 (Nat.le_of_ble_eq_true rfl) hS (fun _ h => h) d_M_look_153 rfl (fun o H locs hpo _ _ hS => ?_)
        obtain ⟨rfl, hP⟩ := hpo
        refine W.eq (g2 := F0 m 156 ls []) rfl ?_
        replace hF : F_M_look_L133_s2 n v1 v2 st153 = some out := hF
        replace hP : zV (dC, dI) zcl zKm ad (zmE n cI cZ ad) st153 H := hP
        unfold F_M_look_L133_s2 at hF
        exact T_M_look_L156 hn hD S hret hlk hK out v1 v2 st153 _ _ _ hP hS (lv_sub hl [0, 1, 2] rfl) hF

set_option maxHeartbeats 4000000 in
set_option maxRecDepth 1000000 in
theorem T_M_look_L132 {dC : Nat → ClassId} {dI : Nat → Nat → Nat} {cI cZ cR cA : ClassId} {n : Nat} {ad : zK → Nat} {A : Nat → Prop} (hn : 2 ≤ n ∧ n ≤ 6) (hD : zD A zKm ad) {p : Program} {l : Launch} {e : Env} {s : State} {m : MethodId} {args : Array Value} {below : List Frame} {meth : Method} {c : Code} (S : CallFix p m c b_M_look 7 s args zT N_M) (hret : meth.sig.returnType = none) (hlk : meth.locks = false) (hK : va_K (dC, dI) zcl (zty cI cZ cR cA) s) (out : Int32 × zS) (v1 : Int32) (v2 : Int32) (v3 : Int32) (v4 : Int32) (t1 : Int32) (st : zS) (H : Heap) (locs : List Loc) (ls : Array Slot) (hP : zV (dC, dI) zcl zKm ad (zmE n cI cZ ad) st H) (hS : va_S A s.heap H locs) (hl : lv_has ls 7 [(0, .ref (ad (0, 0))), (1, .int v1), (2, .int v2), (3, .int v3), (4, .int v4)]) (hF : F_M_look_L132 n v1 v2 v3 v4 t1 st = some out) : W p l e rm_M_look s m args below meth c H locs 0 0 (zQ below A (fun o H => o = none ∧ zV (dC, dI) zcl zKm ad (zmE n cI cZ ad) out.2 H) args s) (F0 m 132 ls [.int t1, .ref (ad (6, 0))]) := by
  unfold F_M_look_L132 at hF
  refine lv_iconst (v := 0) S.1 S.2.1 d_M_look_132 (by decide) ?_
  exact T_M_look_L133 hn hD S hret hlk hK out v1 v2 v3 v4 t1 0 st _ _ _ hP hS (lv_sub hl [0, 1, 2, 3, 4] rfl) hF

set_option maxHeartbeats 4000000 in
set_option maxRecDepth 1000000 in
theorem C_M_look {dC : Nat → ClassId} {dI : Nat → Nat → Nat} {cI cZ cR cA : ClassId} {n : Nat} {ad : zK → Nat} {A : Nat → Prop} (hn : 2 ≤ n ∧ n ≤ 6) (hD : zD A zKm ad) (l : Launch) (v1 : Int32) (v2 : Int32) (v3 : Int32) (st : zS) (out : Int32 × zS) (hF : F_M_look n v1 v2 v3 st = some out) : zC zT (dC, dI) zcl (zty cI cZ cR cA) A l y_M_look b_M_look 7 (none) rm_M_look [.ref (ad (0, 0)), .int v1, .int v2, .int v3] (fun H => zV (dC, dI) zcl zKm ad (zmE n cI cZ ad) st H) (fun o H => o = none ∧ zV (dC, dI) zcl zKm ad (zmE n cI cZ ad) out.2 H) := by
  refine zC_of (by decide) (Nat.le_of_ble_eq_true rfl) (fun p e s m args below meth c ls S hret hlk hK hP hl => ?_)
  have hS : va_S A s.heap s.heap [] := va_S.rf
  have hl : lv_has ls 7 [(0, .ref (ad (0, 0))), (1, .int v1), (2, .int v2), (3, .int v3)] := hl
  have hP : zV (dC, dI) zcl zKm ad (zmE n cI cZ ad) st s.heap := hP
  unfold F_M_look at hF
  refine lv_bipush (v := 6) S.1 S.2.1 d_M_look_0 (by decide) ?_
  refine lv_iload_n S.1 S.2.1 d_M_look_2 rfl (lv_at hl 1 rfl) ?_
  refine lv_imul S.1 S.2.1 d_M_look_3 ?_
  refine lv_iload_n S.1 S.2.1 d_M_look_4 rfl (lv_at hl 2 rfl) ?_
  refine lv_iadd S.1 S.2.1 d_M_look_5 ?_
  refine lv_istore S.1 S.2.1 d_M_look_6 hl (by decide) rfl (fun ls hl => ?_)
  have hl : lv_has ls 7 [(4, .int ((6 * v1) + v2)), (0, .ref (ad (0, 0))), (1, .int v1), (2, .int v2), (3, .int v3)] := hl
  refine lv_aload_n S.1 S.2.1 d_M_look_8 rfl (lv_at hl 1 rfl) ?_
  refine lv_iload_n S.1 S.2.1 d_M_look_9 rfl (lv_at hl 2 rfl) ?_
  refine lv_iload_n S.1 S.2.1 d_M_look_10 rfl (lv_at hl 3 rfl) ?_
  cases hc11 : F_M_isFine n v1 v2 st with
  | none => rw [hc11] at hF; cases hF
  | some u11 =>
    obtain ⟨r11, st11⟩ := u11
    rw [hc11] at hF
    replace hF := zbind hF
    refine zr_callV (rest := []) S zT_good (C_M_isFine hn hD l v1 v2 st (r11, st11) hc11) zn_M_isFine zx_112 ⟨rfl, rfl⟩ ⟨Nat.le_of_ble_eq_true rfl, Nat.le_of_ble_eq_true rfl⟩ ⟨Nat.zero_le _, Nat.zero_le _⟩ hK (zr_recv hK hP zkm_0 rfl rfl) hP hl.1 (Nat.le_of_ble_eq_true rfl) hS (fun _ h => h) d_M_look_11 rfl (fun o H locs hpo _ _ hS => ?_)
    obtain ⟨rfl, hP⟩ := hpo
    refine W.eq (g2 := F0 m 14 ls [.int r11]) rfl ?_
    replace hF : F_M_look_s1 n ((6 * v1) + v2) v1 v2 v3 r11 st11 = some out := hF
    replace hP : zV (dC, dI) zcl zKm ad (zmE n cI cZ ad) st11 H := hP
    unfold F_M_look_s1 at hF
    refine lv_if_eq (tgt := 71) S.1 S.2.1 d_M_look_14 (by decide) (fun h14 => ?_) (fun h14 => ?_)
    · rw [if_pos h14] at hF
      refine lv_aload_n S.1 S.2.1 d_M_look_71 rfl (lv_at hl 1 rfl) ?_
      refine zr_get (v := .ref (ad (2, 0))) S zi_M hK hP zkm_0 rfl rfl 2 (by decide) zx_25 rfl d_M_look_72 ?_
      refine lv_iload S.1 S.2.1 d_M_look_75 (lv_at hl 0 rfl) ?_
      refine lv_aload_n S.1 S.2.1 d_M_look_77 rfl (lv_at hl 1 rfl) ?_
      refine lv_iload_n S.1 S.2.1 d_M_look_78 rfl (lv_at hl 2 rfl) ?_
      refine lv_iload_n S.1 S.2.1 d_M_look_79 rfl (lv_at hl 3 rfl) ?_
      refine lv_aload_n S.1 S.2.1 d_M_look_80 rfl (lv_at hl 1 rfl) ?_
      refine zr_get (v := .ref (ad (4, 0))) S zi_M hK hP zkm_0 rfl rfl 4 (by decide) zx_27 rfl d_M_look_81 ?_
      refine lv_iload S.1 S.2.1 d_M_look_84 (lv_at hl 0 rfl) ?_
      by_cases g86 : zOut ((6 * v1) + v2) 36
      · rw [if_pos g86] at hF; cases hF
      rw [if_neg g86] at hF
      refine zr_iald S hK hP zkm_4 rfl 0 rfl g86 d_M_look_86 ?_
      cases hc87 : F_M_through n v1 v2 (st11 4 0 (Int32.toNatClampNeg ((6 * v1) + v2))) st11 with
      | none => rw [hc87] at hF; cases hF
      | some u87 =>
        obtain ⟨r87, st87⟩ := u87
        rw [hc87] at hF
        replace hF := zbind hF
        refine zr_callV (rest := [.int ((6 * v1) + v2), .ref (ad (2, 0))]) S zT_good (C_M_through hn hD l v1 v2 (st11 4 0 (Int32.toNatClampNeg ((6 * v1) + v2))) st11 (r87, st87) hc87) zn_M_through zx_108 ⟨rfl, rfl⟩ ⟨Nat.le_of_ble_eq_true rfl, Nat.le_of_ble_eq_true rfl⟩ ⟨Nat.zero_le _, Nat.zero_le _⟩ hK (zr_recv hK hP zkm_0 rfl rfl) hP hl.1 (Nat.le_of_ble_eq_true rfl) hS (fun _ h => h) d_M_look_87 rfl (fun o H locs hpo _ _ hS => ?_)
        obtain ⟨rfl, hP⟩ := hpo
        refine W.eq (g2 := F0 m 90 ls [.int r87, .int ((6 * v1) + v2), .ref (ad (2, 0))]) rfl ?_
        replace hF : F_M_look_s2 n ((6 * v1) + v2) v1 v2 v3 ((6 * v1) + v2) r87 st87 = some out := hF
        replace hP : zV (dC, dI) zcl zKm ad (zmE n cI cZ ad) st87 H := hP
        unfold F_M_look_s2 at hF
        by_cases g90 : zOut ((6 * v1) + v2) 36
        · rw [if_pos g90] at hF; cases hF
        rw [if_neg g90] at hF
        refine zr_iast S hK hP hD hS zkm_2 (fun _ => rfl) 0 rfl g90 d_M_look_90 (fun H locs hP hS => ?_)
        replace hF : F_M_look_s3 n ((6 * v1) + v2) v1 v2 v3 (zs st87 2 0 (Int32.toNatClampNeg ((6 * v1) + v2)) r87) = some out := hF
        generalize zs st87 2 0 (Int32.toNatClampNeg ((6 * v1) + v2)) r87 = st91 at hP hF
        unfold F_M_look_s3 at hF
        refine lv_aload_n S.1 S.2.1 d_M_look_91 rfl (lv_at hl 1 rfl) ?_
        refine zr_get (v := .ref (ad (5, 0))) S zi_M hK hP zkm_0 rfl rfl 5 (by decide) zx_28 rfl d_M_look_92 ?_
        refine lv_iload S.1 S.2.1 d_M_look_95 (lv_at hl 0 rfl) ?_
        refine lv_iconst (v := 1) S.1 S.2.1 d_M_look_97 (by decide) ?_
        by_cases g98 : zOut ((6 * v1) + v2) 36
        · rw [if_pos g98] at hF; cases hF
        rw [if_neg g98] at hF
        refine zr_zast S hK hP hD hS zkm_5 (fun _ => rfl) 1 rfl g98 (by decide) d_M_look_98 (fun H locs hP hS => ?_)
        replace hF : F_M_look_s4 n ((6 * v1) + v2) v1 v2 v3 (zs st91 5 0 (Int32.toNatClampNeg ((6 * v1) + v2)) 1) = some out := hF
        generalize zs st91 5 0 (Int32.toNatClampNeg ((6 * v1) + v2)) 1 = st99 at hP hF
        unfold F_M_look_s4 at hF
        refine lv_aload_n S.1 S.2.1 d_M_look_99 rfl (lv_at hl 1 rfl) ?_
        refine zr_get (v := .ref (ad (7, 0))) S zi_M hK hP zkm_0 rfl rfl 7 (by decide) zx_30 rfl d_M_look_100 ?_
        refine lv_iload S.1 S.2.1 d_M_look_103 (lv_at hl 0 rfl) ?_
        refine lv_iconst (v := 0) S.1 S.2.1 d_M_look_105 (by decide) ?_
        by_cases g106 : zOut ((6 * v1) + v2) 36
        · rw [if_pos g106] at hF; cases hF
        rw [if_neg g106] at hF
        refine zr_zast S hK hP hD hS zkm_7 (fun _ => rfl) 1 rfl g106 (by decide) d_M_look_106 (fun H locs hP hS => ?_)
        replace hF : F_M_look_s5 n ((6 * v1) + v2) v1 v2 v3 (zs st99 7 0 (Int32.toNatClampNeg ((6 * v1) + v2)) 0) = some out := hF
        generalize zs st99 7 0 (Int32.toNatClampNeg ((6 * v1) + v2)) 0 = st107 at hP hF
        unfold F_M_look_s5 at hF
        refine lv_aload_n S.1 S.2.1 d_M_look_107 rfl (lv_at hl 1 rfl) ?_
        refine zr_get (v := .ref (ad (6, 0))) S zi_M hK hP zkm_0 rfl rfl 6 (by decide) zx_29 rfl d_M_look_108 ?_
        refine lv_iload S.1 S.2.1 d_M_look_111 (lv_at hl 0 rfl) ?_
        refine lv_iload_n S.1 S.2.1 d_M_look_113 rfl (lv_at hl 4 rfl) ?_
        refine lv_if_lt (tgt := 132) S.1 S.2.1 d_M_look_114 (by decide) (fun h114 => ?_) (fun h114 => ?_)
        · rw [if_pos h114] at hF
          exact T_M_look_L132 hn hD S hret hlk hK out v1 v2 v3 ((6 * v1) + v2) ((6 * v1) + v2) st107 _ _ _ hP hS (lv_sub hl [1, 2, 3, 4, 0] rfl) hF
        · rw [if_neg h114] at hF
          refine lv_iload_n S.1 S.2.1 d_M_look_117 rfl (lv_at hl 4 rfl) ?_
          refine lv_aload_n S.1 S.2.1 d_M_look_118 rfl (lv_at hl 1 rfl) ?_
          refine zr_get (v := .ref (ad (4, 0))) S zi_M hK hP zkm_0 rfl rfl 4 (by decide) zx_27 rfl d_M_look_119 ?_
          refine lv_iload S.1 S.2.1 d_M_look_122 (lv_at hl 0 rfl) ?_
          by_cases g124 : zOut ((6 * v1) + v2) 36
          · rw [if_pos g124] at hF; cases hF
          rw [if_neg g124] at hF
          refine zr_iald S hK hP zkm_4 rfl 0 rfl g124 d_M_look_124 ?_
          refine lv_icmp_ne (tgt := 132) S.1 S.2.1 d_M_look_125 (by decide) (fun h125 => ?_) (fun h125 => ?_)
          · rw [if_neg h125] at hF
            exact T_M_look_L132 hn hD S hret hlk hK out v1 v2 v3 ((6 * v1) + v2) ((6 * v1) + v2) st107 _ _ _ hP hS (lv_sub hl [1, 2, 3, 4, 0] rfl) hF
          · rw [if_pos h125] at hF
            refine lv_iconst (v := 1) S.1 S.2.1 d_M_look_128 (by decide) ?_
            refine lv_goto (tgt := 133) S.1 S.2.1 d_M_look_129 (by decide) ?_
            exact T_M_look_L133 hn hD S hret hlk hK out v1 v2 v3 ((6 * v1) + v2) ((6 * v1) + v2) 1 st107 _ _ _ hP hS (lv_sub hl [1, 2, 3, 4, 0] rfl) hF
    · rw [if_neg h14] at hF
      refine lv_aload_n S.1 S.2.1 d_M_look_17 rfl (lv_at hl 1 rfl) ?_
      refine zr_get (v := .ref (ad (2, 0))) S zi_M hK hP zkm_0 rfl rfl 2 (by decide) zx_25 rfl d_M_look_18 ?_
      refine lv_iload S.1 S.2.1 d_M_look_21 (lv_at hl 0 rfl) ?_
      by_cases g23 : zOut ((6 * v1) + v2) 36
      · rw [if_pos g23] at hF; cases hF
      rw [if_neg g23] at hF
      refine zr_iald S hK hP zkm_2 rfl 0 rfl g23 d_M_look_23 ?_
      refine lv_istore S.1 S.2.1 d_M_look_24 hl (by decide) rfl (fun ls hl => ?_)
      have hl : lv_has ls 7 [(5, .int (st11 2 0 (Int32.toNatClampNeg ((6 * v1) + v2)))), (4, .int ((6 * v1) + v2)), (0, .ref (ad (0, 0))), (1, .int v1), (2, .int v2), (3, .int v3)] := hl
      refine lv_aload_n S.1 S.2.1 d_M_look_26 rfl (lv_at hl 2 rfl) ?_
      refine lv_iload_n S.1 S.2.1 d_M_look_27 rfl (lv_at hl 3 rfl) ?_
      refine lv_iload_n S.1 S.2.1 d_M_look_28 rfl (lv_at hl 4 rfl) ?_
      cases hc29 : F_M_settle n v1 v2 st11 with
      | none => rw [hc29] at hF; cases hF
      | some u29 =>
        obtain ⟨r29, st29⟩ := u29
        rw [hc29] at hF
        replace hF := zbind hF
        refine zr_callV (rest := []) S zT_good (C_M_settle hn hD l v1 v2 st11 (r29, st29) hc29) zn_M_settle zx_113 ⟨rfl, rfl⟩ ⟨Nat.le_of_ble_eq_true rfl, Nat.le_of_ble_eq_true rfl⟩ ⟨Nat.zero_le _, Nat.zero_le _⟩ hK (zr_recv hK hP zkm_0 rfl rfl) hP hl.1 (Nat.le_of_ble_eq_true rfl) hS (fun _ h => h) d_M_look_29 rfl (fun o H locs hpo _ _ hS => ?_)
        obtain ⟨rfl, hP⟩ := hpo
        refine W.eq (g2 := F0 m 32 ls []) rfl ?_
        replace hF : F_M_look_s6 n (st11 2 0 (Int32.toNatClampNeg ((6 * v1) + v2))) ((6 * v1) + v2) v1 v2 v3 st29 = some out := hF
        replace hP : zV (dC, dI) zcl zKm ad (zmE n cI cZ ad) st29 H := hP
        unfold F_M_look_s6 at hF
        refine lv_iload_n S.1 S.2.1 d_M_look_32 rfl (lv_at hl 5 rfl) ?_
        refine lv_if_lt (tgt := 44) S.1 S.2.1 d_M_look_33 (by decide) (fun h33 => ?_) (fun h33 => ?_)
        · rw [if_pos h33] at hF
          exact T_M_look_L44 hn hD S hret hlk hK out v1 v2 v3 ((6 * v1) + v2) (st11 2 0 (Int32.toNatClampNeg ((6 * v1) + v2))) st29 _ _ _ hP hS (lv_sub hl [2, 3, 4, 5, 1, 0] rfl) hF
        · rw [if_neg h33] at hF
          refine lv_aload_n S.1 S.2.1 d_M_look_36 rfl (lv_at hl 2 rfl) ?_
          refine lv_iload_n S.1 S.2.1 d_M_look_37 rfl (lv_at hl 3 rfl) ?_
          refine lv_iload_n S.1 S.2.1 d_M_look_38 rfl (lv_at hl 5 rfl) ?_
          refine lv_iconst (v := 2) S.1 S.2.1 d_M_look_39 (by decide) ?_
          refine lv_iload_n S.1 S.2.1 d_M_look_40 rfl (lv_at hl 4 rfl) ?_
          cases hc41 : F_M_send n v1 v3 2 v2 st29 with
          | none => rw [hc41] at hF; cases hF
          | some u41 =>
            obtain ⟨r41, st41⟩ := u41
            rw [hc41] at hF
            replace hF := zbind hF
            refine zr_callV (rest := []) S zT_good (C_M_send hn hD l v1 v3 2 v2 st29 (r41, st41) hc41) zn_M_send zx_107 ⟨rfl, rfl⟩ ⟨Nat.le_of_ble_eq_true rfl, Nat.le_of_ble_eq_true rfl⟩ ⟨Nat.zero_le _, Nat.zero_le _⟩ hK (zr_recv hK hP zkm_0 rfl rfl) hP hl.1 (Nat.le_of_ble_eq_true rfl) hS (fun _ h => h) d_M_look_41 rfl (fun o H locs hpo _ _ hS => ?_)
            obtain ⟨rfl, hP⟩ := hpo
            refine W.eq (g2 := F0 m 44 ls []) rfl ?_
            replace hF : F_M_look_s7 n (st11 2 0 (Int32.toNatClampNeg ((6 * v1) + v2))) ((6 * v1) + v2) v1 v2 v3 st41 = some out := hF
            replace hP : zV (dC, dI) zcl zKm ad (zmE n cI cZ ad) st41 H := hP
            unfold F_M_look_s7 at hF
            exact T_M_look_L44 hn hD S hret hlk hK out v1 v2 v3 ((6 * v1) + v2) (st11 2 0 (Int32.toNatClampNeg ((6 * v1) + v2))) st41 _ _ _ hP hS (lv_sub hl [2, 3, 4, 5, 1, 0] rfl) hF

theorem d_M_endIfDone_0 : decode b_M_endIfDone 0 = .ok (.iconst 0, 1) := by decide +kernel
theorem d_M_endIfDone_1 : decode b_M_endIfDone 1 = .ok (.istore_n 3, 1) := by decide +kernel
theorem d_M_endIfDone_2 : decode b_M_endIfDone 2 = .ok (.iconst 0, 1) := by decide +kernel
theorem d_M_endIfDone_3 : decode b_M_endIfDone 3 = .ok (.istore 4, 2) := by decide +kernel
theorem d_M_endIfDone_5 : decode b_M_endIfDone 5 = .ok (.iload 4, 2) := by decide +kernel
theorem d_M_endIfDone_7 : decode b_M_endIfDone 7 = .ok (.aload_n 0, 1) := by decide +kernel
theorem d_M_endIfDone_8 : decode b_M_endIfDone 8 = .ok (.getfield 56, 3) := by decide +kernel
theorem d_M_endIfDone_11 : decode b_M_endIfDone 11 = .ok (.if_icmp .ge 39, 3) := by decide +kernel
theorem d_M_endIfDone_14 : decode b_M_endIfDone 14 = .ok (.iload_n 3, 1) := by decide +kernel
theorem d_M_endIfDone_15 : decode b_M_endIfDone 15 = .ok (.ifCond .ne 23, 3) := by decide +kernel
theorem d_M_endIfDone_18 : decode b_M_endIfDone 18 = .ok (.aload_n 0, 1) := by decide +kernel
theorem d_M_endIfDone_19 : decode b_M_endIfDone 19 = .ok (.getfield 35, 3) := by decide +kernel
theorem d_M_endIfDone_22 : decode b_M_endIfDone 22 = .ok (.bipush 36, 2) := by decide +kernel
theorem d_M_endIfDone_24 : decode b_M_endIfDone 24 = .ok (.iload 4, 2) := by decide +kernel
theorem d_M_endIfDone_26 : decode b_M_endIfDone 26 = .ok (.imul, 1) := by decide +kernel
theorem d_M_endIfDone_27 : decode b_M_endIfDone 27 = .ok (.bipush 6, 2) := by decide +kernel
theorem d_M_endIfDone_29 : decode b_M_endIfDone 29 = .ok (.iload_n 1, 1) := by decide +kernel
theorem d_M_endIfDone_30 : decode b_M_endIfDone 30 = .ok (.imul, 1) := by decide +kernel
theorem d_M_endIfDone_31 : decode b_M_endIfDone 31 = .ok (.iadd, 1) := by decide +kernel
theorem d_M_endIfDone_32 : decode b_M_endIfDone 32 = .ok (.iload_n 2, 1) := by decide +kernel
theorem d_M_endIfDone_33 : decode b_M_endIfDone 33 = .ok (.iadd, 1) := by decide +kernel
theorem d_M_endIfDone_34 : decode b_M_endIfDone 34 = .ok (.baload, 1) := by decide +kernel
theorem d_M_endIfDone_35 : decode b_M_endIfDone 35 = .ok (.ifCond .eq 7, 3) := by decide +kernel
theorem d_M_endIfDone_38 : decode b_M_endIfDone 38 = .ok (.iconst 1, 1) := by decide +kernel
theorem d_M_endIfDone_39 : decode b_M_endIfDone 39 = .ok (.goto 4, 3) := by decide +kernel
theorem d_M_endIfDone_42 : decode b_M_endIfDone 42 = .ok (.iconst 0, 1) := by decide +kernel
theorem d_M_endIfDone_43 : decode b_M_endIfDone 43 = .ok (.istore_n 3, 1) := by decide +kernel
theorem d_M_endIfDone_44 : decode b_M_endIfDone 44 = .ok (.iinc 4 1, 3) := by decide +kernel
theorem d_M_endIfDone_47 : decode b_M_endIfDone 47 = .ok (.goto (-42), 3) := by decide +kernel
theorem d_M_endIfDone_50 : decode b_M_endIfDone 50 = .ok (.iload_n 3, 1) := by decide +kernel
theorem d_M_endIfDone_51 : decode b_M_endIfDone 51 = .ok (.ifCond .ne 9, 3) := by decide +kernel
theorem d_M_endIfDone_54 : decode b_M_endIfDone 54 = .ok (.aload_n 0, 1) := by decide +kernel
theorem d_M_endIfDone_55 : decode b_M_endIfDone 55 = .ok (.iload_n 1, 1) := by decide +kernel
theorem d_M_endIfDone_56 : decode b_M_endIfDone 56 = .ok (.iload_n 2, 1) := by decide +kernel
theorem d_M_endIfDone_57 : decode b_M_endIfDone 57 = .ok (.invokevirtual 98, 3) := by decide +kernel
theorem d_M_endIfDone_60 : decode b_M_endIfDone 60 = .ok (.return_, 1) := by decide +kernel
def F_M_endIfDone_L43 (n : Nat) (c5 : Int32 → Int32 → Int32 → Int32 → zS → Option (Int32 × zS)) (v1 : Int32) (v2 : Int32) (v4 : Int32) (t0 : Int32) (st : zS) : Option (Int32 × zS) :=
    c5 v1 v2 t0 (v4 + 1) st

def F_M_endIfDone_L38 (n : Nat) (c5 : Int32 → Int32 → Int32 → Int32 → zS → Option (Int32 × zS)) (v1 : Int32) (v2 : Int32) (v4 : Int32) (st : zS) : Option (Int32 × zS) :=
    F_M_endIfDone_L43 n c5 v1 v2 v4 1 st

def F_M_endIfDone_L5_s1 (n : Nat) (c5 : Int32 → Int32 → Int32 → Int32 → zS → Option (Int32 × zS)) (st : zS) : Option (Int32 × zS) :=
    some (0, st)

def F_M_endIfDone_L5 (n : Nat) : Nat → Int32 → Int32 → Int32 → Int32 → zS → Option (Int32 × zS)
  | 0, _, _, _, _, _ => none
  | f + 1, v1, v2, v3, v4, st =>
    if (nI n) ≤ v4 then (if v3 = 0 then ((F_M_end n v1 v2 st).bind (fun u => F_M_endIfDone_L5_s1 n (F_M_endIfDone_L5 n f) u.2)) else (some (0, st))) else (if v3 = 0 then (if zOut (((36 * v4) + (6 * v1)) + v2) 216 then none else if (st 9 0 (Int32.toNatClampNeg (((36 * v4) + (6 * v1)) + v2))) = 0 then (F_M_endIfDone_L43 n (F_M_endIfDone_L5 n f) v1 v2 v4 0 st) else (F_M_endIfDone_L38 n (F_M_endIfDone_L5 n f) v1 v2 v4 st)) else (F_M_endIfDone_L38 n (F_M_endIfDone_L5 n f) v1 v2 v4 st))

def F_M_endIfDone (n : Nat) (v1 : Int32) (v2 : Int32) (st : zS) : Option (Int32 × zS) :=
    F_M_endIfDone_L5 n zFuel v1 v2 0 0 st

set_option maxHeartbeats 4000000 in
set_option maxRecDepth 1000000 in
theorem T_M_endIfDone_L43 {dC : Nat → ClassId} {dI : Nat → Nat → Nat} {cI cZ cR cA : ClassId} {n : Nat} {ad : zK → Nat} {A : Nat → Prop} (hn : 2 ≤ n ∧ n ≤ 6) (hD : zD A zKm ad) {p : Program} {l : Launch} {e : Env} {s : State} {m : MethodId} {args : Array Value} {below : List Frame} {meth : Method} {c : Code} (S : CallFix p m c b_M_endIfDone 5 s args zT N_M) (hret : meth.sig.returnType = none) (hlk : meth.locks = false) (hK : va_K (dC, dI) zcl (zty cI cZ cR cA) s) (out : Int32 × zS) (c5 : Int32 → Int32 → Int32 → Int32 → zS → Option (Int32 × zS)) (hc5 : ∀ (v1 : Int32) (v2 : Int32) (v3 : Int32) (v4 : Int32) (st : zS) (H : Heap) (locs : List Loc) (ls : Array Slot), zV (dC, dI) zcl zKm ad (zmE n cI cZ ad) st H → va_S A s.heap H locs → lv_has ls 5 [(0, .ref (ad (0, 0))), (1, .int v1), (2, .int v2), (3, .int v3), (4, .int v4)] → c5 v1 v2 v3 v4 st = some out → W p l e rm_M_endIfDone s m args below meth c H locs 0 0 (zQ below A (fun o H => o = none ∧ zV (dC, dI) zcl zKm ad (zmE n cI cZ ad) out.2 H) args s) (F0 m 5 ls [])) (v1 : Int32) (v2 : Int32) (v4 : Int32) (t0 : Int32) (st : zS) (H : Heap) (locs : List Loc) (ls : Array Slot) (hP : zV (dC, dI) zcl zKm ad (zmE n cI cZ ad) st H) (hS : va_S A s.heap H locs) (hl : lv_has ls 5 [(0, .ref (ad (0, 0))), (1, .int v1), (2, .int v2), (4, .int v4)]) (hF : F_M_endIfDone_L43 n c5 v1 v2 v4 t0 st = some out) : W p l e rm_M_endIfDone s m args below meth c H locs 0 0 (zQ below A (fun o H => o = none ∧ zV (dC, dI) zcl zKm ad (zmE n cI cZ ad) out.2 H) args s) (F0 m 43 ls [.int t0]) := by
  unfold F_M_endIfDone_L43 at hF
  refine lv_istore_n S.1 S.2.1 d_M_endIfDone_43 rfl hl (by decide) rfl (fun ls hl => ?_)
  have hl : lv_has ls 5 [(3, .int t0), (0, .ref (ad (0, 0))), (1, .int v1), (2, .int v2), (4, .int v4)] := hl
  refine lv_iinc (k := 4) (v := v4 + 1) S.1 S.2.1 d_M_endIfDone_44 hl rfl rfl (by decide) rfl (fun ls hl => ?_)
  have hl : lv_has ls 5 [(4, .int (v4 + 1)), (3, .int t0), (0, .ref (ad (0, 0))), (1, .int v1), (2, .int v2)] := hl
  refine lv_goto (tgt := 5) S.1 S.2.1 d_M_endIfDone_47 (by decide) ?_
  exact hc5 v1 v2 t0 (v4 + 1) st _ _ _ hP hS (lv_sub hl [2, 3, 4, 1, 0] rfl) hF

set_option maxHeartbeats 4000000 in
set_option maxRecDepth 1000000 in
theorem T_M_endIfDone_L38 {dC : Nat → ClassId} {dI : Nat → Nat → Nat} {cI cZ cR cA : ClassId} {n : Nat} {ad : zK → Nat} {A : Nat → Prop} (hn : 2 ≤ n ∧ n ≤ 6) (hD : zD A zKm ad) {p : Program} {l : Launch} {e : Env} {s : State} {m : MethodId} {args : Array Value} {below : List Frame} {meth : Method} {c : Code} (S : CallFix p m c b_M_endIfDone 5 s args zT N_M) (hret : meth.sig.returnType = none) (hlk : meth.locks = false) (hK : va_K (dC, dI) zcl (zty cI cZ cR cA) s) (out : Int32 × zS) (c5 : Int32 → Int32 → Int32 → Int32 → zS → Option (Int32 × zS)) (hc5 : ∀ (v1 : Int32) (v2 : Int32) (v3 : Int32) (v4 : Int32) (st : zS) (H : Heap) (locs : List Loc) (ls : Array Slot), zV (dC, dI) zcl zKm ad (zmE n cI cZ ad) st H → va_S A s.heap H locs → lv_has ls 5 [(0, .ref (ad (0, 0))), (1, .int v1), (2, .int v2), (3, .int v3), (4, .int v4)] → c5 v1 v2 v3 v4 st = some out → W p l e rm_M_endIfDone s m args below meth c H locs 0 0 (zQ below A (fun o H => o = none ∧ zV (dC, dI) zcl zKm ad (zmE n cI cZ ad) out.2 H) args s) (F0 m 5 ls [])) (v1 : Int32) (v2 : Int32) (v4 : Int32) (st : zS) (H : Heap) (locs : List Loc) (ls : Array Slot) (hP : zV (dC, dI) zcl zKm ad (zmE n cI cZ ad) st H) (hS : va_S A s.heap H locs) (hl : lv_has ls 5 [(0, .ref (ad (0, 0))), (1, .int v1), (2, .int v2), (4, .int v4)]) (hF : F_M_endIfDone_L38 n c5 v1 v2 v4 st = some out) : W p l e rm_M_endIfDone s m args below meth c H locs 0 0 (zQ below A (fun o H => o = none ∧ zV (dC, dI) zcl zKm ad (zmE n cI cZ ad) out.2 H) args s) (F0 m 38 ls []) := by
  unfold F_M_endIfDone_L38 at hF
  refine lv_iconst (v := 1) S.1 S.2.1 d_M_endIfDone_38 (by decide) ?_
  refine lv_goto (tgt := 43) S.1 S.2.1 d_M_endIfDone_39 (by decide) ?_
  exact T_M_endIfDone_L43 hn hD S hret hlk hK out c5 hc5 v1 v2 v4 1 st _ _ _ hP hS (lv_sub hl [0, 1, 2, 3] rfl) hF

set_option maxHeartbeats 4000000 in
set_option maxRecDepth 1000000 in
theorem T_M_endIfDone_L5 {dC : Nat → ClassId} {dI : Nat → Nat → Nat} {cI cZ cR cA : ClassId} {n : Nat} {ad : zK → Nat} {A : Nat → Prop} (hn : 2 ≤ n ∧ n ≤ 6) (hD : zD A zKm ad) {p : Program} {l : Launch} {e : Env} {s : State} {m : MethodId} {args : Array Value} {below : List Frame} {meth : Method} {c : Code} (S : CallFix p m c b_M_endIfDone 5 s args zT N_M) (hret : meth.sig.returnType = none) (hlk : meth.locks = false) (hK : va_K (dC, dI) zcl (zty cI cZ cR cA) s) (out : Int32 × zS) : ∀ (fu : Nat) (v1 : Int32) (v2 : Int32) (v3 : Int32) (v4 : Int32) (st : zS) (H : Heap) (locs : List Loc) (ls : Array Slot) (hP : zV (dC, dI) zcl zKm ad (zmE n cI cZ ad) st H) (hS : va_S A s.heap H locs) (hl : lv_has ls 5 [(0, .ref (ad (0, 0))), (1, .int v1), (2, .int v2), (3, .int v3), (4, .int v4)]) (hF : F_M_endIfDone_L5 n fu v1 v2 v3 v4 st = some out), W p l e rm_M_endIfDone s m args below meth c H locs 0 0 (zQ below A (fun o H => o = none ∧ zV (dC, dI) zcl zKm ad (zmE n cI cZ ad) out.2 H) args s) (F0 m 5 ls []) := by
  intro fu
  induction fu with
  | zero => intro v1 v2 v3 v4 st H locs ls hP hS hl hF; rw [F_M_endIfDone_L5] at hF; cases hF
  | succ f ih =>
    intro v1 v2 v3 v4 st H locs ls hP hS hl hF
    rw [F_M_endIfDone_L5] at hF
    refine lv_iload S.1 S.2.1 d_M_endIfDone_5 (lv_at hl 4 rfl) ?_
    refine lv_aload_n S.1 S.2.1 d_M_endIfDone_7 rfl (lv_at hl 0 rfl) ?_
    refine zr_get (v := .int (nI n)) S zi_M hK hP zkm_0 rfl rfl 0 (by decide) zx_39 rfl d_M_endIfDone_8 ?_
    refine lv_icmp_ge (tgt := 50) S.1 S.2.1 d_M_endIfDone_11 (by decide) (fun h11 => ?_) (fun h11 => ?_)
    · rw [if_pos h11] at hF
      refine lv_iload_n S.1 S.2.1 d_M_endIfDone_50 rfl (lv_at hl 3 rfl) ?_
      refine lv_if_ne (tgt := 60) S.1 S.2.1 d_M_endIfDone_51 (by decide) (fun h51 => ?_) (fun h51 => ?_)
      · rw [if_neg h51] at hF
        cases hF
        exact zr_vret S hret hlk hS d_M_endIfDone_60 ⟨rfl, hP⟩
      · rw [if_pos h51] at hF
        refine lv_aload_n S.1 S.2.1 d_M_endIfDone_54 rfl (lv_at hl 0 rfl) ?_
        refine lv_iload_n S.1 S.2.1 d_M_endIfDone_55 rfl (lv_at hl 1 rfl) ?_
        refine lv_iload_n S.1 S.2.1 d_M_endIfDone_56 rfl (lv_at hl 2 rfl) ?_
        cases hc57 : F_M_end n v1 v2 st with
        | none => rw [hc57] at hF; cases hF
        | some u57 =>
          obtain ⟨r57, st57⟩ := u57
          rw [hc57] at hF
          replace hF := zbind hF
          refine zr_callV (rest := []) S zT_good (C_M_end hn hD l v1 v2 st (r57, st57) hc57) zn_M_end zx_115 ⟨rfl, rfl⟩ ⟨Nat.le_of_ble_eq_true rfl, Nat.le_of_ble_eq_true rfl⟩ ⟨Nat.zero_le _, Nat.zero_le _⟩ hK (zr_recv hK hP zkm_0 rfl rfl) hP hl.1 (Nat.le_of_ble_eq_true rfl) hS (fun _ h => h) d_M_endIfDone_57 rfl (fun o H locs hpo _ _ hS => ?_)
          obtain ⟨rfl, hP⟩ := hpo
          refine W.eq (g2 := F0 m 60 ls []) rfl ?_
          replace hF : F_M_endIfDone_L5_s1 n (F_M_endIfDone_L5 n f) st57 = some out := hF
          replace hP : zV (dC, dI) zcl zKm ad (zmE n cI cZ ad) st57 H := hP
          unfold F_M_endIfDone_L5_s1 at hF
          cases hF
          exact zr_vret S hret hlk hS d_M_endIfDone_60 ⟨rfl, hP⟩
    · rw [if_neg h11] at hF
      refine lv_iload_n S.1 S.2.1 d_M_endIfDone_14 rfl (lv_at hl 3 rfl) ?_
      refine lv_if_ne (tgt := 38) S.1 S.2.1 d_M_endIfDone_15 (by decide) (fun h15 => ?_) (fun h15 => ?_)
      · rw [if_neg h15] at hF
        exact T_M_endIfDone_L38 hn hD S hret hlk hK out (F_M_endIfDone_L5 n f) ih v1 v2 v4 st _ _ _ hP hS (lv_sub hl [0, 1, 2, 4] rfl) hF
      · rw [if_pos h15] at hF
        refine lv_aload_n S.1 S.2.1 d_M_endIfDone_18 rfl (lv_at hl 0 rfl) ?_
        refine zr_get (v := .ref (ad (9, 0))) S zi_M hK hP zkm_0 rfl rfl 9 (by decide) zx_32 rfl d_M_endIfDone_19 ?_
        refine lv_bipush (v := 36) S.1 S.2.1 d_M_endIfDone_22 (by decide) ?_
        refine lv_iload S.1 S.2.1 d_M_endIfDone_24 (lv_at hl 4 rfl) ?_
        refine lv_imul S.1 S.2.1 d_M_endIfDone_26 ?_
        refine lv_bipush (v := 6) S.1 S.2.1 d_M_endIfDone_27 (by decide) ?_
        refine lv_iload_n S.1 S.2.1 d_M_endIfDone_29 rfl (lv_at hl 1 rfl) ?_
        refine lv_imul S.1 S.2.1 d_M_endIfDone_30 ?_
        refine lv_iadd S.1 S.2.1 d_M_endIfDone_31 ?_
        refine lv_iload_n S.1 S.2.1 d_M_endIfDone_32 rfl (lv_at hl 2 rfl) ?_
        refine lv_iadd S.1 S.2.1 d_M_endIfDone_33 ?_
        by_cases g34 : zOut (((36 * v4) + (6 * v1)) + v2) 216
        · rw [if_pos g34] at hF; cases hF
        rw [if_neg g34] at hF
        refine zr_zald S hK hP zkm_9 rfl 1 rfl g34 d_M_endIfDone_34 ?_
        refine lv_if_eq (tgt := 42) S.1 S.2.1 d_M_endIfDone_35 (by decide) (fun h35 => ?_) (fun h35 => ?_)
        · rw [if_pos h35] at hF
          refine lv_iconst (v := 0) S.1 S.2.1 d_M_endIfDone_42 (by decide) ?_
          exact T_M_endIfDone_L43 hn hD S hret hlk hK out (F_M_endIfDone_L5 n f) ih v1 v2 v4 0 st _ _ _ hP hS (lv_sub hl [0, 1, 2, 4] rfl) hF
        · rw [if_neg h35] at hF
          exact T_M_endIfDone_L38 hn hD S hret hlk hK out (F_M_endIfDone_L5 n f) ih v1 v2 v4 st _ _ _ hP hS (lv_sub hl [0, 1, 2, 4] rfl) hF

set_option maxHeartbeats 4000000 in
set_option maxRecDepth 1000000 in
theorem C_M_endIfDone {dC : Nat → ClassId} {dI : Nat → Nat → Nat} {cI cZ cR cA : ClassId} {n : Nat} {ad : zK → Nat} {A : Nat → Prop} (hn : 2 ≤ n ∧ n ≤ 6) (hD : zD A zKm ad) (l : Launch) (v1 : Int32) (v2 : Int32) (st : zS) (out : Int32 × zS) (hF : F_M_endIfDone n v1 v2 st = some out) : zC zT (dC, dI) zcl (zty cI cZ cR cA) A l y_M_endIfDone b_M_endIfDone 5 (none) rm_M_endIfDone [.ref (ad (0, 0)), .int v1, .int v2] (fun H => zV (dC, dI) zcl zKm ad (zmE n cI cZ ad) st H) (fun o H => o = none ∧ zV (dC, dI) zcl zKm ad (zmE n cI cZ ad) out.2 H) := by
  refine zC_of (by decide) (Nat.le_of_ble_eq_true rfl) (fun p e s m args below meth c ls S hret hlk hK hP hl => ?_)
  have hS : va_S A s.heap s.heap [] := va_S.rf
  have hl : lv_has ls 5 [(0, .ref (ad (0, 0))), (1, .int v1), (2, .int v2)] := hl
  have hP : zV (dC, dI) zcl zKm ad (zmE n cI cZ ad) st s.heap := hP
  unfold F_M_endIfDone at hF
  refine lv_iconst (v := 0) S.1 S.2.1 d_M_endIfDone_0 (by decide) ?_
  refine lv_istore_n S.1 S.2.1 d_M_endIfDone_1 rfl hl (by decide) rfl (fun ls hl => ?_)
  have hl : lv_has ls 5 [(3, .int 0), (0, .ref (ad (0, 0))), (1, .int v1), (2, .int v2)] := hl
  refine lv_iconst (v := 0) S.1 S.2.1 d_M_endIfDone_2 (by decide) ?_
  refine lv_istore S.1 S.2.1 d_M_endIfDone_3 hl (by decide) rfl (fun ls hl => ?_)
  have hl : lv_has ls 5 [(4, .int 0), (3, .int 0), (0, .ref (ad (0, 0))), (1, .int v1), (2, .int v2)] := hl
  exact T_M_endIfDone_L5 hn hD S hret hlk hK out zFuel v1 v2 0 0 st _ _ _ hP hS (lv_sub hl [2, 3, 4, 1, 0] rfl) hF

