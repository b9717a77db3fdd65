theorem d_M_end_0 : decode b_M_end 0 = .ok (.bipush 6, 2) := by decide +kernel
theorem d_M_end_2 : decode b_M_end 2 = .ok (.iload_n 1, 1) := by decide +kernel
theorem d_M_end_3 : decode b_M_end 3 = .ok (.imul, 1) := by decide +kernel
theorem d_M_end_4 : decode b_M_end 4 = .ok (.iload_n 2, 1) := by decide +kernel
theorem d_M_end_5 : decode b_M_end 5 = .ok (.iadd, 1) := by decide +kernel
theorem d_M_end_6 : decode b_M_end 6 = .ok (.istore_n 3, 1) := by decide +kernel
theorem d_M_end_7 : decode b_M_end 7 = .ok (.iconst 1, 1) := by decide +kernel
theorem d_M_end_8 : decode b_M_end 8 = .ok (.istore 4, 2) := by decide +kernel
theorem d_M_end_10 : decode b_M_end 10 = .ok (.iload 4, 2) := by decide +kernel
theorem d_M_end_12 : decode b_M_end 12 = .ok (.ifCond .eq 148, 3) := by decide +kernel
theorem d_M_end_15 : decode b_M_end 15 = .ok (.aload_n 0, 1) := by decide +kernel
theorem d_M_end_16 : decode b_M_end 16 = .ok (.getfield 16, 3) := by decide +kernel
theorem d_M_end_19 : decode b_M_end 19 = .ok (.iload_n 3, 1) := by decide +kernel
theorem d_M_end_20 : decode b_M_end 20 = .ok (.aload_n 0, 1) := by decide +kernel
theorem d_M_end_21 : decode b_M_end 21 = .ok (.getfield 29, 3) := by decide +kernel
theorem d_M_end_24 : decode b_M_end 24 = .ok (.iload_n 3, 1) := by decide +kernel
theorem d_M_end_25 : decode b_M_end 25 = .ok (.baload, 1) := by decide +kernel
theorem d_M_end_26 : decode b_M_end 26 = .ok (.ifCond .eq 12, 3) := by decide +kernel
theorem d_M_end_29 : decode b_M_end 29 = .ok (.aload_n 0, 1) := by decide +kernel
theorem d_M_end_30 : decode b_M_end 30 = .ok (.getfield 16, 3) := by decide +kernel
theorem d_M_end_33 : decode b_M_end 33 = .ok (.iload_n 3, 1) := by decide +kernel
theorem d_M_end_34 : decode b_M_end 34 = .ok (.iaload, 1) := by decide +kernel
theorem d_M_end_35 : decode b_M_end 35 = .ok (.goto 6, 3) := by decide +kernel
theorem d_M_end_38 : decode b_M_end 38 = .ok (.sipush 10000, 3) := by decide +kernel
theorem d_M_end_41 : decode b_M_end 41 = .ok (.iastore, 1) := by decide +kernel
theorem d_M_end_42 : decode b_M_end 42 = .ok (.aload_n 0, 1) := by decide +kernel
theorem d_M_end_43 : decode b_M_end 43 = .ok (.iload_n 1, 1) := by decide +kernel
theorem d_M_end_44 : decode b_M_end 44 = .ok (.iload_n 2, 1) := by decide +kernel
theorem d_M_end_45 : decode b_M_end 45 = .ok (.invokevirtual 87, 3) := by decide +kernel
theorem d_M_end_48 : decode b_M_end 48 = .ok (.ifCond .eq 82, 3) := by decide +kernel
theorem d_M_end_51 : decode b_M_end 51 = .ok (.aload_n 0, 1) := by decide +kernel
theorem d_M_end_52 : decode b_M_end 52 = .ok (.getfield 26, 3) := by decide +kernel
theorem d_M_end_55 : decode b_M_end 55 = .ok (.iload_n 3, 1) := by decide +kernel
theorem d_M_end_56 : decode b_M_end 56 = .ok (.baload, 1) := by decide +kernel
theorem d_M_end_57 : decode b_M_end 57 = .ok (.ifCond .eq 12, 3) := by decide +kernel
theorem d_M_end_60 : decode b_M_end 60 = .ok (.aload_n 0, 1) := by decide +kernel
theorem d_M_end_61 : decode b_M_end 61 = .ok (.getfield 19, 3) := by decide +kernel
theorem d_M_end_64 : decode b_M_end 64 = .ok (.iload_n 3, 1) := by decide +kernel
theorem d_M_end_65 : decode b_M_end 65 = .ok (.iaload, 1) := by decide +kernel
theorem d_M_end_66 : decode b_M_end 66 = .ok (.goto 4, 3) := by decide +kernel
theorem d_M_end_69 : decode b_M_end 69 = .ok (.iconst (-1), 1) := by decide +kernel
theorem d_M_end_70 : decode b_M_end 70 = .ok (.istore 5, 2) := by decide +kernel
theorem d_M_end_72 : decode b_M_end 72 = .ok (.aload_n 0, 1) := by decide +kernel
theorem d_M_end_73 : decode b_M_end 73 = .ok (.iload_n 1, 1) := by decide +kernel
theorem d_M_end_74 : decode b_M_end 74 = .ok (.iload_n 2, 1) := by decide +kernel
theorem d_M_end_75 : decode b_M_end 75 = .ok (.invokevirtual 91, 3) := by decide +kernel
theorem d_M_end_78 : decode b_M_end 78 = .ok (.aload_n 0, 1) := by decide +kernel
theorem d_M_end_79 : decode b_M_end 79 = .ok (.getfield 22, 3) := by decide +kernel
theorem d_M_end_82 : decode b_M_end 82 = .ok (.iload_n 3, 1) := by decide +kernel
theorem d_M_end_83 : decode b_M_end 83 = .ok (.iconst 0, 1) := by decide +kernel
theorem d_M_end_84 : decode b_M_end 84 = .ok (.bastore, 1) := by decide +kernel
theorem d_M_end_85 : decode b_M_end 85 = .ok (.aload_n 0, 1) := by decide +kernel
theorem d_M_end_86 : decode b_M_end 86 = .ok (.getfield 26, 3) := by decide +kernel
theorem d_M_end_89 : decode b_M_end 89 = .ok (.iload_n 3, 1) := by decide +kernel
theorem d_M_end_90 : decode b_M_end 90 = .ok (.iconst 0, 1) := by decide +kernel
theorem d_M_end_91 : decode b_M_end 91 = .ok (.bastore, 1) := by decide +kernel
theorem d_M_end_92 : decode b_M_end 92 = .ok (.aload_n 0, 1) := by decide +kernel
theorem d_M_end_93 : decode b_M_end 93 = .ok (.getfield 29, 3) := by decide +kernel
theorem d_M_end_96 : decode b_M_end 96 = .ok (.iload_n 3, 1) := by decide +kernel
theorem d_M_end_97 : decode b_M_end 97 = .ok (.iconst 0, 1) := by decide +kernel
theorem d_M_end_98 : decode b_M_end 98 = .ok (.bastore, 1) := by decide +kernel
theorem d_M_end_99 : decode b_M_end 99 = .ok (.iload 5, 2) := by decide +kernel
theorem d_M_end_101 : decode b_M_end 101 = .ok (.ifCond .lt 12, 3) := by decide +kernel
theorem d_M_end_104 : decode b_M_end 104 = .ok (.aload_n 0, 1) := by decide +kernel
theorem d_M_end_105 : decode b_M_end 105 = .ok (.iload_n 1, 1) := by decide +kernel
theorem d_M_end_106 : decode b_M_end 106 = .ok (.iload 5, 2) := by decide +kernel
theorem d_M_end_108 : decode b_M_end 108 = .ok (.iconst 2, 1) := by decide +kernel
theorem d_M_end_109 : decode b_M_end 109 = .ok (.iload_n 2, 1) := by decide +kernel
theorem d_M_end_110 : decode b_M_end 110 = .ok (.invokevirtual 67, 3) := by decide +kernel
theorem d_M_end_113 : decode b_M_end 113 = .ok (.aload_n 0, 1) := by decide +kernel
theorem d_M_end_114 : decode b_M_end 114 = .ok (.iload_n 1, 1) := by decide +kernel
theorem d_M_end_115 : decode b_M_end 115 = .ok (.iload_n 2, 1) := by decide +kernel
theorem d_M_end_116 : decode b_M_end 116 = .ok (.iconst 0, 1) := by decide +kernel
theorem d_M_end_117 : decode b_M_end 117 = .ok (.iload 5, 2) := by decide +kernel
theorem d_M_end_119 : decode b_M_end 119 = .ok (.invokevirtual 83, 3) := by decide +kernel
theorem d_M_end_122 : decode b_M_end 122 = .ok (.istore 6, 2) := by decide +kernel
theorem d_M_end_124 : decode b_M_end 124 = .ok (.iconst 0, 1) := by decide +kernel
theorem d_M_end_125 : decode b_M_end 125 = .ok (.istore 4, 2) := by decide +kernel
theorem d_M_end_127 : decode b_M_end 127 = .ok (.goto (-117), 3) := by decide +kernel
theorem d_M_end_130 : decode b_M_end 130 = .ok (.aload_n 0, 1) := by decide +kernel
theorem d_M_end_131 : decode b_M_end 131 = .ok (.getfield 29, 3) := by decide +kernel
theorem d_M_end_134 : decode b_M_end 134 = .ok (.iload_n 3, 1) := by decide +kernel
theorem d_M_end_135 : decode b_M_end 135 = .ok (.iconst 0, 1) := by decide +kernel
theorem d_M_end_136 : decode b_M_end 136 = .ok (.bastore, 1) := by decide +kernel
theorem d_M_end_137 : decode b_M_end 137 = .ok (.aload_n 0, 1) := by decide +kernel
theorem d_M_end_138 : decode b_M_end 138 = .ok (.iload_n 1, 1) := by decide +kernel
theorem d_M_end_139 : decode b_M_end 139 = .ok (.iload_n 2, 1) := by decide +kernel
theorem d_M_end_140 : decode b_M_end 140 = .ok (.invokevirtual 95, 3) := by decide +kernel
theorem d_M_end_143 : decode b_M_end 143 = .ok (.istore 5, 2) := by decide +kernel
theorem d_M_end_145 : decode b_M_end 145 = .ok (.iload 5, 2) := by decide +kernel
theorem d_M_end_147 : decode b_M_end 147 = .ok (.ifCond .ne 7, 3) := by decide +kernel
theorem d_M_end_150 : decode b_M_end 150 = .ok (.iconst 1, 1) := by decide +kernel
theorem d_M_end_151 : decode b_M_end 151 = .ok (.goto 4, 3) := by decide +kernel
theorem d_M_end_154 : decode b_M_end 154 = .ok (.iconst 0, 1) := by decide +kernel
theorem d_M_end_155 : decode b_M_end 155 = .ok (.istore 4, 2) := by decide +kernel
theorem d_M_end_157 : decode b_M_end 157 = .ok (.goto (-147), 3) := by decide +kernel
theorem d_M_end_160 : decode b_M_end 160 = .ok (.return_, 1) := by decide +kernel
def F_M_end_L113_s1 (n : Nat) (c10 : Int32 → Int32 → Int32 → Int32 → zS → Option (Int32 × zS)) (v1 : Int32) (v2 : Int32) (v3 : Int32) (t0 : Int32) (st : zS) : Option (Int32 × zS) :=
    c10 v1 v2 v3 0 st

def F_M_end_L113 (n : Nat) (c10 : Int32 → Int32 → Int32 → Int32 → zS → Option (Int32 × zS)) (v1 : Int32) (v2 : Int32) (v3 : Int32) (v5 : Int32) (st : zS) : Option (Int32 × zS) :=
    (F_M_tellAll n v1 v2 0 v5 st).bind (fun u => F_M_end_L113_s1 n c10 v1 v2 v3 u.1 u.2)

def F_M_end_L70_s5 (n : Nat) (c10 : Int32 → Int32 → Int32 → Int32 → zS → Option (Int32 × zS)) (v5 : Int32) (v1 : Int32) (v2 : Int32) (v3 : Int32) (st : zS) : Option (Int32 × zS) :=
    F_M_end_L113 n c10 v1 v2 v3 v5 st

def F_M_end_L70_s4 (n : Nat) (c10 : Int32 → Int32 → Int32 → Int32 → zS → Option (Int32 × zS)) (v5 : Int32) (v1 : Int32) (v2 : Int32) (v3 : Int32) (st : zS) : Option (Int32 × zS) :=
    if v5 < 0 then (F_M_end_L113 n c10 v1 v2 v3 v5 st) else ((F_M_send n v1 v5 2 v2 st).bind (fun u => F_M_end_L70_s5 n c10 v5 v1 v2 v3 u.2))

def F_M_end_L70_s3 (n : Nat) (c10 : Int32 → Int32 → Int32 → Int32 → zS → Option (Int32 × zS)) (v5 : Int32) (v1 : Int32) (v2 : Int32) (v3 : Int32) (st : zS) : Option (Int32 × zS) :=
    if zOut v3 36 then none else F_M_end_L70_s4 n c10 v5 v1 v2 v3 (zs st 7 0 (Int32.toNatClampNeg v3) 0)

def F_M_end_L70_s2 (n : Nat) (c10 : Int32 → Int32 → Int32 → Int32 → zS → Option (Int32 × zS)) (v5 : Int32) (v1 : Int32) (v2 : Int32) (v3 : Int32) (st : zS) : Option (Int32 × zS) :=
    if zOut v3 36 then none else F_M_end_L70_s3 n c10 v5 v1 v2 v3 (zs st 6 0 (Int32.toNatClampNeg v3) 0)

def F_M_end_L70_s1 (n : Nat) (c10 : Int32 → Int32 → Int32 → Int32 → zS → Option (Int32 × zS)) (v5 : Int32) (v1 : Int32) (v2 : Int32) (v3 : Int32) (st : zS) : Option (Int32 × zS) :=
    if zOut v3 36 then none else F_M_end_L70_s2 n c10 v5 v1 v2 v3 (zs st 5 0 (Int32.toNatClampNeg v3) 0)

def F_M_end_L70 (n : Nat) (c10 : Int32 → Int32 → Int32 → Int32 → zS → Option (Int32 × zS)) (v1 : Int32) (v2 : Int32) (v3 : Int32) (t0 : Int32) (st : zS) : Option (Int32 × zS) :=
    (F_M_settle n v1 v2 st).bind (fun u => F_M_end_L70_s1 n c10 t0 v1 v2 v3 u.2)

def F_M_end_L155 (n : Nat) (c10 : Int32 → Int32 → Int32 → Int32 → zS → Option (Int32 × zS)) (v1 : Int32) (v2 : Int32) (v3 : Int32) (t0 : Int32) (st : zS) : Option (Int32 × zS) :=
    c10 v1 v2 v3 t0 st

def F_M_end_L41_s4 (n : Nat) (c10 : Int32 → Int32 → Int32 → Int32 → zS → Option (Int32 × zS)) (v1 : Int32) (v2 : Int32) (v3 : Int32) (t0 : Int32) (st : zS) : Option (Int32 × zS) :=
    if t0 = 0 then (F_M_end_L155 n c10 v1 v2 v3 1 st) else (F_M_end_L155 n c10 v1 v2 v3 0 st)

def F_M_end_L41_s3 (n : Nat) (c10 : Int32 → Int32 → Int32 → Int32 → zS → Option (Int32 × zS)) (v1 : Int32) (v2 : Int32) (v3 : Int32) (st : zS) : Option (Int32 × zS) :=
    (F_M_askAll n v1 v2 st).bind (fun u => F_M_end_L41_s4 n c10 v1 v2 v3 u.1 u.2)

def F_M_end_L41_s2 (n : Nat) (c10 : Int32 → Int32 → Int32 → Int32 → zS → Option (Int32 × zS)) (v1 : Int32) (v2 : Int32) (v3 : Int32) (t0 : Int32) (st : zS) : Option (Int32 × zS) :=
    if t0 = 0 then (if zOut v3 36 then none else F_M_end_L41_s3 n c10 v1 v2 v3 (zs st 7 0 (Int32.toNatClampNeg v3) 0)) else (if zOut v3 36 then none else if (st 6 0 (Int32.toNatClampNeg v3)) = 0 then (F_M_end_L70 n c10 v1 v2 v3 (-1) st) else (if zOut v3 36 then none else F_M_end_L70 n c10 v1 v2 v3 (st 4 0 (Int32.toNatClampNeg v3)) st))

def F_M_end_L41_s1 (n : Nat) (c10 : Int32 → Int32 → Int32 → Int32 → zS → Option (Int32 × zS)) (v1 : Int32) (v2 : Int32) (v3 : Int32) (st : zS) : Option (Int32 × zS) :=
    (F_M_isFine n v1 v2 st).bind (fun u => F_M_end_L41_s2 n c10 v1 v2 v3 u.1 u.2)

def F_M_end_L41 (n : Nat) (c10 : Int32 → Int32 → Int32 → Int32 → zS → Option (Int32 × zS)) (v1 : Int32) (v2 : Int32) (v3 : Int32) (t1 : Int32) (t2 : Int32) (st : zS) : Option (Int32 × zS) :=
    if zOut t1 36 then none else F_M_end_L41_s1 n c10 v1 v2 v3 (zs st 3 0 (Int32.toNatClampNeg t1) t2)

def F_M_end_L10 (n : Nat) : Nat → Int32 → Int32 → Int32 → Int32 → zS → Option (Int32 × zS)
  | 0, _, _, _, _, _ => none
  | f + 1, v1, v2, v3, v4, st =>
    if v4 = 0 then (some (0, st)) else (if zOut v3 36 then none else if (st 7 0 (Int32.toNatClampNeg v3)) = 0 then (F_M_end_L41 n (F_M_end_L10 n f) v1 v2 v3 v3 10000 st) else (if zOut v3 36 then none else F_M_end_L41 n (F_M_end_L10 n f) v1 v2 v3 v3 (st 3 0 (Int32.toNatClampNeg v3)) st))

def F_M_end (n : Nat) (v1 : Int32) (v2 : Int32) (st : zS) : Option (Int32 × zS) :=
    F_M_end_L10 n zFuel v1 v2 ((6 * v1) + v2) 1 st

set_option maxHeartbeats 4000000 in
set_option maxRecDepth 1000000 in
theorem T_M_end_L113 {dC : Nat → ClassId} {dI : Nat → Nat → Nat} {cI cZ cR cA : ClassId} {n : Nat} {ad : zK → Nat} {A : Nat → Prop} (hn : 2 ≤ n ∧ n ≤ 6) (hD : zD A zKm ad) {p : Program} {l : Launch} {e : Env} {s : State} {m : MethodId} {args : Array Value} {below : List Frame} {meth : Method} {c : Code} (S : CallFix p m c b_M_end 7 s args zT N_M) (hret : meth.sig.returnType = none) (hlk : meth.locks = false) (hK : va_K (dC, dI) zcl (zty cI cZ cR cA) s) (out : Int32 × zS) (c10 : Int32 → Int32 → Int32 → Int32 → zS → Option (Int32 × zS)) (hc10 : ∀ (v1 : Int32) (v2 : Int32) (v3 : Int32) (v4 : Int32) (st : zS) (H : Heap) (locs : List Loc) (ls : Array Slot), zV (dC, dI) zcl zKm ad (zmE n cI cZ ad) st H → va_S A s.heap H locs → lv_has ls 7 [(0, .ref (ad (0, 0))), (1, .int v1), (2, .int v2), (3, .int v3), (4, .int v4)] → c10 v1 v2 v3 v4 st = some out → W p l e rm_M_end s m args below meth c H locs 0 0 (zQ below A (fun o H => o = none ∧ zV (dC, dI) zcl zKm ad (zmE n cI cZ ad) out.2 H) args s) (F0 m 10 ls [])) (v1 : Int32) (v2 : Int32) (v3 : Int32) (v5 : Int32) (st : zS) (H : Heap) (locs : List Loc) (ls : Array Slot) (hP : zV (dC, dI) zcl zKm ad (zmE n cI cZ ad) st H) (hS : va_S A s.heap H locs) (hl : lv_has ls 7 [(0, .ref (ad (0, 0))), (1, .int v1), (2, .int v2), (3, .int v3), (5, .int v5)]) (hF : F_M_end_L113 n c10 v1 v2 v3 v5 st = some out) : W p l e rm_M_end s m args below meth c H locs 0 0 (zQ below A (fun o H => o = none ∧ zV (dC, dI) zcl zKm ad (zmE n cI cZ ad) out.2 H) args s) (F0 m 113 ls []) := by
  unfold F_M_end_L113 at hF
  refine lv_aload_n S.1 S.2.1 d_M_end_113 rfl (lv_at hl 0 rfl) ?_
  refine lv_iload_n S.1 S.2.1 d_M_end_114 rfl (lv_at hl 1 rfl) ?_
  refine lv_iload_n S.1 S.2.1 d_M_end_115 rfl (lv_at hl 2 rfl) ?_
  refine lv_iconst (v := 0) S.1 S.2.1 d_M_end_116 (by decide) ?_
  refine lv_iload S.1 S.2.1 d_M_end_117 (lv_at hl 4 rfl) ?_
  cases hc119 : F_M_tellAll n v1 v2 0 v5 st with
  | none => rw [hc119] at hF; cases hF
  | some u119 =>
    obtain ⟨r119, st119⟩ := u119
    rw [hc119] at hF
    replace hF := zbind hF
    refine zr_callV (rest := []) S zT_good (C_M_tellAll hn hD l v1 v2 0 v5 st (r119, st119) hc119) zn_M_tellAll zx_111 ⟨rfl, rfl⟩ ⟨Nat.le_of_ble_eq_true rfl, Nat.le_of_ble_eq_true rfl⟩ ⟨Nat.zero_le _, Nat.zero_le _⟩ hK (zr_recv hK hP zkm_0 rfl rfl) hP hl.1 (Nat.le_of_ble_eq_true rfl) hS (fun _ h => h) d_M_end_119 rfl (fun o H locs hpo _ _ hS => ?_)
    obtain ⟨rfl, hP⟩ := hpo
    refine W.eq (g2 := F0 m 122 ls [.int r119]) rfl ?_
    replace hF : F_M_end_L113_s1 n c10 v1 v2 v3 r119 st119 = some out := hF
    replace hP : zV (dC, dI) zcl zKm ad (zmE n cI cZ ad) st119 H := hP
    unfold F_M_end_L113_s1 at hF
    refine lv_istore S.1 S.2.1 d_M_end_122 hl (by decide) rfl (fun ls hl => ?_)
    have hl : lv_has ls 7 [(6, .int r119), (0, .ref (ad (0, 0))), (1, .int v1), (2, .int v2), (3, .int v3), (5, .int v5)] := hl
    refine lv_iconst (v := 0) S.1 S.2.1 d_M_end_124 (by decide) ?_
    refine lv_istore S.1 S.2.1 d_M_end_125 hl (by decide) rfl (fun ls hl => ?_)
    have hl : lv_has ls 7 [(4, .int 0), (6, .int r119), (0, .ref (ad (0, 0))), (1, .int v1), (2, .int v2), (3, .int v3), (5, .int v5)] := hl
    refine lv_goto (tgt := 10) S.1 S.2.1 d_M_end_127 (by decide) ?_
    exact hc10 v1 v2 v3 0 st119 _ _ _ hP hS (lv_sub hl [2, 3, 4, 5, 0] rfl) hF

set_option maxHeartbeats 4000000 in
set_option maxRecDepth 1000000 in
theorem T_M_end_L70 {dC : Nat → ClassId} {dI : Nat → Nat → Nat} {cI cZ cR cA : ClassId} {n : Nat} {ad : zK → Nat} {A : Nat → Prop} (hn : 2 ≤ n ∧ n ≤ 6) (hD : zD A zKm ad) {p : Program} {l : Launch} {e : Env} {s : State} {m : MethodId} {args : Array Value} {below : List Frame} {meth : Method} {c : Code} (S : CallFix p m c b_M_end 7 s args zT N_M) (hret : meth.sig.returnType = none) (hlk : meth.locks = false) (hK : va_K (dC, dI) zcl (zty cI cZ cR cA) s) (out : Int32 × zS) (c10 : Int32 → Int32 → Int32 → Int32 → zS → Option (Int32 × zS)) (hc10 : ∀ (v1 : Int32) (v2 : Int32) (v3 : Int32) (v4 : Int32) (st : zS) (H : Heap) (locs : List Loc) (ls : Array Slot), zV (dC, dI) zcl zKm ad (zmE n cI cZ ad) st H → va_S A s.heap H locs → lv_has ls 7 [(0, .ref (ad (0, 0))), (1, .int v1), (2, .int v2), (3, .int v3), (4, .int v4)] → c10 v1 v2 v3 v4 st = some out → W p l e rm_M_end s m args below meth c H locs 0 0 (zQ below A (fun o H => o = none ∧ zV (dC, dI) zcl zKm ad (zmE n cI cZ ad) out.2 H) args s) (F0 m 10 ls [])) (v1 : Int32) (v2 : Int32) (v3 : Int32) (t0 : Int32) (st : zS) (H : Heap) (locs : List Loc) (ls : Array Slot) (hP : zV (dC, dI) zcl zKm ad (zmE n cI cZ ad) st H) (hS : va_S A s.heap H locs) (hl : lv_has ls 7 [(0, .ref (ad (0, 0))), (1, .int v1), (2, .int v2), (3, .int v3)]) (hF : F_M_end_L70 n c10 v1 v2 v3 t0 st = some out) : W p l e rm_M_end s m args below meth c H locs 0 0 (zQ below A (fun o H => o = none ∧ zV (dC, dI) zcl zKm ad (zmE n cI cZ ad) out.2 H) args s) (F0 m 70 ls [.int t0]) := by
  unfold F_M_end_L70 at hF
  refine lv_istore S.1 S.2.1 d_M_end_70 hl (by decide) rfl (fun ls hl => ?_)
  have hl : lv_has ls 7 [(5, .int t0), (0, .ref (ad (0, 0))), (1, .int v1), (2, .int v2), (3, .int v3)] := hl
  refine lv_aload_n S.1 S.2.1 d_M_end_72 rfl (lv_at hl 1 rfl) ?_
  refine lv_iload_n S.1 S.2.1 d_M_end_73 rfl (lv_at hl 2 rfl) ?_
  refine lv_iload_n S.1 S.2.1 d_M_end_74 rfl (lv_at hl 3 rfl) ?_
  cases hc75 : F_M_settle n v1 v2 st with
  | none => rw [hc75] at hF; cases hF
  | some u75 =>
    obtain ⟨r75, st75⟩ := u75
    rw [hc75] at hF
    replace hF := zbind hF
    refine zr_callV (rest := []) S zT_good (C_M_settle hn hD l v1 v2 st (r75, st75) hc75) zn_M_settle zx_113 ⟨rfl, rfl⟩ ⟨Nat.le_of_ble_eq_true rfl, Nat.le_of_ble_eq_true rfl⟩ ⟨Nat.zero_le _, Nat.zero_le _⟩ hK (zr_recv hK hP zkm_0 rfl rfl) hP hl.1 (Nat.le_of_ble_eq_true rfl) hS (fun _ h => h) d_M_end_75 rfl (fun o H locs hpo _ _ hS => ?_)
    obtain ⟨rfl, hP⟩ := hpo
    refine W.eq (g2 := F0 m 78 ls []) rfl ?_
    replace hF : F_M_end_L70_s1 n c10 t0 v1 v2 v3 st75 = some out := hF
    replace hP : zV (dC, dI) zcl zKm ad (zmE n cI cZ ad) st75 H := hP
    unfold F_M_end_L70_s1 at hF
    refine lv_aload_n S.1 S.2.1 d_M_end_78 rfl (lv_at hl 1 rfl) ?_
    refine zr_get (v := .ref (ad (5, 0))) S zi_M hK hP zkm_0 rfl rfl 5 (by decide) zx_28 rfl d_M_end_79 ?_
    refine lv_iload_n S.1 S.2.1 d_M_end_82 rfl (lv_at hl 4 rfl) ?_
    refine lv_iconst (v := 0) S.1 S.2.1 d_M_end_83 (by decide) ?_
    by_cases g84 : zOut v3 36
    · rw [if_pos g84] at hF; cases hF
    rw [if_neg g84] at hF
    refine zr_zast S hK hP hD hS zkm_5 (fun _ => rfl) 1 rfl g84 (by decide) d_M_end_84 (fun H locs hP hS => ?_)
    replace hF : F_M_end_L70_s2 n c10 t0 v1 v2 v3 (zs st75 5 0 (Int32.toNatClampNeg v3) 0) = some out := hF
    generalize zs st75 5 0 (Int32.toNatClampNeg v3) 0 = st85 at hP hF
    unfold F_M_end_L70_s2 at hF
    refine lv_aload_n S.1 S.2.1 d_M_end_85 rfl (lv_at hl 1 rfl) ?_
    refine zr_get (v := .ref (ad (6, 0))) S zi_M hK hP zkm_0 rfl rfl 6 (by decide) zx_29 rfl d_M_end_86 ?_
    refine lv_iload_n S.1 S.2.1 d_M_end_89 rfl (lv_at hl 4 rfl) ?_
    refine lv_iconst (v := 0) S.1 S.2.1 d_M_end_90 (by decide) ?_
    by_cases g91 : zOut v3 36
    · rw [if_pos g91] at hF; cases hF
    rw [if_neg g91] at hF
    refine zr_zast S hK hP hD hS zkm_6 (fun _ => rfl) 1 rfl g91 (by decide) d_M_end_91 (fun H locs hP hS => ?_)
    replace hF : F_M_end_L70_s3 n c10 t0 v1 v2 v3 (zs st85 6 0 (Int32.toNatClampNeg v3) 0) = some out := hF
    generalize zs st85 6 0 (Int32.toNatClampNeg v3) 0 = st92 at hP hF
    unfold F_M_end_L70_s3 at hF
    refine lv_aload_n S.1 S.2.1 d_M_end_92 rfl (lv_at hl 1 rfl) ?_
    refine zr_get (v := .ref (ad (7, 0))) S zi_M hK hP zkm_0 rfl rfl 7 (by decide) zx_30 rfl d_M_end_93 ?_
    refine lv_iload_n S.1 S.2.1 d_M_end_96 rfl (lv_at hl 4 rfl) ?_
    refine lv_iconst (v := 0) S.1 S.2.1 d_M_end_97 (by decide) ?_
    by_cases g98 : zOut v3 36
    · rw [if_pos g98] at hF; cases hF
    rw [if_neg g98] at hF
    refine zr_zast S hK hP hD hS zkm_7 (fun _ => rfl) 1 rfl g98 (by decide) d_M_end_98 (fun H locs hP hS => ?_)
    replace hF : F_M_end_L70_s4 n c10 t0 v1 v2 v3 (zs st92 7 0 (Int32.toNatClampNeg v3) 0) = some out := hF
    generalize zs st92 7 0 (Int32.toNatClampNeg v3) 0 = st99 at hP hF
    unfold F_M_end_L70_s4 at hF
    refine lv_iload S.1 S.2.1 d_M_end_99 (lv_at hl 0 rfl) ?_
    refine lv_if_lt (tgt := 113) S.1 S.2.1 d_M_end_101 (by decide) (fun h101 => ?_) (fun h101 => ?_)
    · rw [if_pos h101] at hF
      exact T_M_end_L113 hn hD S hret hlk hK out c10 hc10 v1 v2 v3 t0 st99 _ _ _ hP hS (lv_sub hl [1, 2, 3, 4, 0] rfl) hF
    · rw [if_neg h101] at hF
      refine lv_aload_n S.1 S.2.1 d_M_end_104 rfl (lv_at hl 1 rfl) ?_
      refine lv_iload_n S.1 S.2.1 d_M_end_105 rfl (lv_at hl 2 rfl) ?_
      refine lv_iload S.1 S.2.1 d_M_end_106 (lv_at hl 0 rfl) ?_
      refine lv_iconst (v := 2) S.1 S.2.1 d_M_end_108 (by decide) ?_
      refine lv_iload_n S.1 S.2.1 d_M_end_109 rfl (lv_at hl 3 rfl) ?_
      cases hc110 : F_M_send n v1 t0 2 v2 st99 with
      | none => rw [hc110] at hF; cases hF
      | some u110 =>
        obtain ⟨r110, st110⟩ := u110
        rw [hc110] at hF
        replace hF := zbind hF
        refine zr_callV (rest := []) S zT_good (C_M_send hn hD l v1 t0 2 v2 st99 (r110, st110) hc110) zn_M_send zx_107 ⟨rfl, rfl⟩ ⟨Nat.le_of_ble_eq_true rfl, Nat.le_of_ble_eq_true rfl⟩ ⟨Nat.zero_le _, Nat.zero_le _⟩ hK (zr_recv hK hP zkm_0 rfl rfl) hP hl.1 (Nat.le_of_ble_eq_true rfl) hS (fun _ h => h) d_M_end_110 rfl (fun o H locs hpo _ _ hS => ?_)
        obtain ⟨rfl, hP⟩ := hpo
        refine W.eq (g2 := F0 m 113 ls []) rfl ?_
        replace hF : F_M_end_L70_s5 n c10 t0 v1 v2 v3 st110 = some out := hF
        replace hP : zV (dC, dI) zcl zKm ad (zmE n cI cZ ad) st110 H := hP
        unfold F_M_end_L70_s5 at hF
        exact T_M_end_L113 hn hD S hret hlk hK out c10 hc10 v1 v2 v3 t0 st110 _ _ _ hP hS (lv_sub hl [1, 2, 3, 4, 0] rfl) hF

set_option maxHeartbeats 4000000 in
set_option maxRecDepth 1000000 in
theorem T_M_end_L155 {dC : Nat → ClassId} {dI : Nat → Nat → Nat} {cI cZ cR cA : ClassId} {n : Nat} {ad : zK → Nat} {A : Nat → Prop} (hn : 2 ≤ n ∧ n ≤ 6) (hD : zD A zKm ad) {p : Program} {l : Launch} {e : Env} {s : State} {m : MethodId} {args : Array Value} {below : List Frame} {meth : Method} {c : Code} (S : CallFix p m c b_M_end 7 s args zT N_M) (hret : meth.sig.returnType = none) (hlk : meth.locks = false) (hK : va_K (dC, dI) zcl (zty cI cZ cR cA) s) (out : Int32 × zS) (c10 : Int32 → Int32 → Int32 → Int32 → zS → Option (Int32 × zS)) (hc10 : ∀ (v1 : Int32) (v2 : Int32) (v3 : Int32) (v4 : Int32) (st : zS) (H : Heap) (locs : List Loc) (ls : Array Slot), zV (dC, dI) zcl zKm ad (zmE n cI cZ ad) st H → va_S A s.heap H locs → lv_has ls 7 [(0, .ref (ad (0, 0))), (1, .int v1), (2, .int v2), (3, .int v3), (4, .int v4)] → c10 v1 v2 v3 v4 st = some out → W p l e rm_M_end s m args below meth c H locs 0 0 (zQ below A (fun o H => o = none ∧ zV (dC, dI) zcl zKm ad (zmE n cI cZ ad) out.2 H) args s) (F0 m 10 ls [])) (v1 : Int32) (v2 : Int32) (v3 : Int32) (t0 : Int32) (st : zS) (H : Heap) (locs : List Loc) (ls : Array Slot) (hP : zV (dC, dI) zcl zKm ad (zmE n cI cZ ad) st H) (hS : va_S A s.heap H locs) (hl : lv_has ls 7 [(0, .ref (ad (0, 0))), (1, .int v1), (2, .int v2), (3, .int v3)]) (hF : F_M_end_L155 n c10 v1 v2 v3 t0 st = some out) : W p l e rm_M_end s m args below meth c H locs 0 0 (zQ below A (fun o H => o = none ∧ zV (dC, dI) zcl zKm ad (zmE n cI cZ ad) out.2 H) args s) (F0 m 155 ls [.int t0]) := by
  unfold F_M_end_L155 at hF
  refine lv_istore S.1 S.2.1 d_M_end_155 hl (by decide) rfl (fun ls hl => ?_)
  have hl : lv_has ls 7 [(4, .int t0), (0, .ref (ad (0, 0))), (1, .int v1), (2, .int v2), (3, .int v3)] := hl
  refine lv_goto (tgt := 10) S.1 S.2.1 d_M_end_157 (by decide) ?_
  exact hc10 v1 v2 v3 t0 st _ _ _ hP hS (lv_sub hl [1, 2, 3, 4, 0] rfl) hF

set_option maxHeartbeats 4000000 in
set_option maxRecDepth 1000000 in
theorem T_M_end_L41 {dC : Nat → ClassId} {dI : Nat → Nat → Nat} {cI cZ cR cA : ClassId} {n : Nat} {ad : zK → Nat} {A : Nat → Prop} (hn : 2 ≤ n ∧ n ≤ 6) (hD : zD A zKm ad) {p : Program} {l : Launch} {e : Env} {s : State} {m : MethodId} {args : Array Value} {below : List Frame} {meth : Method} {c : Code} (S : CallFix p m c b_M_end 7 s args zT N_M) (hret : meth.sig.returnType = none) (hlk : meth.locks = false) (hK : va_K (dC, dI) zcl (zty cI cZ cR cA) s) (out : Int32 × zS) (c10 : Int32 → Int32 → Int32 → Int32 → zS → Option (Int32 × zS)) (hc10 : ∀ (v1 : Int32) (v2 : Int32) (v3 : Int32) (v4 : Int32) (st : zS) (H : Heap) (locs : List Loc) (ls : Array Slot), zV (dC, dI) zcl zKm ad (zmE n cI cZ ad) st H → va_S A s.heap H locs → lv_has ls 7 [(0, .ref (ad (0, 0))), (1, .int v1), (2, .int v2), (3, .int v3), (4, .int v4)] → c10 v1 v2 v3 v4 st = some out → W p l e rm_M_end s m args below meth c H locs 0 0 (zQ below A (fun o H => o = none ∧ zV (dC, dI) zcl zKm ad (zmE n cI cZ ad) out.2 H) args s) (F0 m 10 ls [])) (v1 : Int32) (v2 : Int32) (v3 : Int32) (t1 : Int32) (t2 : Int32) (st : zS) (H : Heap) (locs : List Loc) (ls : Array Slot) (hP : zV (dC, dI) zcl zKm ad (zmE n cI cZ ad) st H) (hS : va_S A s.heap H locs) (hl : lv_has ls 7 [(0, .ref (ad (0, 0))), (1, .int v1), (2, .int v2), (3, .int v3)]) (hF : F_M_end_L41 n c10 v1 v2 v3 t1 t2 st = some out) : W p l e rm_M_end s m args below meth c H locs 0 0 (zQ below A (fun o H => o = none ∧ zV (dC, dI) zcl zKm ad (zmE n cI cZ ad) out.2 H) args s) (F0 m 41 ls [.int t2, .int t1, .ref (ad (3, 0))]) := by
  unfold F_M_end_L41 at hF
  by_cases g41 : zOut t1 36
  · rw [if_pos g41] at hF; cases hF
  rw [if_neg g41] at hF
  refine zr_iast S hK hP hD hS zkm_3 (fun _ => rfl) 0 rfl g41 d_M_end_41 (fun H locs hP hS => ?_)
  replace hF : F_M_end_L41_s1 n c10 v1 v2 v3 (zs st 3 0 (Int32.toNatClampNeg t1) t2) = some out := hF
  generalize zs st 3 0 (Int32.toNatClampNeg t1) t2 = st42 at hP hF
  unfold F_M_end_L41_s1 at hF
  refine lv_aload_n S.1 S.2.1 d_M_end_42 rfl (lv_at hl 0 rfl) ?_
  refine lv_iload_n S.1 S.2.1 d_M_end_43 rfl (lv_at hl 1 rfl) ?_
  refine lv_iload_n S.1 S.2.1 d_M_end_44 rfl (lv_at hl 2 rfl) ?_
  cases hc45 : F_M_isFine n v1 v2 st42 with
  | none => rw [hc45] at hF; cases hF
  | some u45 =>
    obtain ⟨r45, st45⟩ := u45
    rw [hc45] at hF
    replace hF := zbind hF
    refine zr_callV (rest := []) S zT_good (C_M_isFine hn hD l v1 v2 st42 (r45, st45) hc45) zn_M_isFine zx_112 ⟨rfl, rfl⟩ ⟨Nat.le_of_ble_eq_true rfl, Nat.le_of_ble_eq_true rfl⟩ ⟨Nat.zero_le _, Nat.zero_le _⟩ hK (zr_recv hK hP zkm_0 rfl rfl) hP hl.1 (Nat.le_of_ble_eq_true rfl) hS (fun _ h => h) d_M_end_45 rfl (fun o H locs hpo _ _ hS => ?_)
    obtain ⟨rfl, hP⟩ := hpo
    refine W.eq (g2 := F0 m 48 ls [.int r45]) rfl ?_
    replace hF : F_M_end_L41_s2 n c10 v1 v2 v3 r45 st45 = some out := hF
    replace hP : zV (dC, dI) zcl zKm ad (zmE n cI cZ ad) st45 H := hP
    unfold F_M_end_L41_s2 at hF
    refine lv_if_eq (tgt := 130) S.1 S.2.1 d_M_end_48 (by decide) (fun h48 => ?_) (fun h48 => ?_)
    · rw [if_pos h48] at hF
      refine lv_aload_n S.1 S.2.1 d_M_end_130 rfl (lv_at hl 0 rfl) ?_
      refine zr_get (v := .ref (ad (7, 0))) S zi_M hK hP zkm_0 rfl rfl 7 (by decide) zx_30 rfl d_M_end_131 ?_
      refine lv_iload_n S.1 S.2.1 d_M_end_134 rfl (lv_at hl 3 rfl) ?_
      refine lv_iconst (v := 0) S.1 S.2.1 d_M_end_135 (by decide) ?_
      by_cases g136 : zOut v3 36
      · rw [if_pos g136] at hF; cases hF
      rw [if_neg g136] at hF
      refine zr_zast S hK hP hD hS zkm_7 (fun _ => rfl) 1 rfl g136 (by decide) d_M_end_136 (fun H locs hP hS => ?_)
      replace hF : F_M_end_L41_s3 n c10 v1 v2 v3 (zs st45 7 0 (Int32.toNatClampNeg v3) 0) = some out := hF
      generalize zs st45 7 0 (Int32.toNatClampNeg v3) 0 = st137 at hP hF
      unfold F_M_end_L41_s3 at hF
      refine lv_aload_n S.1 S.2.1 d_M_end_137 rfl (lv_at hl 0 rfl) ?_
      refine lv_iload_n S.1 S.2.1 d_M_end_138 rfl (lv_at hl 1 rfl) ?_
      refine lv_iload_n S.1 S.2.1 d_M_end_139 rfl (lv_at hl 2 rfl) ?_
      cases hc140 : F_M_askAll n v1 v2 st137 with
      | none => rw [hc140] at hF; cases hF
      | some u140 =>
        obtain ⟨r140, st140⟩ := u140
        rw [hc140] at hF
        replace hF := zbind hF
        refine zr_callV (rest := []) S zT_good (C_M_askAll hn hD l v1 v2 st137 (r140, st140) hc140) zn_M_askAll zx_114 ⟨rfl, rfl⟩ ⟨Nat.le_of_ble_eq_true rfl, Nat.le_of_ble_eq_true rfl⟩ ⟨Nat.zero_le _, Nat.zero_le _⟩ hK (zr_recv hK hP zkm_0 rfl rfl) hP hl.1 (Nat.le_of_ble_eq_true rfl) hS (fun _ h => h) d_M_end_140 rfl (fun o H locs hpo _ _ hS => ?_)
        obtain ⟨rfl, hP⟩ := hpo
        refine W.eq (g2 := F0 m 143 ls [.int r140]) rfl ?_
        replace hF : F_M_end_L41_s4 n c10 v1 v2 v3 r140 st140 = some out := hF
        replace hP : zV (dC, dI) zcl zKm ad (zmE n cI cZ ad) st140 H := hP
        unfold F_M_end_L41_s4 at hF
        refine lv_istore S.1 S.2.1 d_M_end_143 hl (by decide) rfl (fun ls hl => ?_)
        have hl : lv_has ls 7 [(5, .int r140), (0, .ref (ad (0, 0))), (1, .int v1), (2, .int v2), (3, .int v3)] := hl
        refine lv_iload S.1 S.2.1 d_M_end_145 (lv_at hl 0 rfl) ?_
        refine lv_if_ne (tgt := 154) S.1 S.2.1 d_M_end_147 (by decide) (fun h147 => ?_) (fun h147 => ?_)
        · rw [if_neg h147] at hF
          refine lv_iconst (v := 0) S.1 S.2.1 d_M_end_154 (by decide) ?_
          exact T_M_end_L155 hn hD S hret hlk hK out c10 hc10 v1 v2 v3 0 st140 _ _ _ hP hS (lv_sub hl [1, 2, 3, 4] rfl) hF
        · rw [if_pos h147] at hF
          refine lv_iconst (v := 1) S.1 S.2.1 d_M_end_150 (by decide) ?_
          refine lv_goto (tgt := 155) S.1 S.2.1 d_M_end_151 (by decide) ?_
          exact T_M_end_L155 hn hD S hret hlk hK out c10 hc10 v1 v2 v3 1 st140 _ _ _ hP hS (lv_sub hl [1, 2, 3, 4] rfl) hF
    · rw [if_neg h48] at hF
      refine lv_aload_n S.1 S.2.1 d_M_end_51 rfl (lv_at hl 0 rfl) ?_
      refine zr_get (v := .ref (ad (6, 0))) S zi_M hK hP zkm_0 rfl rfl 6 (by decide) zx_29 rfl d_M_end_52 ?_
      refine lv_iload_n S.1 S.2.1 d_M_end_55 rfl (lv_at hl 3 rfl) ?_
      by_cases g56 : zOut v3 36
      · rw [if_pos g56] at hF; cases hF
      rw [if_neg g56] at hF
      refine zr_zald S hK hP zkm_6 rfl 1 rfl g56 d_M_end_56 ?_
      refine lv_if_eq (tgt := 69) S.1 S.2.1 d_M_end_57 (by decide) (fun h57 => ?_) (fun h57 => ?_)
      · rw [if_pos h57] at hF
        refine lv_iconst (v := (-1)) S.1 S.2.1 d_M_end_69 (by decide) ?_
        exact T_M_end_L70 hn hD S hret hlk hK out c10 hc10 v1 v2 v3 (-1) st45 _ _ _ hP hS (lv_sub hl [0, 1, 2, 3] rfl) hF
      · rw [if_neg h57] at hF
        refine lv_aload_n S.1 S.2.1 d_M_end_60 rfl (lv_at hl 0 rfl) ?_
        refine zr_get (v := .ref (ad (4, 0))) S zi_M hK hP zkm_0 rfl rfl 4 (by decide) zx_27 rfl d_M_end_61 ?_
        refine lv_iload_n S.1 S.2.1 d_M_end_64 rfl (lv_at hl 3 rfl) ?_
        by_cases g65 : zOut v3 36
        · rw [if_pos g65] at hF; cases hF
        rw [if_neg g65] at hF
        refine zr_iald S hK hP zkm_4 rfl 0 rfl g65 d_M_end_65 ?_
        refine lv_goto (tgt := 70) S.1 S.2.1 d_M_end_66 (by decide) ?_
        exact T_M_end_L70 hn hD S hret hlk hK out c10 hc10 v1 v2 v3 (st45 4 0 (Int32.toNatClampNeg v3)) st45 _ _ _ hP hS (lv_sub hl [0, 1, 2, 3] rfl) hF

set_option maxHeartbeats 4000000 in
set_option maxRecDepth 1000000 in
theorem T_M_end_L10 {dC : Nat → ClassId} {dI : Nat → Nat → Nat} {cI cZ cR cA : ClassId} {n : Nat} {ad : zK → Nat} {A : Nat → Prop} (hn : 2 ≤ n ∧ n ≤ 6) (hD : zD A zKm ad) {p : Program} {l : Launch} {e : Env} {s : State} {m : MethodId} {args : Array Value} {below : List Frame} {meth : Method} {c : Code} (S : CallFix p m c b_M_end 7 s args zT N_M) (hret : meth.sig.returnType = none) (hlk : meth.locks = false) (hK : va_K (dC, dI) zcl (zty cI cZ cR cA) s) (out : Int32 × zS) : ∀ (fu : Nat) (v1 : Int32) (v2 : Int32) (v3 : Int32) (v4 : Int32) (st : zS) (H : Heap) (locs : List Loc) (ls : Array Slot) (hP : zV (dC, dI) zcl zKm ad (zmE n cI cZ ad) st H) (hS : va_S A s.heap H locs) (hl : lv_has ls 7 [(0, .ref (ad (0, 0))), (1, .int v1), (2, .int v2), (3, .int v3), (4, .int v4)]) (hF : F_M_end_L10 n fu v1 v2 v3 v4 st = some out), W p l e rm_M_end s m args below meth c H locs 0 0 (zQ below A (fun o H => o = none ∧ zV (dC, dI) zcl zKm ad (zmE n cI cZ ad) out.2 H) args s) (F0 m 10 ls []) := by
  intro fu
  induction fu with
  | zero => intro v1 v2 v3 v4 st H locs ls hP hS hl hF; rw [F_M_end_L10] at hF; cases hF
  | succ f ih =>
    intro v1 v2 v3 v4 st H locs ls hP hS hl hF
    rw [F_M_end_L10] at hF
    refine lv_iload S.1 S.2.1 d_M_end_10 (lv_at hl 4 rfl) ?_
    refine lv_if_eq (tgt := 160) S.1 S.2.1 d_M_end_12 (by decide) (fun h12 => ?_) (fun h12 => ?_)
    · rw [if_pos h12] at hF
      cases hF
      exact zr_vret S hret hlk hS d_M_end_160 ⟨rfl, hP⟩
    · rw [if_neg h12] at hF
      refine lv_aload_n S.1 S.2.1 d_M_end_15 rfl (lv_at hl 0 rfl) ?_
      refine zr_get (v := .ref (ad (3, 0))) S zi_M hK hP zkm_0 rfl rfl 3 (by decide) zx_26 rfl d_M_end_16 ?_
      refine lv_iload_n S.1 S.2.1 d_M_end_19 rfl (lv_at hl 3 rfl) ?_
      refine lv_aload_n S.1 S.2.1 d_M_end_20 rfl (lv_at hl 0 rfl) ?_
      refine zr_get (v := .ref (ad (7, 0))) S zi_M hK hP zkm_0 rfl rfl 7 (by decide) zx_30 rfl d_M_end_21 ?_
      refine lv_iload_n S.1 S.2.1 d_M_end_24 rfl (lv_at hl 3 rfl) ?_
      by_cases g25 : zOut v3 36
      · rw [if_pos g25] at hF; cases hF
      rw [if_neg g25] at hF
      refine zr_zald S hK hP zkm_7 rfl 1 rfl g25 d_M_end_25 ?_
      refine lv_if_eq (tgt := 38) S.1 S.2.1 d_M_end_26 (by decide) (fun h26 => ?_) (fun h26 => ?_)
      · rw [if_pos h26] at hF
        refine lv_sipush (v := 10000) S.1 S.2.1 d_M_end_38 (by decide) ?_
        exact T_M_end_L41 hn hD S hret hlk hK out (F_M_end_L10 n f) ih v1 v2 v3 v3 10000 st _ _ _ hP hS (lv_sub hl [0, 1, 2, 3] rfl) hF
      · rw [if_neg h26] at hF
        refine lv_aload_n S.1 S.2.1 d_M_end_29 rfl (lv_at hl 0 rfl) ?_
        refine zr_get (v := .ref (ad (3, 0))) S zi_M hK hP zkm_0 rfl rfl 3 (by decide) zx_26 rfl d_M_end_30 ?_
        refine lv_iload_n S.1 S.2.1 d_M_end_33 rfl (lv_at hl 3 rfl) ?_
        by_cases g34 : zOut v3 36
        · rw [if_pos g34] at hF; cases hF
        rw [if_neg g34] at hF
        refine zr_iald S hK hP zkm_3 rfl 0 rfl g34 d_M_end_34 ?_
        refine lv_goto (tgt := 41) S.1 S.2.1 d_M_end_35 (by decide) ?_
        exact T_M_end_L41 hn hD S hret hlk hK out (F_M_end_L10 n f) ih v1 v2 v3 v3 (st 3 0 (Int32.toNatClampNeg v3)) st _ _ _ hP hS (lv_sub hl [0, 1, 2, 3] rfl) hF

set_option maxHeartbeats 4000000 in
set_option maxRecDepth 1000000 in
theorem C_M_end {dC : Nat → ClassId} {dI : Nat → Nat → Nat} {cI cZ cR cA : ClassId} {n : Nat} {ad : zK → Nat} {A : Nat → Prop} (hn : 2 ≤ n ∧ n ≤ 6) (hD : zD A zKm ad) (l : Launch) (v1 : Int32) (v2 : Int32) (st : zS) (out : Int32 × zS) (hF : F_M_end n v1 v2 st = some out) : zC zT (dC, dI) zcl (zty cI cZ cR cA) A l y_M_end b_M_end 7 (none) rm_M_end [.ref (ad (0, 0)), .int v1, .int v2] (fun H => zV (dC, dI) zcl zKm ad (zmE n cI cZ ad) st H) (fun o H => o = none ∧ zV (dC, dI) zcl zKm ad (zmE n cI cZ ad) out.2 H) := by
  refine zC_of (by decide) (Nat.le_of_ble_eq_true rfl) (fun p e s m args below meth c ls S hret hlk hK hP hl => ?_)
  have hS : va_S A s.heap s.heap [] := va_S.rf
  have hl : lv_has ls 7 [(0, .ref (ad (0, 0))), (1, .int v1), (2, .int v2)] := hl
  have hP : zV (dC, dI) zcl zKm ad (zmE n cI cZ ad) st s.heap := hP
  unfold F_M_end at hF
  refine lv_bipush (v := 6) S.1 S.2.1 d_M_end_0 (by decide) ?_
  refine lv_iload_n S.1 S.2.1 d_M_end_2 rfl (lv_at hl 1 rfl) ?_
  refine lv_imul S.1 S.2.1 d_M_end_3 ?_
  refine lv_iload_n S.1 S.2.1 d_M_end_4 rfl (lv_at hl 2 rfl) ?_
  refine lv_iadd S.1 S.2.1 d_M_end_5 ?_
  refine lv_istore_n S.1 S.2.1 d_M_end_6 rfl hl (by decide) rfl (fun ls hl => ?_)
  have hl : lv_has ls 7 [(3, .int ((6 * v1) + v2)), (0, .ref (ad (0, 0))), (1, .int v1), (2, .int v2)] := hl
  refine lv_iconst (v := 1) S.1 S.2.1 d_M_end_7 (by decide) ?_
  refine lv_istore S.1 S.2.1 d_M_end_8 hl (by decide) rfl (fun ls hl => ?_)
  have hl : lv_has ls 7 [(4, .int 1), (3, .int ((6 * v1) + v2)), (0, .ref (ad (0, 0))), (1, .int v1), (2, .int v2)] := hl
  exact T_M_end_L10 hn hD S hret hlk hK out zFuel v1 v2 ((6 * v1) + v2) 1 st _ _ _ hP hS (lv_sub hl [2, 3, 4, 1, 0] rfl) hF

